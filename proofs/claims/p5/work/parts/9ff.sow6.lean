section SOU
variable {μ : TMem}
def VA (a2 a3 a4 : Int32) : Prop := (0 ≤ a2.toInt ∧ a2.toInt ≤ 65535) ∧ (1 ≤ a3.toInt ∧ a3.toInt ≤ 7) ∧ (0 ≤ a4.toInt ∧ a4.toInt ≤ 6)
theorem e_range {a lo hi : Int32} {Q : TMem → Prop} {X : String → TMem → Prop} (h : lo.toInt ≤ a.toInt ∧ a.toInt ≤ hi.toInt → Q μ) (hX : ¬ (lo.toInt ≤ a.toInt ∧ a.toInt ≤ hi.toInt) → X "java/lang/IllegalArgumentException" μ) : wp_X9_checkRange μ a lo hi Q X := by
  refine ⟨fun c => hX ?_, fun c1 => ⟨fun c => h ?_, fun c => hX ?_⟩⟩
  · rw [l_lt] at c
    omega
  · rw [l_lt] at c1
    rw [l_le] at c
    omega
  · rw [l_lt] at c1
    rw [l_le] at c
    omega
/-- the class's sow: what it answers, what it throws -/
theorem e_sow {a1 a2 a3 a4 : Int32} {Q : Int32 → TMem → Prop} {X : String → TMem → Prop} (h : M1 a1 → VA a2 a3 a4 → ∀ μ9 : TMem, Fr 3 μ μ9 → Q (AN a3 a4 a2 (3 * a3.toInt.toNat)) μ9) (h1 : ¬ M1 a1 → X "java/lang/IndexOutOfBoundsException" μ) (h2 : M1 a1 → ¬ VA a2 a3 a4 → X "java/lang/IllegalArgumentException" μ) : wp_X9_sow μ a1 a2 a3 a4 Q X := by
  refine ⟨fun c => h1 (fun m => ?_), fun c1 => ⟨fun c2 => ?_, fun c => h1 (fun m => ?_)⟩⟩
  · rw [l_lt, ii_0] at c
    have := m.1
    omega
  · rw [l_lt, ii_0] at c1
    rw [l_lt, show (4 : Int32).toInt = 4 from rfl] at c2
    have hm : M1 a1 := ⟨by omega, by omega⟩
    have hk : kd (2 + 2 * a1.toNatClampNeg) = 2 := kd_ma _ hm.cl
    refine ⟨vin (by omega), e_range (fun r2 => e_range (fun r3 => e_range (fun r4 => ?_) (fun n4 => h2 hm (fun v => n4 v.2.2))) (fun n3 => h2 hm (fun v => n3 v.2.1))) (fun n2 => h2 hm (fun v => n2 v.1))⟩
    have hv : VA a2 a3 a4 := ⟨r2, r3, r4⟩
    obtain ⟨n1, n7⟩ := hv.2.1
    have f1 : Fr 3 μ (tms μ 14 0 a2) := Fr.st Fr.rf (by rfl) (Or.inl (by decide))
    refine e_clear hk n1 n7 (fun μ7 f7 s7 m7 => ?_)
    have x7 : μ7 14 0 = a2 := by
      rw [m7 14 (fun e => (k14 hk).1 e.symm) (fun e => (k14 hk).2 e.symm)]
      simp [tms, upd]
    refine e_arrows (seed := a2) hk n1 n7 hv.2.2 ⟨Fr.rf, s7, x7, fun j hj => absurd hj (Nat.not_lt_zero _)⟩ (fun μ8 s8 => e_goals hk s8.2.1 n7 (fun μ9 f9 s9 c9 => e_count (seed := a2) (ch := a4) hk s9 n1 n7 (fun i hi => by rw [c9]; exact s8.2.2.2 i hi) ?_))
    exact h hm hv _ (Fr.st (((f1.trans f7).trans s8.1).trans f9) (by rfl) (Or.inl (by decide)))
  · have := m.2
    exact c (by rw [l_lt, show (4 : Int32).toInt = 4 from rfl]; omega)
def TH (a1 a2 a3 a4 : Int32) (t : Int32) : Prop := (M1 a1 → VA a2 a3 a4 → t = 0) ∧ (M1 a1 → ¬ VA a2 a3 a4 → t = 2) ∧ (¬ M1 a1 → t = 1)
theorem r_isIn {a lo hi : Int32} {Q : Int32 → Prop} (h : lo.toInt ≤ a.toInt ∧ a.toInt ≤ hi.toInt → Q 1) (h0 : ¬ (lo.toInt ≤ a.toInt ∧ a.toInt ≤ hi.toInt) → Q 0) : wp_X11_isIn a lo hi Q := by
  refine ⟨fun c => h0 ?_, fun c1 => ⟨fun c => h0 ?_, fun c2 => h ?_⟩⟩
  · rw [l_lt] at c
    omega
  · rw [l_lt] at c
    omega
  · rw [l_lt] at c1 c2
    omega
/-- the reference's sow: what it answers, what it keeps as thrown -/
theorem r_sow {a1 a2 a3 a4 : Int32} {Qm : Int32 → TMem → Prop} (hI : RI μ) (h : ∀ (r : Int32) (μ9 : TMem), FQ μ μ9 → TH a1 a2 a3 a4 (μ9 0 7) → (M1 a1 → VA a2 a3 a4 → r = AN a3 a4 a2 (3 * a3.toInt.toNat)) → Qm r μ9) : wp_X11_sow μ a1 a2 a3 a4 Qm := by
  have ft : ∀ t : Int32, FQ μ (tms μ 0 7 t) := fun t => (FQ.rf hI).st (by decide) (Or.inr (by decide))
  have et : ∀ t : Int32, (tms μ 0 7 t) 0 7 = t := fun t => by simp [tms, upd]
  have bad : ∀ t : Int32, ¬ t = 0 → TH a1 a2 a3 a4 t → ¬ (M1 a1 ∧ VA a2 a3 a4) → ∀ {B : Prop}, ((if t = 0 then (0 : Int32) else 1) = 0 → B) ∧ (¬ (if t = 0 then (0 : Int32) else 1) = 0 → Qm 0 (tms μ 0 7 t)) := fun t h0 hT hn B => by
    rw [if_neg h0]
    exact ⟨fun z => absurd z (by decide), fun _ => h 0 _ (ft t) (by rw [et]; exact hT) (fun m v => absurd ⟨m, v⟩ hn)⟩
  have key : ∀ r1 : Int32, (r1 = 1 ∧ M1 a1 ∨ r1 = 0 ∧ ¬ M1 a1) → wp_X11_isIn a2 (0 : Int32) (65535 : Int32) (fun (r2 : Int32) => ∀ J3 : Int32 → Prop, (∀ (j4 : Int32), (wp_X11_isThrown μ r1 j4 (fun (r6 : Int32) (μ5 : TMem) => (r6 = 0 → (wp_X11_clear μ5 a1 a3 (fun (μ8 : TMem) => ∃ n8x, wpl_X11_sow_61 a1 a3 a4 (fun (u55 : Int32) (μ56 : TMem) => ∃ n56x, wpl_X11_sow_193 a1 a3 (fun (μ68 : TMem) => wp_X11_arrowsOf μ68 a1 (fun (r71 : Int32) => wp_X11_did μ68 r71 (fun (r73 : Int32) (μ72 : TMem) => Qm r73 μ72))) n56x (0 : Int32) u55 μ56) n8x (0 : Int32) a2 μ8))) ∧ (¬ r6 = 0 → (Qm (0 : Int32) μ5)))) → J3 j4) → ((r2 = 0 → (J3 (0 : Int32))) ∧ (¬ r2 = 0 → (wp_X11_isIn a3 (1 : Int32) (7 : Int32) (fun (r75 : Int32) => (r75 = 0 → (J3 (0 : Int32))) ∧ (¬ r75 = 0 → (wp_X11_isIn a4 (0 : Int32) (6 : Int32) (fun (r77 : Int32) => (r77 = 0 → (J3 (0 : Int32))) ∧ (¬ r77 = 0 → (J3 (1 : Int32))))))))))) := by
    intro r1 hr1
    have go0 : ∀ J3 : Int32 → Prop, (∀ (j4 : Int32), (wp_X11_isThrown μ r1 j4 (fun (r6 : Int32) (μ5 : TMem) => (r6 = 0 → (wp_X11_clear μ5 a1 a3 (fun (μ8 : TMem) => ∃ n8x, wpl_X11_sow_61 a1 a3 a4 (fun (u55 : Int32) (μ56 : TMem) => ∃ n56x, wpl_X11_sow_193 a1 a3 (fun (μ68 : TMem) => wp_X11_arrowsOf μ68 a1 (fun (r71 : Int32) => wp_X11_did μ68 r71 (fun (r73 : Int32) (μ72 : TMem) => Qm r73 μ72))) n56x (0 : Int32) u55 μ56) n8x (0 : Int32) a2 μ8))) ∧ (¬ r6 = 0 → (Qm (0 : Int32) μ5)))) → J3 j4) → ¬ VA a2 a3 a4 → J3 0 := by
      intro J3 hJ hn
      refine hJ 0 (r_thrown (fun t ht => ?_))
      rcases hr1 with ⟨e, m⟩ | ⟨e, m⟩
      · rw [e, if_neg (by decide), if_pos rfl] at ht
        exact bad t (by rw [ht]; decide) ⟨fun _ v => absurd v hn, fun _ _ => ht, fun z => absurd m z⟩ (fun z => hn z.2)
      · rw [e, if_pos rfl] at ht
        exact bad t (by rw [ht]; decide) ⟨fun z => absurd z m, fun z => absurd z m, fun _ => ht⟩ (fun z => m z.1)
    have go1 : ∀ J3 : Int32 → Prop, (∀ (j4 : Int32), (wp_X11_isThrown μ r1 j4 (fun (r6 : Int32) (μ5 : TMem) => (r6 = 0 → (wp_X11_clear μ5 a1 a3 (fun (μ8 : TMem) => ∃ n8x, wpl_X11_sow_61 a1 a3 a4 (fun (u55 : Int32) (μ56 : TMem) => ∃ n56x, wpl_X11_sow_193 a1 a3 (fun (μ68 : TMem) => wp_X11_arrowsOf μ68 a1 (fun (r71 : Int32) => wp_X11_did μ68 r71 (fun (r73 : Int32) (μ72 : TMem) => Qm r73 μ72))) n56x (0 : Int32) u55 μ56) n8x (0 : Int32) a2 μ8))) ∧ (¬ r6 = 0 → (Qm (0 : Int32) μ5)))) → J3 j4) → VA a2 a3 a4 → J3 1 := by
      intro J3 hJ hv
      refine hJ 1 (r_thrown (fun t ht => ?_))
      rcases hr1 with ⟨e, hm⟩ | ⟨e, m⟩
      · rw [e, if_neg (by decide), if_neg (by decide)] at ht
        rw [ht, if_pos rfl]
        refine ⟨fun _ => ?_, fun z => absurd rfl z⟩
        obtain ⟨n1, n7⟩ := hv.2.1
        refine r_clear hm (ft 0).1 n1 n7 (fun μ8 f8 z8 c8 => r_61 (seed := a2) hm n1 n7 hv.2.2 ⟨FQ.rf f8.1, fun _ _ => rfl, fun j hj => absurd hj (Nat.not_lt_zero _), fun j _ hj => c8 j hj⟩ (fun μ9 s9 => r_193 hm n7 s9.1.1 (fun μa fa ma => r_arrowsOf (ch := a4) (seed := a2) hm n7 (fun j hj => by rw [ma 4 (by decide)]; exact s9.2.2.1 j hj) (fun j h1 h2 => by rw [ma 4 (by decide)]; exact s9.2.2.2 j h1 h2) ?_)))
        have ff : FQ μ (tms μa 0 4 ((μa 0 4) + 1)) := ((((ft 0).trans f8).trans s9.1).trans fa).st (by decide) (Or.inr (by decide))
        refine h _ _ ff ?_ (fun _ _ => rfl)
        have e7 : (tms μa 0 4 ((μa 0 4) + 1)) 0 7 = 0 := by
          have : (tms μa 0 4 ((μa 0 4) + 1)) 0 7 = μa 0 7 := by simp [tms, upd]
          rw [this, ma 0 (by decide), s9.2.1 0 (by decide), z8]
          exact et 0
        rw [e7]
        exact ⟨fun _ _ => rfl, fun _ z => absurd hv z, fun z => absurd hm z⟩
      · rw [e, if_pos rfl] at ht
        exact bad t (by rw [ht]; decide) ⟨fun z => absurd z m, fun z => absurd z m, fun _ => ht⟩ (fun z => m z.1)
    refine r_isIn (fun i2 => ?_) (fun n2 => ?_)
    · intro J3 hJ
      refine ⟨fun z => absurd z (by decide), fun _ => r_isIn (fun i3 => ⟨fun z => absurd z (by decide), fun _ => r_isIn (fun i4 => ⟨fun z => absurd z (by decide), fun _ => go1 J3 hJ ⟨i2, i3, i4⟩⟩) (fun n4 => ⟨fun _ => go0 J3 hJ (fun v => n4 v.2.2), fun z => absurd rfl z⟩)⟩) (fun n3 => ⟨fun _ => go0 J3 hJ (fun v => n3 v.2.1), fun z => absurd rfl z⟩)⟩
    · intro J3 hJ
      exact ⟨fun _ => go0 J3 hJ (fun v => n2 v.1), fun z => absurd rfl z⟩
  have one : ∀ Q : Int32 → Prop, (M1 a1 → Q 1) → (¬ M1 a1 → Q 0) → wp_X11_isOne a1 Q := fun Q h1 h0 => r_isIn (fun z => ⟨Or.inr rfl, h1 z⟩) (fun z => ⟨Or.inl rfl, h0 z⟩)
  exact one _ (fun i1 => key 1 (Or.inl ⟨rfl, i1⟩)) (fun n1 => key 0 (Or.inr ⟨rfl, n1⟩))
end SOU
