section RMB
variable {Q : Int32 → Prop} {Qm : Int32 → TMem → Prop} {Qv : TMem → Prop} {μ : TMem}
theorem t_fnd {a1 a2 : Int32} {K : Option AI → Prop} (hm : M1 a1) (hI : RI μ) (h : ∀ r, OWo r → K r) : wp_X11_found μ a1 a2 K := (fnd μ a1 a2 hI hm.1 hm.2).use h
theorem t_after {a1 a2 a3 a4 : Int32} (hI : RI μ) (h : ∀ (r : Int32) (μ9 : TMem), FQ μ μ9 → Qm r μ9) : wp_X11_after μ a1 a2 a3 a4 Qm := by
  refine t_isOne (fun r1 b1 h1 => t_isWord (fun r2 h2 => ?_))
  intro J hJ
  have key : ∀ j : Int32, (j ≠ 0 → r2 ≠ 0) → J j := by
    intro j hj
    refine hJ j (t_thr hI (h 0) (fun μ5 f5 c1 c2 => ?_))
    have hm := h1 c1
    have h3 := (h2 (hj c2)).2
    refine ⟨fun _ => ?_, fun _ => t_setAfter hm f5.1 h3 (fun r => h _ _ f5)⟩
    intro J9 hJ9
    have key9 : ∀ j, J9 j := by
      intro j
      refine hJ9 j (t_fnd hm f5.1 (fun r hr => ⟨fun _ => t_isCrowded_n f5.1 (fun μ9 f9 => ⟨fun z => absurd z (by decide), fun _ => h _ _ (f5.trans f9)⟩), fun n f e => ?_⟩))
      obtain ⟨S, hS1, hS, rfl, hf, _⟩ := (hr n f e).get
      refine t_isCrowded f5.1 (fun μ9 f9 => ⟨fun _ => ?_, fun z => absurd rfl z⟩)
      have L : ∀ (n : Nat) (v30 v31 v32 : Int32), (a2.toInt - v30.toInt).toNat < n → 0 ≤ v31.toInt → 0 ≤ v32.toInt → v32.toInt < S → wpl_X11_after_88_28 μ9 f (4 * S) a2 Qm n v30 v31 v32 := by
        intro n
        induction n with
        | zero => intro v30 v31 v32 hk; exact absurd hk (Nat.not_lt_zero _)
        | succ n ih =>
          intro v30 v31 v32 hk h31 g1 g2
          refine ⟨fun _ => h _ _ (f5.trans f9), fun c => ?_⟩
          have c1 := nle c
          have e1 := inc_i c
          obtain ⟨m1, m2⟩ := mod3 h31
          obtain ⟨k1, k2, k3⟩ := fourk g1 g2 hS m1.1 (by omega)
          refine ⟨k3, ?_⟩
          have k4 := hf v32.toInt.toNat (v31 - v31 / (3 : Int32) * (3 : Int32)).toInt.toNat (by omega) (by omega)
          rw [k2]
          exact ih _ _ _ (by omega) m2 k4.1 k4.2
      exact ⟨_, L _ 0 a3 0 (Nat.lt_succ_self _) h3 (by decide) (by rw [ii_0]; omega)⟩
    exact ⟨fun _ => key9 _, fun _ => key9 _⟩
  exact ⟨fun _ => key 0 (fun z => absurd rfl z), fun c => t_isIn (fun r b h5 => ⟨fun _ => key 0 (fun z => absurd rfl z), fun _ => key 1 (fun _ => c)⟩)⟩
theorem t_size {a1 a2 : Int32} (hI : RI μ) (h : ∀ (r : Int32) (μ9 : TMem), FQ μ μ9 → Qm r μ9) : wp_X11_size μ a1 a2 Qm := by
  refine t_isOne (fun r1 b1 h1 => t_isIn (fun r2 b2 h2 => t_thr hI (h 0) (fun μ3 f3 c1 c2 => ?_)))
  exact t_fnd (h1 c1) f3.1 (fun r hr => ⟨fun _ => t_isCrowded_n f3.1 (fun μ9 f9 => ⟨fun z => absurd z (by decide), fun _ => h _ _ (f3.trans f9)⟩), fun n f e => t_isCrowded f3.1 (fun μ9 f9 => ⟨fun _ => h _ _ (f3.trans f9), fun _ => h _ _ (f3.trans f9)⟩)⟩)
theorem t_isReached {S : Nat} {f : Nat → Int32} {a2 : Int32} (hS : S ≤ 32) (h : ∀ r : Int32, Q r) : wp_X11_isReached (4 * S) f a2 Q := by
  obtain ⟨q1, q2, q3, q4⟩ := quart hS
  have L29 : ∀ (v15 v17 : Int32) (v18 : Int64) (v19 : Int32) (K : Int64 → Prop), 0 ≤ v15.toInt → v15.toInt < S → (∀ u, K u) → ∀ (n : Nat) (v14 : Int32) (v16 : Int64), ((3 : Int) - v14.toInt).toNat < n → 0 ≤ v14.toInt → wpl_X11_isReached_29 f (4 * S) v15 v17 v18 v19 K n v14 v16 := by
    intro v15 v17 v18 v19 K g1 g2 hK n
    induction n with
    | zero => intro v14 v16 hk; exact absurd hk (Nat.not_lt_zero _)
    | succ n ih =>
      intro v14 v16 hk h0
      refine ⟨fun _ => hK _, fun c => ?_⟩
      have c1 := nle c
      have e1 := inc_i c
      rw [show (3 : Int32).toInt = 3 from rfl] at c1
      exact ⟨fun _ => ih _ _ (by omega) (by omega), fun _ => ⟨(fourk g1 g2 hS h0 (by omega)).2.2, ih _ _ (by omega) (by omega)⟩⟩
  have L17 : ∀ (v9 : Int32) (v10 : Int64) (v11 : Int32) (K : Int64 → Prop), (∀ u, K u) → ∀ (n : Nat) (v7 : Int32) (v8 : Int64), ((S : Int) - v7.toInt).toNat < n → 0 ≤ v7.toInt → wpl_X11_isReached_17 f (4 * S) v9 v10 v11 K n v7 v8 := by
    intro v9 v10 v11 K hK n
    induction n with
    | zero => intro v7 v8 hk; exact absurd hk (Nat.not_lt_zero _)
    | succ n ih =>
      intro v7 v8 hk h0
      refine ⟨fun _ => hK _, fun c => ?_⟩
      have c1 := nle c
      have e1 := inc_i c
      rw [q1] at c1
      exact ⟨_, L29 v7 v9 v10 v11 _ h0 c1 (fun u => ih _ _ (by omega) (by omega)) _ 0 v8 (Nat.lt_succ_self _) (by decide)⟩
  have L5 : ∀ (K : Int64 → Prop), (∀ u, K u) → ∀ (n : Nat) (v2 : Int32) (v3 : Int64), (a2.toInt - v2.toInt).toNat < n → wpl_X11_isReached_5 f (4 * S) a2 K n v2 v3 := by
    intro K hK n
    induction n with
    | zero => intro v2 v3 hk; exact absurd hk (Nat.not_lt_zero _)
    | succ n ih =>
      intro v2 v3 hk
      refine ⟨fun _ => hK _, fun c => ?_⟩
      have c1 := nle c
      have e1 := inc_i c
      exact ⟨_, L17 v2 v3 a2 _ (fun u => ih _ _ (by omega)) _ 0 _ (Nat.lt_succ_self _) (by decide)⟩
  have L86 : ∀ (v31 : Int64) (n : Nat) (v30 : Int32), ((S : Int) - v30.toInt).toNat < n → 0 ≤ v30.toInt → wpl_X11_isReached_86 f (4 * S) v31 Q n v30 := by
    intro v31 n
    induction n with
    | zero => intro v30 hk; exact absurd hk (Nat.not_lt_zero _)
    | succ n ih =>
      intro v30 hk h0
      refine ⟨fun _ => h _, fun c => ?_⟩
      have c1 := nle c
      have e1 := inc_i c
      rw [q1] at c1
      exact ⟨fun _ => ih _ (by omega) (by omega), fun _ => ⟨(fourk h0 c1 hS (by decide) (by decide)).2.2, fun _ => ih _ (by omega) (by omega), fun _ => h _⟩⟩
  exact ⟨_, L5 _ (fun u => ⟨_, L86 u _ 0 (Nat.lt_succ_self _) (by decide)⟩) _ 0 _ (Nat.lt_succ_self _)⟩
theorem t_kind {a1 : Int32} (hI : RI μ) (h : ∀ (r : Int32) (μ9 : TMem), FQ μ μ9 → Qm r μ9) : wp_X11_kind μ a1 Qm := by
  refine t_isOne (fun r1 b1 h1 => t_thr hI (h 0) (fun μ3 f3 c1 c2 => ?_))
  refine t_fnd (h1 c1) f3.1 (fun r hr => ⟨fun _ => t_isCrowded_n f3.1 (fun μ9 f9 => ⟨fun z => absurd z (by decide), fun _ => h _ _ (f3.trans f9)⟩), fun n f e => t_isCrowded f3.1 (fun μ9 f9 => ⟨fun _ => ?_, fun _ => h _ _ (f3.trans f9)⟩)⟩)
  obtain ⟨S, hS1, hS, rfl, hf, _⟩ := (hr n f e).get
  obtain ⟨q1, q2, q3, q4⟩ := quart hS
  have L : ∀ (n : Nat) (v18 : Int32), ((2 : Int) * S - v18.toInt).toNat < n → wpl_X11_kind_49 μ9 f (4 * S) ((nI (4 * S)) / (4 : Int32)) Qm n v18 := by
    intro n
    induction n with
    | zero => intro v18 hk; exact absurd hk (Nat.not_lt_zero _)
    | succ n ih =>
      intro v18 hk
      refine ⟨fun _ => h _ _ (f3.trans f9), fun c => ?_⟩
      have c1 := nle c
      have e1 := inc_i c
      have e2 : ((2 : Int32) * ((nI (4 * S)) / (4 : Int32))).toInt = 2 * (S : Int) := ii_m rfl q1 (by omega) (by omega)
      rw [e2] at c1
      exact t_isReached hS (fun r21 => ⟨fun _ => ih _ (by omega), fun _ => h _ _ (f3.trans f9)⟩)
  exact ⟨fun _ => ⟨_, L _ _ (Nat.lt_succ_self _)⟩, fun _ => ⟨vin (by rw [show (3 : Int32).toInt = 3 from rfl]; omega), h _ _ (f3.trans f9)⟩⟩
theorem t_ways {S : Nat} {f : Nat → Int32} {a2 : Int32} (ho : OW (4 * S) f) (h2 : 0 ≤ a2.toInt ∧ a2.toInt ≤ 12) (h : ∀ r : Int32, Qm r μ) : wp_X11_ways (4 * S) f a2 (fun (n34 : Nat) (f35 : Nat → Int32) => vp_in (a2 * ((nI (4 * S)) / (4 : Int32))) n34 ∧ (Qm (f35 (a2 * ((nI (4 * S)) / (4 : Int32))).toNatClampNeg) μ)) := by
  obtain ⟨S2, hS1, hS, e, hf, hg⟩ := ho.get
  have e2 : S2 = S := by omega
  subst e2
  obtain ⟨q1, q2, q3, q4⟩ := quart hS
  obtain ⟨g, _, k⟩ := wy S2 a2.toInt.toNat f a2 hS1 hS (by omega) (by omega) hf hg
  refine k _ ⟨vin ?_, h _⟩
  obtain ⟨L, hL⟩ : ∃ L : Nat, a2.toInt = L := ⟨a2.toInt.toNat, by omega⟩
  have hL2 : L ≤ 12 := by omega
  have b1 : L * S2 ≤ 12 * S2 := Nat.mul_le_mul_right _ hL2
  have k1 : (a2 * ((nI (4 * S2)) / (4 : Int32))).toInt = ((L * S2 : Nat) : Int) := (ii_m hL q1 (by rw [← Int.natCast_mul]; omega) (by rw [← Int.natCast_mul]; omega)).trans (by rw [Int.natCast_mul])
  have k2 : a2.toInt.toNat = L := by omega
  rw [k1, k2, Nat.mul_succ, Nat.mul_comm S2 L]
  omega
theorem t_many {a1 a2 a3 : Int32} (hI : RI μ) (h : ∀ (r : Int32) (μ9 : TMem), FQ μ μ9 → Qm r μ9) : wp_X11_many μ a1 a2 a3 Qm := by
  refine t_isOne (fun r1 b1 h1 => t_isIn (fun r2 b2 h2 => ?_))
  intro J hJ
  have key : ∀ j : Int32, (j ≠ 0 → r2 ≠ 0) → J j := by
    intro j hj
    refine hJ j (t_thr hI (h 0) (fun μ5 f5 c1 c2 => ?_))
    have hm := h1 c1
    have hl := h2 (hj c2)
    rw [ii_0, show (12 : Int32).toInt = 12 from rfl] at hl
    refine ⟨fun _ => ?_, fun _ => t_fnd hm f5.1 (fun r hr => ⟨fun _ => t_isCrowded_n f5.1 (fun μ9 f9 => ⟨fun z => absurd z (by decide), fun _ => h _ _ (f5.trans f9)⟩), fun n f e => t_isCrowded f5.1 (fun μ9 f9 => ⟨fun _ => ?_, fun _ => h _ _ (f5.trans f9)⟩)⟩)⟩
    · obtain ⟨r, hr⟩ := t_power a2
      have L : ∀ (n : Nat) (v10 v11 : Int32), (r.toInt - v10.toInt).toNat < n → 0 ≤ v10.toInt → wpl_X11_many_94 μ5 a1 a2 Qm n v10 v11 := by
        intro n
        induction n with
        | zero => intro v10 v11 hk; exact absurd hk (Nat.not_lt_zero _)
        | succ n ih =>
          intro v10 v11 hk h0
          refine hr _ ⟨fun _ => h _ _ f5, fun c => ?_⟩
          have c1 := nle c
          have e1 := inc_i c
          exact t_setAfter hm f5.1 h0 (fun r18 => ⟨hm.in4, fun _ => ih _ _ (by omega) (by omega), fun _ => ih _ _ (by omega) (by omega)⟩)
      exact ⟨_, L _ 0 0 (Nat.lt_succ_self _) (by decide)⟩
    · have ho := hr n f e
      obtain ⟨S, _, _, rfl, _, _⟩ := ho.get
      exact t_ways ho hl (fun r => h _ _ (f5.trans f9))
  have no : J 0 := key 0 (fun z => absurd rfl z)
  exact ⟨fun _ => no, fun c => t_isIn (fun r b h5 => ⟨fun _ => no, fun _ => ⟨fun _ => key 1 (fun _ => c), fun _ => ⟨fun _ => no, fun _ => key 1 (fun _ => c)⟩⟩⟩)⟩
/-- where a pair goes by one sign -/
def nx2 (fa1 fa2 : Nat → Int32) (p v : Int32) : Int32 := ((fa1 (((4 : Int32) * (p / (32 : Int32))) + v).toNatClampNeg) * (32 : Int32)) + (fa2 (((4 : Int32) * (p - p / (32 : Int32) * (32 : Int32))) + v).toNatClampNeg)
theorem nx2_ok {S1 S2 : Nat} {fa1 fa2 : Nat → Int32} (h1 : S1 ≤ 32) (h2 : S2 ≤ 32) (hf1 : ∀ k s : Nat, k < S1 → s < 3 → 0 ≤ (fa1 (4 * k + s)).toInt ∧ (fa1 (4 * k + s)).toInt < S1) (hf2 : ∀ k s : Nat, k < S2 → s < 3 → 0 ≤ (fa2 (4 * k + s)).toInt ∧ (fa2 (4 * k + s)).toInt < S2) {p v : Int32} (hp : PR S1 S2 p) (hv : 0 ≤ v.toInt) (hv3 : v.toInt < 3) : vp_in ((4 : Int32) * (p / (32 : Int32)) + v) (4 * S1) ∧ vp_in ((4 : Int32) * (p - p / (32 : Int32) * (32 : Int32)) + v) (4 * S2) ∧ PR S1 S2 (nx2 fa1 fa2 p v) := by
  obtain ⟨e1, e2⟩ := hp.parts
  obtain ⟨g1, g2, g3⟩ := hp
  obtain ⟨a1, a2, a3⟩ := fourk (x := p / (32 : Int32)) (y := v) (S := S1) (by omega) (by omega) h1 hv (by omega)
  obtain ⟨b1, b2, b3⟩ := fourk (x := p - p / (32 : Int32) * (32 : Int32)) (y := v) (S := S2) (by omega) (by omega) h2 hv (by omega)
  refine ⟨a3, b3, ?_⟩
  unfold nx2
  rw [a2, b2]
  exact (PR.mk h1 h2 (hf1 _ _ (by omega) (by omega)) (hf2 _ _ (by omega) (by omega))).2
/-- rows of met pairs: each is a pair, and where those before (a, b) go is among them -/
def MV (fa1 fa2 : Nat → Int32) (S1 S2 : Nat) (f : Nat → Int32) (z a : Nat) (b : Int) : Prop :=
  (∀ k, k < z → PR S1 S2 (f (3 * k + 1))) ∧ ∀ (k : Nat) (v : Int32), 0 ≤ v.toInt → v.toInt < 3 → (k < a ∨ (k = a ∧ v.toInt < b)) → ∃ t, t < z ∧ f (3 * t + 1) = nx2 fa1 fa2 (f (3 * k + 1)) v
section MV
variable {fa1 fa2 : Nat → Int32} {S1 S2 : Nat} {f f' : Nat → Int32} {z z' a : Nat} {b : Int}
theorem MV.move (h : MV fa1 fa2 S1 S2 f z a b) (ha : a ≤ z) (hab : a < z ∨ b ≤ 0) (hf : ∀ k, k < z → f' (3 * k + 1) = f (3 * k + 1)) (hz : z ≤ z') (hr : ∀ k, z ≤ k → k < z' → PR S1 S2 (f' (3 * k + 1))) : MV fa1 fa2 S1 S2 f' z' a b := by
  refine ⟨fun k hk => ?_, fun k v h0 h3 hk => ?_⟩
  · by_cases e : k < z
    · rw [hf k e]
      exact h.1 k e
    · exact hr k (by omega) hk
  · obtain ⟨t, ht, e⟩ := h.2 k v h0 h3 hk
    exact ⟨t, by omega, by rw [hf t ht, hf k (by omega)]; exact e⟩
theorem MV.next {v : Int32} (h : MV fa1 fa2 S1 S2 f z a b) (hv : v.toInt = b) (ht : 0 ≤ b → ∃ t, t < z ∧ f (3 * t + 1) = nx2 fa1 fa2 (f (3 * a + 1)) v) : MV fa1 fa2 S1 S2 f z a (b + 1) := by
  refine ⟨h.1, fun k w h0 h3 hk => ?_⟩
  by_cases e : k < a ∨ (k = a ∧ w.toInt < b)
  · exact h.2 k w h0 h3 e
  · have e1 : k = a := by omega
    have e2 : w.toInt = v.toInt := by omega
    have e3 : w = v := l_eq.mpr e2
    subst e1
    subst e3
    exact ht (by omega)
theorem MV.row (h : MV fa1 fa2 S1 S2 f z a b) (hb : 3 ≤ b) : MV fa1 fa2 S1 S2 f z (a + 1) 0 := ⟨h.1, fun k w h0 h3 hk => h.2 k w h0 h3 (by omega)⟩
theorem MV.neg (h : MV fa1 fa2 S1 S2 f z a 0) : MV fa1 fa2 S1 S2 f z a (-1) := ⟨h.1, fun k w h0 h3 hk => h.2 k w h0 h3 (by omega)⟩
end MV
/-- from where each met pair was met, and by which sign -/
def MG (f : Nat → Int32) (z : Nat) : Prop := ∀ k, 1 ≤ k → k < z → (0 ≤ (f (3 * k + 2)).toInt ∧ (f (3 * k + 2)).toInt < k) ∧ (-1 ≤ (f (3 * k + 3)).toInt ∧ (f (3 * k + 3)).toInt ≤ 2)
theorem i3 {x c : Int32} {z : Nat} (h : x.toInt = z) (hz : z ≤ 201) (h0 : -2 ≤ c.toInt) (hc : c.toInt ≤ 3) : ((3 : Int32) * x + c).toInt = 3 * z + c.toInt := by
  exact ii_a (ii_m rfl h (by omega) (by omega)) rfl (by omega) (by omega)
/-- what a walk of pairs gives -/
def MP (fa1 fa2 : Nat → Int32) (S1 S2 M : Nat) (v16 : Int32) (f : Nat → Int32) : Prop := ∃ z : Nat, (f 0).toInt = z ∧ 1 ≤ z ∧ z ≤ M + 1 ∧ (∀ k, k < z → PR S1 S2 (f (3 * k + 1))) ∧ (z ≤ M → v16 = 0 → MV fa1 fa2 S1 S2 f z z 0) ∧ MG f z
theorem mt27 {fa1 fa2 : Nat → Int32} {S1 S2 M : Nat} {v13 v15 v16 : Int32} {a : Nat} {K : Int32 → (Nat → Int32) → Prop} {Q : Nat → (Nat → Int32) → Prop} (h1 : S1 ≤ 32) (h2 : S2 ≤ 32) (hf1 : ∀ k s : Nat, k < S1 → s < 3 → 0 ≤ (fa1 (4 * k + s)).toInt ∧ (fa1 (4 * k + s)).toInt < S1) (hf2 : ∀ k s : Nat, k < S2 → s < 3 → 0 ≤ (fa2 (4 * k + s)).toInt ∧ (fa2 (4 * k + s)).toInt < S2) (hM : v15.toInt = M) (hM2 : M ≤ 200) (h13 : v13.toInt = a)
    (hQ : ∀ f, MP fa1 fa2 S1 S2 M v16 f → Q (3 * M + 4) f) (hK : ∀ (v14 : Int32) (f : Nat → Int32) (z : Nat), v14.toInt = z → z ≤ M → a < z → MV fa1 fa2 S1 S2 f z (a + 1) 0 → f 0 = v14 → MG f z → K v14 f) :
    ∀ (n : Nat) (v12 v14 : Int32) (f : Nat → Int32) (z : Nat), ((3 : Int) - v12.toInt).toNat < n → -1 ≤ v12.toInt → v14.toInt = z → a < z → z ≤ M → MV fa1 fa2 S1 S2 f z a v12.toInt → (v12.toInt = -1 ∨ f 0 = v14) → MG f z → wpl_X11_met_27 fa1 (4 * S1) fa2 (4 * S2) (3 * M + 4) v13 v15 v16 K Q n v12 v14 f := by
  intro n
  induction n with
  | zero => intro v12 v14 f z hk; exact absurd hk (Nat.not_lt_zero _)
  | succ n ih =>
    intro v12 v14 f z hk h0 h14 haz hzM hV hf0 hG
    refine ⟨fun c => ?_, fun c => ?_⟩
    · rw [l_le, show (3 : Int32).toInt = 3 from rfl] at c
      exact hK v14 f z h14 hzM haz (hV.row c) (hf0.resolve_left (by omega)) hG
    have c1 := nle c
    have e1 := inc_i c
    rw [show (3 : Int32).toInt = 3 from rfl] at c1
    have i1 : ((3 : Int32) * v13 + (1 : Int32)).toInt = 3 * (a : Int) + 1 := i3 h13 (by omega) (by decide) (by decide)
    have i2 : ((3 : Int32) * v13 + (1 : Int32)).toNatClampNeg = 3 * a + 1 := by rw [ii_cl, i1]; omega
    refine ⟨vin (by omega), ?_⟩
    intro J20 hJ20
    have key20 : ∀ j21 : Int32, PR S1 S2 j21 → (0 ≤ v12.toInt → j21 = nx2 fa1 fa2 (f (3 * a + 1)) v12) → J20 j21 := by
      intro j21 hj hn
      have L87 : ∀ (K114 : Int32 → Prop), (∀ u : Int32, 0 ≤ u.toInt → u.toInt ≤ z → (u = v14 ∨ (u.toInt < z ∧ f (3 * u.toInt.toNat + 1) = j21)) → K114 u) → ∀ (n : Nat) (v23 : Int32), ((z : Int) - v23.toInt).toNat < n → 0 ≤ v23.toInt → v23.toInt ≤ z → wpl_X11_met_87 fa1 (4 * S1) fa2 (4 * S2) f (3 * M + 4) j21 v12 v13 v14 v15 v16 K114 n v23 := by
        intro K114 hK114 n
        induction n with
        | zero => intro v23 hk; exact absurd hk (Nat.not_lt_zero _)
        | succ n ih =>
          intro v23 hk g0 g1
          refine ⟨fun c => ?_, fun c => ?_⟩
          · rw [l_le] at c
            exact hK114 _ g0 g1 (Or.inl (l_eq.mpr (by omega)))
          have c1 := nle c
          have e1 := inc_i c
          have ii : ((3 : Int32) * v23 + (1 : Int32)).toInt = 3 * (v23.toInt.toNat : Int) + 1 := i3 (by omega) (by omega) (by decide) (by decide)
          refine ⟨vin (by omega), fun c5 => hK114 _ g0 g1 (Or.inr ⟨by omega, ?_⟩), fun _ => ih _ (by omega) (by omega) (by omega)⟩
          have ij : ((3 : Int32) * v23 + (1 : Int32)).toNatClampNeg = 3 * v23.toInt.toNat + 1 := by rw [ii_cl, ii]; omega
          rw [ij] at c5
          exact c5
      refine hJ20 j21 ⟨_, L87 _ (fun u u0 u1 hu => ?_) _ 0 (Nat.lt_succ_self _) (by decide) (by rw [ii_0]; omega)⟩
      intro J35 hJ35
      have key35 : ∀ (j36 : Int32) (f37 : Nat → Int32) (z' : Nat), j36.toInt = z' → z ≤ z' → z' ≤ z + 1 → MV fa1 fa2 S1 S2 f37 z' a (v12.toInt + 1) → MG f37 z' → J35 j36 f37 := by
        intro j36 f37 z' hj6 hz1 hz2 hV' hG'
        have hG8 : MG (upd f37 (0 : Int32).toNatClampNeg j36) z' := fun k g1 g2 => by
          rw [show (0 : Int32).toNatClampNeg = 0 from rfl, upd_ne (by omega), upd_ne (by omega)]
          exact hG' k g1 g2
        have hV8 : MV fa1 fa2 S1 S2 (upd f37 (0 : Int32).toNatClampNeg j36) z' a (v12.toInt + 1) := hV'.move (by omega) (by omega) (fun k _ => upd_ne (by rw [show (0 : Int32).toNatClampNeg = 0 from rfl]; omega)) (Nat.le_refl _) (fun k g1 g2 => by omega)
        have h00 : (upd f37 (0 : Int32).toNatClampNeg j36) 0 = j36 := upd_at
        have go : z' ≤ M → wpl_X11_met_27 fa1 (4 * S1) fa2 (4 * S2) (3 * M + 4) v13 v15 v16 K Q n (v12 + (1 : Int32)) j36 (upd f37 (0 : Int32).toNatClampNeg j36) := fun hz => ih _ _ _ z' (by omega) (by omega) hj6 (by omega) hz (by rw [e1]; exact hV8) (Or.inr h00) hG8
        refine hJ35 j36 f37 ⟨vin (by rw [ii_0]; omega), fun c3 => ?_, fun c3 => ?_⟩
        · rw [l_lt] at c3
          exact hQ _ ⟨z', by rw [h00]; exact hj6, by omega, by omega, hV8.1, fun hz => by omega, hG8⟩
        · rw [l_lt] at c3
          refine ⟨fun _ => go (by omega), fun c4 => ?_⟩
          have i5 : ((3 : Int32) * j36 - (2 : Int32)).toInt = 3 * (z' : Int) - 2 := ii_s (ii_m rfl hj6 (by omega) (by omega)) rfl (by omega) (by omega)
          refine ⟨vin (by omega), (iu S1 S2 fa1 fa2 _ h1 h2 ?_).use (fun r42 _ => ⟨fun _ => go (by omega), fun _ => hQ _ ⟨z', by rw [h00]; exact hj6, by omega, by omega, hV8.1, fun _ z => absurd z c4, hG8⟩⟩)⟩
          have i6 : ((3 : Int32) * j36 - (2 : Int32)).toNatClampNeg = 3 * (z' - 1) + 1 := by rw [ii_cl, i5]; omega
          rw [i6]
          exact hV8.1 _ (by omega)
      refine ⟨fun c3 => key35 v14 f z h14 (Nat.le_refl _) (by omega) (hV.next rfl (fun hb => ?_)) hG, fun c3 => ?_⟩
      · obtain ⟨ht, e5⟩ := hu.resolve_left c3
        exact ⟨u.toInt.toNat, by omega, by rw [e5]; exact hn hb⟩
      · have i1 : ((3 : Int32) * v14 + (1 : Int32)).toInt = 3 * (z : Int) + 1 := i3 h14 (by omega) (by decide) (by decide)
        have i2 : ((3 : Int32) * v14 + (2 : Int32)).toInt = 3 * (z : Int) + 2 := i3 h14 (by omega) (by decide) (by decide)
        have i3' : ((3 : Int32) * v14 + (3 : Int32)).toInt = 3 * (z : Int) + 3 := i3 h14 (by omega) (by decide) (by decide)
        have j1 : ((3 : Int32) * v14 + (1 : Int32)).toNatClampNeg = 3 * z + 1 := by rw [ii_cl, i1]; omega
        have j2 : ((3 : Int32) * v14 + (2 : Int32)).toNatClampNeg = 3 * z + 2 := by rw [ii_cl, i2]; omega
        have j3 : ((3 : Int32) * v14 + (3 : Int32)).toNatClampNeg = 3 * z + 3 := by rw [ii_cl, i3']; omega
        refine ⟨vin (by omega), vin (by omega), vin (by omega), ?_⟩
        rw [j1, j2, j3]
        have e14 : (v14 + (1 : Int32)).toInt = v14.toInt + 1 := ii_a rfl rfl (by omega) (by omega)
        have hnew : (upd (upd (upd f (3 * z + 1) j21) (3 * z + 2) v13) (3 * z + 3) v12) (3 * z + 1) = j21 := by
          rw [upd_ne (by omega), upd_ne (by omega), upd_at]
        have hold : ∀ k, k < z → (upd (upd (upd f (3 * z + 1) j21) (3 * z + 2) v13) (3 * z + 3) v12) (3 * k + 1) = f (3 * k + 1) := fun k hk => by
          rw [upd_ne (by omega), upd_ne (by omega), upd_ne (by omega)]
        refine key35 _ _ (z + 1) (by omega) (by omega) (Nat.le_refl _) ((hV.move (by omega) (Or.inl haz) hold (Nat.le_succ z) (fun k g1 g2 => ?_)).next rfl (fun hb => ⟨z, Nat.lt_succ_self z, ?_⟩)) (fun k g1 g2 => ?_)
        · have : k = z := by omega
          subst this
          rw [hnew]
          exact hj
        · rw [hnew, hold a haz]
          exact hn hb
        · by_cases ek : k = z
          · subst ek
            rw [upd_ne (by omega), upd_at, upd_at]
            exact ⟨⟨by omega, by omega⟩, ⟨h0, by omega⟩⟩
          · rw [upd_ne (by omega), upd_ne (by omega), upd_ne (by omega), upd_ne (by omega), upd_ne (by omega), upd_ne (by omega)]
            exact hG k g1 (by omega)
    have hpa := hV.1 a haz
    refine ⟨fun c3 => ?_, fun c3 => ?_⟩
    · rw [l_le, ii_0] at c3
      rw [i2]
      obtain ⟨k1, k2, k3⟩ := nx2_ok h1 h2 hf1 hf2 hpa c3 c1
      exact ⟨k1, k2, key20 _ k3 (fun _ => rfl)⟩
    · rw [i2]
      exact key20 _ hpa (fun hb => absurd (by rw [l_le, ii_0]; exact hb) c3)
theorem mt17 {fa1 fa2 : Nat → Int32} {S1 S2 M : Nat} {v15 v16 : Int32} {Q : Nat → (Nat → Int32) → Prop} (h1 : S1 ≤ 32) (h2 : S2 ≤ 32) (hf1 : ∀ k s : Nat, k < S1 → s < 3 → 0 ≤ (fa1 (4 * k + s)).toInt ∧ (fa1 (4 * k + s)).toInt < S1) (hf2 : ∀ k s : Nat, k < S2 → s < 3 → 0 ≤ (fa2 (4 * k + s)).toInt ∧ (fa2 (4 * k + s)).toInt < S2) (hM : v15.toInt = M) (hM2 : M ≤ 200)
    (hQ : ∀ f, MP fa1 fa2 S1 S2 M v16 f → Q (3 * M + 4) f) :
    ∀ (n : Nat) (v4 v5 : Int32) (f : Nat → Int32) (a z : Nat), (M - a) < n → v4.toInt = a → v5.toInt = z → a ≤ z → 1 ≤ z → z ≤ M → MV fa1 fa2 S1 S2 f z a 0 → (a = 0 ∨ f 0 = v5) → MG f z → wpl_X11_met_17 fa1 (4 * S1) fa2 (4 * S2) (3 * M + 4) v15 v16 Q n v4 v5 f := by
  intro n
  induction n with
  | zero => intro v4 v5 f a z hk; exact absurd hk (Nat.not_lt_zero _)
  | succ n ih =>
    intro v4 v5 f a z hk h4 h5 haz hz1 hzM hV hf0 hG
    refine ⟨fun c => ?_, fun c => ?_⟩
    · rw [l_le] at c
      have e : a = z := by omega
      subst e
      have e0 := hf0.resolve_left (by omega)
      exact hQ f ⟨a, by rw [e0]; exact h5, hz1, by omega, hV.1, fun _ _ => hV, hG⟩
    have c1 := nle c
    have e1 := inc_i c
    exact ⟨_, mt27 h1 h2 hf1 hf2 hM hM2 h4 hQ (fun v14 f9 z9 g14 gM gaz gV g0 gG => ih _ _ _ (a + 1) z9 (by omega) (by omega) g14 (by omega) (by omega) gM gV (Or.inr g0) gG) _ (-1) v5 f z (Nat.lt_succ_self _) (by decide) h5 (by omega) hzM hV.neg (Or.inl rfl) hG⟩
theorem t_met {fa1 fa2 : Nat → Int32} {S1 S2 M : Nat} {a3 a4 : Int32} {Q : Nat → (Nat → Int32) → Prop} (h11 : 1 ≤ S1) (h12 : 1 ≤ S2) (h1 : S1 ≤ 32) (h2 : S2 ≤ 32) (hf1 : ∀ k s : Nat, k < S1 → s < 3 → 0 ≤ (fa1 (4 * k + s)).toInt ∧ (fa1 (4 * k + s)).toInt < S1) (hf2 : ∀ k s : Nat, k < S2 → s < 3 → 0 ≤ (fa2 (4 * k + s)).toInt ∧ (fa2 (4 * k + s)).toInt < S2) (hM : a3.toInt = M) (hM1 : 1 ≤ M) (hM2 : M ≤ 200)
    (hQ : ∀ f, MP fa1 fa2 S1 S2 M a4 f → Q (3 * M + 4) f) : wp_X11_met (4 * S1) fa1 (4 * S2) fa2 a3 a4 Q := by
  have k1 : (a3 + (1 : Int32)).toInt = (M : Int) + 1 := ii_a hM rfl (by omega) (by omega)
  have k2 : ((3 : Int32) * (a3 + (1 : Int32)) + (1 : Int32)).toInt = 3 * ((M : Int) + 1) + 1 := ii_a (ii_m rfl k1 (by omega) (by omega)) rfl (by omega) (by omega)
  have k3 : ((3 : Int32) * (a3 + (1 : Int32)) + (1 : Int32)).toNatClampNeg = 3 * M + 4 := by rw [ii_cl, k2]; omega
  refine ⟨⟨fun c => ?_, ?_⟩, ?_⟩
  · rw [l_lt, k2, ii_0] at c
    omega
  · rw [k3]
    omega
  · rw [k3]
    refine ⟨_, mt17 h1 h2 hf1 hf2 hM hM2 hQ _ 0 1 (fun _ => 0) 0 1 (Nat.lt_succ_self _) rfl rfl (by decide) (Nat.le_refl _) hM1 ⟨fun k hk => ?_, fun k v g0 g3 hk => ?_⟩ (Or.inl rfl) (fun k g1 g2 => by omega)⟩
    · exact (show PR S1 S2 0 from ⟨by decide, by rw [ii_0]; omega, by rw [ii_0]; omega⟩)
    · omega
theorem t_isCrowded' {na1 : Nat} {fa1 : Nat → Int32} {a2 : Int32} (hI : RI μ) (h : ∀ μ9 : TMem, FQ μ μ9 → (∀ k : Nat, 1 ≤ k → μ9 k = μ k) → Qm 0 μ9) : wp_X11_isCrowded μ na1 fa1 a2 Qm := h _ ((FQ.rf hI).st (by decide) (Or.inr (by decide))) (fun k hk => by
  have : k ≠ 0 := by omega
  simp [tms, this])
theorem MP.last {fa1 fa2 : Nat → Int32} {S1 S2 M : Nat} {v16 : Int32} {f : Nat → Int32} (h : MP fa1 fa2 S1 S2 M v16 f) (hM : M ≤ 200) : vp_in ((3 : Int32) * (f 0) - (2 : Int32)) (3 * M + 4) ∧ PR S1 S2 (f ((3 : Int32) * (f 0) - (2 : Int32)).toNatClampNeg) := by
  obtain ⟨z, h0, h1, h2, h3, _⟩ := h
  have i5 : ((3 : Int32) * (f 0) - (2 : Int32)).toInt = 3 * (z : Int) - 2 := ii_s (ii_m rfl h0 (by omega) (by omega)) rfl (by omega) (by omega)
  have i6 : ((3 : Int32) * (f 0) - (2 : Int32)).toNatClampNeg = 3 * (z - 1) + 1 := by rw [ii_cl, i5]; omega
  exact ⟨vin (by omega), by rw [i6]; exact h3 _ (by omega)⟩
def MPa (f : Nat → Int32) : Prop := ∃ z : Nat, (f 0).toInt = z ∧ 1 ≤ z ∧ z ≤ 201 ∧ MG f z
theorem t_pairsOf {a1 a2 : Int32} {K : Option AI → Prop} (m1 : M1 a1) (m2 : M1 a2) (hI : RI μ) (h0 : K none) (h : ∀ f : Nat → Int32, MPa f → (∀ μ' : TMem, (∀ k : Nat, 1 ≤ k → μ' k = μ k) → ∀ Q : Int32 → Prop, (∀ r, isB r → Q r) → wp_X11_isApart μ' a1 a2 604 f Q) → K (some (604, f))) : wp_X11_pairsOf μ a1 a2 K := by
  obtain ⟨r1, o1, k1⟩ := owm μ a1 hI m1.1 m1.2
  obtain ⟨r2, o2, k2⟩ := owm μ a2 hI m2.1 m2.2
  refine k1 μ (fun _ _ => rfl) _ ⟨fun e1 => k2 μ (fun _ _ => rfl) _ ⟨fun _ => h0, fun _ _ _ => h0⟩, fun n4 f5 e1 => k2 μ (fun _ _ => rfl) _ ⟨fun _ => h0, fun n15 f16 e2 => ?_⟩⟩
  obtain ⟨S1, g11, g1, rfl, hf1, _⟩ := (o1 n4 f5 e1).get
  obtain ⟨S2, g12, g2, rfl, hf2, _⟩ := (o2 n15 f16 e2).get
  refine t_met (M := 200) g11 g12 g1 g2 hf1 hf2 rfl (by decide) (Nat.le_refl _) (fun f hf => ⟨vin (by rw [ii_0]; omega), fun _ => h f (by obtain ⟨z, e0, z1, z2, _, _, hG⟩ := hf; exact ⟨z, e0, z1, z2, hG⟩) (fun μ' e Q hQ => ?_), fun _ => h0⟩)
  obtain ⟨p1, p2⟩ := hf.last (Nat.le_refl _)
  refine k1 μ' e _ ⟨fun z => absurd (e1.symm.trans z) (by simp), fun n f3 e3 => k2 μ' e _ ⟨fun z => absurd (e2.symm.trans z) (by simp), fun n' f4 e4 => ?_⟩⟩
  have q1 := e1.symm.trans e3
  have q2 := e2.symm.trans e4
  cases q1
  cases q2
  exact ⟨vin (by rw [ii_0]; omega), p1, (iu S1 S2 f5 f16 _ g1 g2 p2).use (fun r hr => ⟨hr, hQ r hr⟩)⟩
theorem OWp.keep {f : Nat → Int32} {a s S : Int} {p : Nat} {u : Int32} (h : OWp f a s S) (hp : (p : Int) = 4 * a + s) (h0 : 0 ≤ s) (h3 : s < 3) : OWp (upd f p u) a s S := by
  refine ⟨fun k i hi hk => ?_, fun k hk => ?_⟩
  · rw [upd_ne (by omega)]
    exact h.1 k i hi hk
  · rw [upd_ne (by omega)]
    exact h.2 k hk
theorem OWp.done {f : Nat → Int32} {a s S : Int} {p : Nat} (h : OWp f a s S) (hp : (p : Int) = 4 * a + s) (h0 : 0 ≤ (f p).toInt) (h1 : (f p).toInt < S) : OWp f a (s + 1) S := by
  refine ⟨fun k i hi hk => ?_, h.2⟩
  by_cases e : (k : Int) < a ∨ ((k : Int) = a ∧ (i : Int) < s)
  · exact h.1 k i hi e
  · have : 4 * k + i = p := by omega
    rw [this]
    exact ⟨h0, h1⟩
def ZI (f : Nat → Int32) (a : Nat) (s : Int) : Prop := ∀ j : Nat, 4 * (a : Int) + s ≤ j → j ≠ 4 * a + 3 → f j = 0
theorem bt221 {μ : TMem} {f16 f19 f5 : Nat → Int32} {n15 n4 z a t : Nat} {v50 v51 v52 v53 v54 v55 : Int32} {K : (Nat → Int32) → Prop} {P : (Nat → Int32) → Prop} (hz : z ≤ 32) (ha : a < z) (ht : t < z) (h54 : v54.toInt = a) (h51 : 0 ≤ v51.toInt) (h513 : v51.toInt < 3) (hft : f19 (3 * t + 1) = v50)
    (hP : ∀ g u, P g → P (upd g (4 * a + v51.toInt.toNat) u)) (hK : ∀ g, P g → 0 ≤ (g (4 * a + v51.toInt.toNat)).toInt → (g (4 * a + v51.toInt.toNat)).toInt ≤ t → K g) :
    ∀ (n : Nat) (g : Nat → Int32), ((t : Int) - (g (4 * a + v51.toInt.toNat)).toInt).toNat < n → 0 ≤ (g (4 * a + v51.toInt.toNat)).toInt → (g (4 * a + v51.toInt.toNat)).toInt ≤ t → P g → wpl_X11_both_221 μ f16 n15 f19 100 (4 * z) f5 n4 v50 v51 v52 v53 v54 v55 K n g := by
  obtain ⟨k1, k2, k3⟩ := fourk (x := v54) (y := v51) (S := z) (by omega) (by omega) hz h51 (by omega)
  have k4 : ((4 : Int32) * v54 + v51).toNatClampNeg = 4 * a + v51.toInt.toNat := by rw [k2]; omega
  intro n
  induction n with
  | zero => intro g hk; exact absurd hk (Nat.not_lt_zero _)
  | succ n ih =>
    intro g hk h0 h1 p
    have ii : ((3 : Int32) * (g (4 * a + v51.toInt.toNat)) + (1 : Int32)).toInt = 3 * ((g (4 * a + v51.toInt.toNat)).toInt.toNat : Int) + 1 := i3 (by omega) (by omega) (by decide) (by decide)
    have ij : ((3 : Int32) * (g (4 * a + v51.toInt.toNat)) + (1 : Int32)).toNatClampNeg = 3 * (g (4 * a + v51.toInt.toNat)).toInt.toNat + 1 := by rw [ii_cl, ii]; omega
    refine ⟨k3, ?_⟩
    rw [k4]
    refine ⟨vin (by omega), fun _ => hK g p h0 h1, fun c => ⟨k3, k3, ?_⟩⟩
    rw [ij] at c
    have ne : (g (4 * a + v51.toInt.toNat)).toInt ≠ t := fun e => c (by rw [show (g (4 * a + v51.toInt.toNat)).toInt.toNat = t by omega]; exact hft)
    have e1 : ((g (4 * a + v51.toInt.toNat)) + (1 : Int32)).toInt = (g (4 * a + v51.toInt.toNat)).toInt + 1 := ii_a rfl rfl (by omega) (by omega)
    exact ih _ (by rw [upd_at, e1]; omega) (by rw [upd_at, e1]; omega) (by rw [upd_at, e1]; omega) (hP _ _ p)
theorem bt189 {μ : TMem} {f16 f19 f5 : Nat → Int32} {S1 S2 z a : Nat} {v44 v43 : Int32} {K : (Nat → Int32) → Prop} (g1 : S1 ≤ 32) (g2 : S2 ≤ 32) (hf1 : ∀ k s : Nat, k < S1 → s < 3 → 0 ≤ (f5 (4 * k + s)).toInt ∧ (f5 (4 * k + s)).toInt < S1) (hf2 : ∀ k s : Nat, k < S2 → s < 3 → 0 ≤ (f16 (4 * k + s)).toInt ∧ (f16 (4 * k + s)).toInt < S2) (hz : z ≤ 32) (ha : a < z) (h43 : v43.toInt = a) (hV : MV f5 f16 S1 S2 f19 z z 0)
    (hK : ∀ g, OWp g a 3 z → ZI g a 3 → K g) :
    ∀ (n : Nat) (v40 : Int32) (g : Nat → Int32), ((3 : Int) - v40.toInt).toNat < n → 0 ≤ v40.toInt → v40.toInt ≤ 3 → OWp g a v40.toInt z → ZI g a v40.toInt → wpl_X11_both_189 μ f16 (4 * S2) f19 100 (4 * z) f5 (4 * S1) ((f19 (3 * a + 1)) - (f19 (3 * a + 1)) / (32 : Int32) * (32 : Int32)) ((f19 (3 * a + 1)) / (32 : Int32)) v43 v44 K n v40 g := by
  intro n
  induction n with
  | zero => intro v40 g hk; exact absurd hk (Nat.not_lt_zero _)
  | succ n ih =>
    intro v40 g hk h0 h3 hO hZ
    refine ⟨fun c => ?_, fun c => ?_⟩
    · rw [l_le, show (3 : Int32).toInt = 3 from rfl] at c
      have e : v40.toInt = 3 := by omega
      rw [e] at hO hZ
      exact hK g hO hZ
    have c1 := nle c
    have e1 := inc_i c
    rw [show (3 : Int32).toInt = 3 from rfl] at c1
    obtain ⟨k1, k2, _⟩ := nx2_ok g1 g2 hf1 hf2 (hV.1 a ha) h0 c1
    obtain ⟨t, ht, et⟩ := hV.2 a v40 h0 c1 (Or.inl ha)
    have hg0 : g (4 * a + v40.toInt.toNat) = 0 := hZ _ (by omega) (by omega)
    refine ⟨k1, k2, _, bt221 (P := fun g => OWp g a v40.toInt z ∧ ZI g a (v40.toInt + 1)) hz ha ht h43 h0 c1 et (fun g u p => ⟨p.1.keep (by omega) h0 c1, fun j h1 h2 => by rw [upd_ne (by omega)]; exact p.2 j h1 h2⟩) (fun g p q0 q1 => ih _ _ (by omega) (by omega) (by omega) (by rw [e1]; exact p.1.done (p := 4 * a + v40.toInt.toNat) (by omega) q0 (by omega)) (by rw [e1]; exact p.2)) _ g (Nat.lt_succ_self _) (by rw [hg0]; decide) (by rw [hg0, ii_0]; omega) ⟨hO, fun j h1 h2 => hZ j (by omega) h2⟩⟩
theorem isB_max {x y : Int32} (hx : x = 0 ∨ x = 1) (hy : y = 0 ∨ y = 1) : (if x < y then y else x) = 0 ∨ (if x < y then y else x) = 1 := by
  rcases hx with rfl | rfl <;> rcases hy with rfl | rfl <;> decide
theorem isB_mul {x y : Int32} (hx : x = 0 ∨ x = 1) (hy : y = 0 ∨ y = 1) : x * y = 0 ∨ x * y = 1 := by
  rcases hx with rfl | rfl <;> rcases hy with rfl | rfl <;> decide
theorem isB_dif {x y : Int32} (hx : x = 0 ∨ x = 1) (hy : y = 0 ∨ y = 1) : (if x - y < 0 then (0 : Int32) else x - y) = 0 ∨ (if x - y < 0 then (0 : Int32) else x - y) = 1 := by
  rcases hx with rfl | rfl <;> rcases hy with rfl | rfl <;> decide
theorem bt62 {μ : TMem} {f16 f19 f5 : Nat → Int32} {S1 S2 z : Nat} {v27 : Int32} {K : Option AI → Prop} (g1 : S1 ≤ 32) (g2 : S2 ≤ 32) (hf1 : ∀ k s : Nat, k < S1 → s < 3 → 0 ≤ (f5 (4 * k + s)).toInt ∧ (f5 (4 * k + s)).toInt < S1) (hf2 : ∀ k s : Nat, k < S2 → s < 3 → 0 ≤ (f16 (4 * k + s)).toInt ∧ (f16 (4 * k + s)).toInt < S2) (hg1 : ∀ k, k < S1 → (f5 (4 * k + 3) = 0 ∨ f5 (4 * k + 3) = 1)) (hg2 : ∀ k, k < S2 → (f16 (4 * k + 3) = 0 ∨ f16 (4 * k + 3) = 1)) (hz1 : 1 ≤ z) (hz : z ≤ 32) (h0 : (f19 0).toInt = z) (hV : MV f5 f16 S1 S2 f19 z z 0)
    (hK : ∀ g, OW (4 * z) g → K (some (4 * z, g))) :
    ∀ (n : Nat) (v26 : Int32) (g : Nat → Int32) (a : Nat), z - a < n → v26.toInt = a → a ≤ z → OWp g ((a : Int) - 1) 3 z → ZI g a 0 → wpl_X11_both_62 μ f16 (4 * S2) f19 100 (4 * z) f5 (4 * S1) v27 K n v26 g := by
  intro n
  induction n with
  | zero => intro v26 g a hk; exact absurd hk (Nat.not_lt_zero _)
  | succ n ih =>
    intro v26 g a hk h26 haz hO hZ
    refine ⟨vin (by rw [ii_0]; omega), fun c => ?_, fun c => ?_⟩
    · have c : (f19 0).toInt ≤ v26.toInt := l_le.mp c
      have e : a = z := by omega
      subst e
      have := OWp.ow (f := g) (g := g) (u := f19 0) (by omega) (by omega) (by rw [h0]; exact hO) (fun _ _ => rfl)
      rw [h0, Int.toNat_natCast] at this
      exact hK g this
    have c1 : v26.toInt < (f19 0).toInt := nle c
    have e1 := inc_i c
    rw [h0] at c1
    have ha : a < z := by omega
    have i1 : ((3 : Int32) * v26 + (1 : Int32)).toInt = 3 * (a : Int) + 1 := i3 h26 (by omega) (by decide) (by decide)
    have i2 : ((3 : Int32) * v26 + (1 : Int32)).toNatClampNeg = 3 * a + 1 := by rw [ii_cl, i1]; omega
    have hp := hV.1 a ha
    obtain ⟨p1, p2⟩ := hp.parts
    obtain ⟨r1, r2, r3⟩ := hp
    obtain ⟨x1, x2, x3⟩ := fourk (x := (f19 (3 * a + 1)) / (32 : Int32)) (y := (3 : Int32)) (S := S1) (by omega) (by omega) g1 (by decide) (by decide)
    obtain ⟨y1, y2, y3⟩ := fourk (x := (f19 (3 * a + 1)) - (f19 (3 * a + 1)) / (32 : Int32) * (32 : Int32)) (y := (3 : Int32)) (S := S2) (by omega) (by omega) g2 (by decide) (by decide)
    obtain ⟨w1, w2, w3⟩ := fourk (x := v26) (y := (3 : Int32)) (S := z) (by omega) (by omega) hz (by decide) (by decide)
    have w4 : ((4 : Int32) * v26 + (3 : Int32)).toNatClampNeg = 4 * a + 3 := by rw [w2, show (3 : Int32).toInt.toNat = 3 from rfl]; omega
    have hx := hg1 ((f19 (3 * a + 1)) / (32 : Int32)).toInt.toNat (by omega)
    have hy := hg2 ((f19 (3 * a + 1)) - (f19 (3 * a + 1)) / (32 : Int32) * (32 : Int32)).toInt.toNat (by omega)
    rw [show (3 : Int32).toInt.toNat = 3 from rfl] at x2 y2
    rw [← x2] at hx
    rw [← y2] at hy
    have vi : vp_in ((3 : Int32) * v26 + (1 : Int32)) 100 := vin (by omega)
    refine ⟨vi, vi, ?_⟩
    rw [i2]
    refine ⟨x3, y3, ?_⟩
    intro J hJ
    have key : ∀ j : Int32, (j = 0 ∨ j = 1) → J j := by
      intro j hj
      refine hJ j ⟨w3, ?_⟩
      rw [w4]
      refine ⟨_, bt189 g1 g2 hf1 hf2 hz ha h26 hV (fun g' hO' hZ' => ih _ _ (a + 1) (by omega) (by omega) (by omega) (by rw [show (((a + 1 : Nat) : Int) - 1) = a by omega]; exact hO') (fun j g1 g2 => hZ' j (by omega) (by omega))) _ 0 _ (Nat.lt_succ_self _) (by decide) (by decide) (hO.row (by omega) (by omega) hj) (fun j g1 g2 => ?_)⟩
      rw [ii_0] at g1
      rw [upd_ne g2]
      exact hZ j g1 g2
    exact ⟨fun _ => ⟨fun _ => ⟨fun _ => ⟨fun _ => key _ (Or.inr rfl), fun _ => key _ (Or.inl rfl)⟩, fun _ => key _ (isB_dif hx hy)⟩, fun _ => key _ (isB_mul hx hy)⟩, fun _ => key _ (isB_max hx hy)⟩
theorem t_both {a1 a2 a3 : Int32} {K : Option AI → Prop} (m1 : M1 a1) (m2 : M1 a2) (hI : RI μ) (h : ∀ r, OWo r → K r) : wp_X11_both μ a1 a2 a3 K := by
  have h0 : K none := h none (fun n f e => by cases e)
  obtain ⟨r1, o1, k1⟩ := owm μ a1 hI m1.1 m1.2
  obtain ⟨r2, o2, k2⟩ := owm μ a2 hI m2.1 m2.2
  refine k1 μ (fun _ _ => rfl) _ ⟨fun e1 => k2 μ (fun _ _ => rfl) _ ⟨fun _ => h0, fun _ _ _ => h0⟩, fun n4 f5 e1 => k2 μ (fun _ _ => rfl) _ ⟨fun _ => h0, fun n15 f16 e2 => ?_⟩⟩
  obtain ⟨S1, g11, g1, rfl, hf1, hg1⟩ := (o1 n4 f5 e1).get
  obtain ⟨S2, g12, g2, rfl, hf2, hg2⟩ := (o2 n15 f16 e2).get
  refine t_met (M := 32) g11 g12 g1 g2 hf1 hf2 rfl (by decide) (by decide) (fun f19 hf => ⟨vin (by rw [ii_0]; omega), fun c => ⟨vin (by rw [ii_0]; omega), ?_⟩, fun _ => h0⟩)
  obtain ⟨z, e0, hz1, hz2, _, hV, _⟩ := hf
  have c : (f19 0).toInt ≤ 32 := l_le.mp c
  rw [e0] at c
  have k1 : ((4 : Int32) * (f19 0)).toInt = 4 * (z : Int) := ii_m rfl e0 (by omega) (by omega)
  have k2 : ((4 : Int32) * (f19 0)).toNatClampNeg = 4 * z := by rw [ii_cl, k1]; omega
  have k0 : (f19 (0 : Int32).toNatClampNeg) = f19 0 := rfl
  rw [k0, k2]
  refine ⟨⟨fun c => ?_, by omega⟩, _, bt62 g1 g2 hf1 hf2 hg1 hg2 hz1 (by omega) e0 (hV (by omega) rfl) (fun g hg => h _ (fun n f e => by cases e; exact hg)) _ 0 (fun _ => 0) 0 (Nat.lt_succ_self _) rfl (by omega) ⟨fun k i _ hk => by omega, fun k hk => by omega⟩ (fun _ _ _ => rfl)⟩
  rw [l_lt, k1, ii_0] at c
  omega
end RMB
