section SAD
variable {μ μ9 : TMem} {S : Nat → AM} {a r k : Int32} {a1 a2 a3 a4 a5 : Int32} {Q : Int32 → TMem → Prop} {X : String → TMem → Prop}
/-- 0 if so, otherwise 1 -/
def BV (v : Int32) (P : Prop) : Prop := (P → v = 0) ∧ (¬ P → v = 1)
theorem BV.uniq {v w : Int32} {P : Prop} (h : BV v P) (g : BV w P) : v = w := by
  by_cases p : P
  · rw [h.1 p, g.1 p]
  · rw [h.2 p, g.2 p]
def ONE2 (a1 a2 : Int32) : Prop := M1 a1 ∧ M1 a2
theorem ee_copy (h : CSt μ S a r k) (hv : AVs S) (hok : ∀ m m', m < 4 → m' < 4 → a1 = nI m → a2 = nI m' → ∀ v, BV v (aSm (S m') (S m)) → ∀ μ9, CSt μ9 (sUp S m' (S m)) (a + 1) r k → Q v μ9) (h1 : ¬ ONE2 a1 a2 → X "java/lang/IndexOutOfBoundsException" μ) : wp_X9_copy μ a1 a2 Q X := by
  refine e_mach (fun m hm em => e_mach (fun m' hm' em' => ?_) (fun z => h1 (fun w => z w.2))) (fun z => h1 (fun w => z w.1))
  have hM := h.1 m hm
  have hM' := h.1 m' hm'
  have a7 := (hv m hm).2.1
  have a7' := (hv m' hm').2.1
  have t1 := tlm hm
  have t2 := tlm hm'
  have go : ∀ v, BV v (aSm (S m') (S m)) → wp_X2_become (2 + 2 * m') (2 + 2 * m) μ (fun μ8 => Q v (tms μ8 0 11 ((μ8 0 11) + (1 : Int32)))) := fun v hb => e_become (kdm hm') (kdm hm) hM (by omega) (by omega) (by omega) (fun μ8 h8 f8 => by
    have z := FK.zone hm' f8
    exact hok m m' hm hm' em em' v hb _ (h.act h8 z.1 z.2.1 z.2.2))
  have res : ∀ (v : Int32) (w : Int32), BV v (aSm (S m') (S m)) → (w = 0 ↔ v = 1) → wp_X2_become (2 + 2 * m') (2 + 2 * m) μ (fun (μ8 : TMem) => (w = 0 → (wp_X9_acted μ8 (1 : Int32) (fun (r11 : Int32) (μ10 : TMem) => Q r11 μ10))) ∧ (¬ w = 0 → (wp_X9_acted μ8 (0 : Int32) (fun (r13 : Int32) (μ12 : TMem) => Q r13 μ12)))) := fun v w hb hw => e_become (kdm hm') (kdm hm) hM (by omega) (by omega) (by omega) (fun μ8 h8 f8 => by
    have z := FK.zone hm' f8
    have g := hok m m' hm hm' em em' v hb _ (h.act h8 z.1 z.2.1 z.2.2)
    refine ⟨fun q => ?_, fun q => ?_⟩
    · rw [hw.mp q] at g; exact g
    · have : v = 0 := by
        by_cases p : aSm (S m') (S m)
        · exact hb.1 p
        · exact absurd (hw.mpr (hb.2 p)) q
      rw [this] at g; exact g)
  refine e_isSame hM' hM (by omega) (by omega) (by omega) (by omega) (fun p => ?_) (fun p => ?_)
  · exact res 0 1 ⟨fun _ => rfl, fun q => absurd p q⟩ (by decide)
  · exact res 1 0 ⟨fun q => absurd q p, fun _ => rfl⟩ (by decide)
theorem ee_swap (h : CSt μ S a r k) (hv : AVs S) (hok : ∀ m m', m < 4 → m' < 4 → a1 = nI m → a2 = nI m' → ∀ v, BV v (aSm (S m) (S m')) → ∀ μ9, CSt μ9 (sUp (sUp S m (S m')) m' (S m)) (a + 1) r k → Q v μ9) (h1 : ¬ ONE2 a1 a2 → X "java/lang/IndexOutOfBoundsException" μ) : wp_X9_swap μ a1 a2 Q X := by
  refine e_mach (fun m hm em => e_mach (fun m' hm' em' => ?_) (fun z => h1 (fun w => z w.2))) (fun z => h1 (fun w => z w.1))
  have hM := h.1 m hm
  have hM' := h.1 m' hm'
  have a7 := (hv m hm).2.1
  have a7' := (hv m' hm').2.1
  have t1 := tlm hm
  have t2 := tlm hm'
  have t10 : tl 11 = 21 := rfl
  have res : ∀ (v : Int32) (w : Int32), BV v (aSm (S m) (S m')) → (w = 0 ↔ v = 1) → wp_X2_become 10 (2 + 2 * m) μ (fun (μ8 : TMem) => wp_X2_become (2 + 2 * m) (2 + 2 * m') μ8 (fun (μ9 : TMem) => wp_X2_become (2 + 2 * m') 10 μ9 (fun (μ10 : TMem) => (w = 0 → (wp_X9_acted μ10 (1 : Int32) (fun (r13 : Int32) (μ12 : TMem) => Q r13 μ12))) ∧ (¬ w = 0 → (wp_X9_acted μ10 (0 : Int32) (fun (r15 : Int32) (μ14 : TMem) => Q r15 μ14)))))) := fun v w hb hw => by
    refine e_become (k0 := 10) rfl (kdm hm) hM (by omega) (show _ ≤ tl 11 by omega) (by omega) (fun μ8 h8 f8 => ?_)
    have hM8 : HM μ8 (2 + 2 * m') (S m') := hM'.same (f8 _ (by omega) (by omega)) (f8 _ (by omega) (by omega))
    refine e_become (kdm hm) (kdm hm') hM8 (by omega) (by omega) (by omega) (fun μ9 h9 f9 => ?_)
    have hM9 : HM μ9 10 (S m) := h8.same (f9 _ (by omega) (by omega)) (f9 _ (by omega) (by omega))
    refine e_become (kdm hm') (k1 := 10) rfl hM9 (by omega) (by omega) (show _ ≤ tl 11 by omega) (fun μ10 h10 f10 => ?_)
    obtain ⟨c1, c2, c3, c4, c5⟩ := h
    have z0 : μ10 0 = μ 0 := by rw [f10 0 (by omega) (by omega), f9 0 (by omega) (by omega), f8 0 (by omega) (by omega)]
    have zG : GB μ10 := fun i => by rw [f10 43 (by omega) (by omega), f9 43 (by omega) (by omega), f8 43 (by omega) (by omega)]; exact c5 i
    have hC : CSt (tms μ10 0 11 ((μ10 0 11) + (1 : Int32))) (sUp (sUp S m (S m')) m' (S m)) (a + 1) r k := by
      refine ⟨fun i hi => ?_, by simp [tms_ix, z0, c2], by simp [tms_ix, z0, c3], by simp [tms_ix, z0, c4], fun i => by rw [tms_ne (by decide)]; exact zG i⟩
      by_cases e : i = m'
      · rw [e, sUp_at]
        exact h10.same (tms_ne (by omega)) (tms_ne (by omega))
      · rw [sUp_ne e]
        by_cases e2 : i = m
        · rw [e2, sUp_at]
          exact h9.same (by rw [tms_ne (by omega)]; exact f10 _ (by omega) (by omega)) (by rw [tms_ne (by omega)]; exact f10 _ (by omega) (by omega))
        · rw [sUp_ne e2]
          exact (c1 i hi).same (by rw [tms_ne (by omega), f10 _ (by omega) (by omega), f9 _ (by omega) (by omega), f8 _ (by omega) (by omega)]) (by rw [tms_ne (by omega), f10 _ (by omega) (by omega), f9 _ (by omega) (by omega), f8 _ (by omega) (by omega)])
    have g := hok m m' hm hm' em em' v hb _ hC
    refine ⟨fun q => ?_, fun q => ?_⟩
    · rw [hw.mp q] at g; exact g
    · have : v = 0 := by
        by_cases p : aSm (S m) (S m')
        · exact hb.1 p
        · exact absurd (hw.mpr (hb.2 p)) q
      rw [this] at g; exact g
  refine e_isSame hM hM' (by omega) (by omega) (by omega) (by omega) (fun p => ?_) (fun p => ?_)
  · exact res 0 1 ⟨fun _ => rfl, fun q => absurd p q⟩ (by decide)
  · exact res 1 0 ⟨fun q => absurd q p, fun _ => rfl⟩ (by decide)
theorem ee_turn (h : CSt μ S a r k) (hv : AVs S) (hok : ∀ m, m < 4 → a1 = nI m → ∀ μ9, CSt μ9 (sUp S m (aT (S m))) (a + 1) r k → Q (AC (aT (S m))) μ9) (h1 : ¬ M1 a1 → X "java/lang/IndexOutOfBoundsException" μ) : wp_X9_turn μ a1 Q X := by
  refine e_mach (fun m hm em => ?_) h1
  have hM := h.1 m hm
  have a7 := (hv m hm).2.1
  have t1 := tlm hm
  have t10 : tl 11 = 21 := rfl
  refine e_become (k0 := 10) rfl (kdm hm) hM (by omega) (show _ ≤ tl 11 by omega) (by omega) (fun μ3 h3 f3 => ?_)
  refine e_becomeRound (kdm hm) (k1 := 10) rfl (by omega) h3 (by omega) (by omega) (show _ ≤ tl 11 by omega) (fun μ4 h4 f4 => ?_)
  refine e_countA h4.1 (show (S m).1 ≤ 32 by omega) (show 3 * (S m).1 ≤ _ by omega) h4.2.2.2 ?_
  refine hok m hm em _ (h.act h4 ?_ (fun j x1 x2 x3 x4 => ?_) (fun g i => ?_))
  · rw [f4 0 (by omega) (by omega), f3 0 (by omega) (by omega)]
  · rw [f4 j x3 x4, f3 j (by omega) (by omega)]
  · rw [f4 43 (by omega) (by omega), f3 43 (by omega) (by omega)]
    exact g i
/-- goals and others exchanged -/
def aO (A : AM) : AM := (A.1, A.2.1, (((1 : Int32) <<< (nI A.1 &&& 31)) - (1 : Int32)) &&& (A.2.2.1 ^^^ (-1 : Int32)), A.2.2.2)
theorem ee_other (h : CSt μ S a r k) (hv : AVs S) (hok : ∀ m, m < 4 → a1 = nI m → aPl (S m) → ∀ μ9, CSt μ9 (sUp S m (aO (S m))) (a + 1) r k → Q (pop (aO (S m)).2.2.1) μ9) (hre : ∀ m, m < 4 → a1 = nI m → ¬ aPl (S m) → ∀ μ9, CSt μ9 S a (r + 1) k → Q (-9) μ9) (h1 : ¬ M1 a1 → X "java/lang/IndexOutOfBoundsException" μ) : wp_X9_other μ a1 Q X := by
  refine e_mach (fun m hm em => ?_) h1
  have hM := h.1 m hm
  have a7 := (hv m hm).2.1
  have t1 := tlm hm
  refine e_isPlain hM (by omega) (by omega) (fun p => ⟨fun _ => ?_, fun q => absurd q (by decide)⟩) (fun p => ⟨fun q => absurd rfl q, fun _ => hre m hm em p _ (h.ref ZF.rf)⟩)
  obtain ⟨m1, m2, m3, m4⟩ := hM
  have fr : FK (2 + 2 * m) μ (tms μ (2 + 2 * m) 2 (aO (S m)).2.2.1) := fun j x _ => tms_ne x
  have z := FK.zone hm fr
  have hc := h.act (m := m) (A := aO (S m)) (μ9 := tms μ (2 + 2 * m) 2 (aO (S m)).2.2.1) ⟨by simp [tms_ix, m1, aO], by simp [tms_ix, m2, aO], by simp [tms_ix], fun j hj => by rw [tms_ne (by omega)]; exact m4 j hj⟩ z.1 z.2.1 z.2.2
  have g := hok m hm em p _ hc
  have e : ((((1 : Int32) <<< ((μ (2 + 2 * m) 1) &&& 31)) - (1 : Int32)) &&& ((μ (2 + 2 * m) 2) ^^^ (-1 : Int32))) = (aO (S m)).2.2.1 := by rw [m1, m3]; rfl
  show wp_J6_bitCount_0f7a4 ((tms μ (2 + 2 * m) 2 ((((1 : Int32) <<< ((μ (2 + 2 * m) 1) &&& 31)) - (1 : Int32)) &&& ((μ (2 + 2 * m) 2) ^^^ (-1 : Int32)))) (2 + 2 * m) 2) (fun r10 => Q r10 (tms (tms μ (2 + 2 * m) 2 ((((1 : Int32) <<< ((μ (2 + 2 * m) 1) &&& 31)) - (1 : Int32)) &&& ((μ (2 + 2 * m) 2) ^^^ (-1 : Int32)))) 0 11 (((tms μ (2 + 2 * m) 2 ((((1 : Int32) <<< ((μ (2 + 2 * m) 1) &&& 31)) - (1 : Int32)) &&& ((μ (2 + 2 * m) 2) ^^^ (-1 : Int32)))) 0 11) + (1 : Int32))))
  rw [e, show (tms μ (2 + 2 * m) 2 (aO (S m)).2.2.1) (2 + 2 * m) 2 = (aO (S m)).2.2.1 by rw [tms_eq, upd_at]]
  exact pop_w g
theorem ee_grow (h : CSt μ S a r k) (hv : AVs S) (hok : ∀ m, m < 4 → a1 = nI m → (S m).1 < 7 → ∀ μ9, CSt μ9 (sUp S m ((S m).1 + 1, (S m).2)) (a + 1) r k → Q (nI (S m).1) μ9) (hre : ∀ m, m < 4 → a1 = nI m → ¬ (S m).1 < 7 → ∀ μ9, CSt μ9 S a (r + 1) k → Q (-9) μ9) (h1 : ¬ M1 a1 → X "java/lang/IndexOutOfBoundsException" μ) : wp_X9_grow μ a1 Q X := by
  refine e_mach (fun m hm em => ?_) h1
  have hM := h.1 m hm
  have a7 := (hv m hm).2.1
  have t1 := tlm hm
  refine ⟨fun z => ?_, fun z => ?_⟩
  · rw [hM.1, show (7 : Int32) = nI 7 from rfl, nI_ltI (by omega) (by omega)] at z
    refine e_addState (kdm hm) hM (by omega) (by omega) (hv m hm).2.2.2.2.2 (fun μ4 h4 f4 => ?_)
    have zz := FK.zone hm f4
    have g := hok m hm em z _ (h.act h4 zz.1 zz.2.1 zz.2.2)
    have e : μ4 (2 + 2 * m) 1 - (1 : Int32) = nI (S m).1 := by rw [h4.1]; exact nI_pred _
    rw [e]
    exact g
  · rw [hM.1, show (7 : Int32) = nI 7 from rfl, nI_ltI (by omega) (by omega)] at z
    exact hre m hm em z _ (h.ref ZF.rf)
theorem ee_drop (h : CSt μ S a r k) (hv : AVs S) (hok : ∀ m s, m < 4 → a1 = nI m → s < (S m).1 → a2 = nI s → (S m).1 ≠ 1 → ∀ μ9, CSt μ9 (sUp S m (aD (S m) s)) (a + 1) r k → Q (AC (S m) - AC (aD (S m) s)) μ9) (hre : ∀ m s, m < 4 → a1 = nI m → s < (S m).1 → a2 = nI s → (S m).1 = 1 → ∀ μ9, CSt μ9 S a (r + 1) k → Q (-9) μ9) (h1 : ¬ (∃ m, m < 4 ∧ a1 = nI m ∧ STn a2 (S m).1) → X "java/lang/IndexOutOfBoundsException" μ) : wp_X9_drop μ a1 a2 Q X := by
  refine e_mach (fun m hm em => ?_) (fun z => h1 (fun ⟨m, hm, e, _⟩ => z (e ▸ M1_nI hm)))
  have hM := h.1 m hm
  have a7 := (hv m hm).2.1
  have t1 := tlm hm
  refine e_stat hM.1 (by omega) (fun s hs es => ?_) (fun z => h1 (fun ⟨m', hm', e', e4⟩ => z (by rw [nI_inj4 hm hm' (em.symm.trans e')]; exact e4)))
  refine ⟨fun z => ?_, fun z => ?_⟩
  · rw [hM.1, show (1 : Int32) = nI 1 from rfl, nI_eq (by omega) (by omega)] at z
    refine e_countA hM.1 (by omega) (by omega) hM.2.2.2 ?_
    rw [es]
    refine e_removeState (kdm hm) hM hs (by omega) (by omega) (fun μ8 h8 f8 => ?_)
    refine e_countA h8.1 (show (S m).1 - 1 ≤ 32 by omega) (show 3 * ((S m).1 - 1) ≤ _ by omega) h8.2.2.2 ?_
    have zz := FK.zone hm f8
    exact hok m s hm em hs es z _ (h.act h8 zz.1 zz.2.1 zz.2.2)
  · rw [hM.1, show (1 : Int32) = nI 1 from rfl, nI_eq (by omega) (by omega)] at z
    exact hre m s hm em hs es z _ (h.ref ZF.rf)
/-- what becomes of a machine that was made: it, if it is there and small -/
def SM7 (o : Option DF) (D : DF) : Prop := o = some D ∧ D.1 ≤ 7 ∧ 1 ≤ D.1 ∧ ∀ j, j < 3 * D.1 → D.2.1 j < D.1
def NO7 (o : Option DF) : Prop := ∀ D, o = some D → ¬ D.1 ≤ 7
theorem ee_become {m : Nat} {D : DF} (h : CSt μ S a r k) (hz : ZF μ μ9) (hP : HP μ9 57 D) (hm : m < 4) (hok : D.1 ≤ 7 → ∀ μ8, CSt μ8 (sUp S m (aP D)) (a + 1) r k → Q (nI D.1) μ8) (hre : ¬ D.1 ≤ 7 → ∀ μ8, CSt μ8 S a (r + 1) k → Q (-9) μ8) : wp_X9_becomeMade (2 + 2 * m) μ9 Q := by
  have t1 := tlm hm
  have d32 := hP.2.1
  refine ⟨fun z => ?_, fun z => ?_⟩
  · rw [hP.2.2.2.1, show (7 : Int32) = nI 7 from rfl, nI_leI (by omega) (by omega)] at z
    refine e_becomePlain (kdm hm) (k1 := 57) rfl hP (by omega) (fun μ2 h2 f2 => ?_)
    have zz := FK.zone hm f2
    have e : μ2 57 1 = nI D.1 := by rw [f2 57 (by omega) (by omega)]; exact hP.2.2.2.1
    show Q (μ2 57 1) _
    rw [e]
    exact hok z _ ((h.keep hz).act h2 zz.1 zz.2.1 zz.2.2)
  · rw [hP.2.2.2.1, show (7 : Int32) = nI 7 from rfl, nI_leI (by omega) (by omega)] at z
    exact hre z _ ((h.keep hz).ref ZF.rf)
/-- what make makes of a machine -/
def MK2 (A : AM) (b : Int32) : Option DF := if b = 0 then OWM A else LSM A
theorem ee_make (h : CSt μ S a r k) (hv : AVs S) (hok : ∀ m m' D, m < 4 → m' < 4 → a1 = nI m → a3 = nI m' → SM7 (MK2 (S m) a2) D → ∀ μ9, CSt μ9 (sUp S m' (aP D)) (a + 1) r k → Q (nI D.1) μ9) (hre : ∀ m m', m < 4 → m' < 4 → a1 = nI m → a3 = nI m' → NO7 (MK2 (S m) a2) → ∀ μ9, CSt μ9 S a (r + 1) k → Q (-9) μ9) (h1 : ¬ ONE2 a1 a3 → X "java/lang/IndexOutOfBoundsException" μ) : wp_X9_make μ a1 a2 a3 Q X := by
  refine e_mach (fun m hm em => e_mach (fun m' hm' em' => ?_) (fun z => h1 (fun w => z w.2))) (fun z => h1 (fun w => z w.1))
  have hM := h.1 m hm
  have a7 := (hv m hm).2.1
  have t1 := tlm hm
  have fin : ∀ (D : DF) (μ6 : TMem), MK2 (S m) a2 = some D → HP μ6 57 D → ZF μ μ6 → wp_X9_becomeMade (2 + 2 * m') μ6 (fun r10 μ9 => Q r10 μ9) := fun D μ6 e p z => ee_become h z p hm' (fun w => hok m m' D hm hm' em em' ⟨e, w, p.1, p.2.2.1⟩) (fun w => hre m m' hm hm' em em' (fun D' e' => by rw [e] at e'; cases e'; exact w))
  have non : MK2 (S m) a2 = none → ∀ μ6, ZF μ μ6 → wp_X9_refuse μ6 (fun r12 μ11 => Q r12 μ11) := fun e μ6 z => hre m m' hm hm' em em' (fun D' e' => by rw [e] at e'; cases e') _ (h.ref z)
  refine ⟨fun z => ?_, fun z => ?_⟩
  · have em2 : MK2 (S m) a2 = OWM (S m) := by rw [MK2, if_pos z]
    rw [em2] at fin non
    exact e_makeBy3 (kdm hm) (k2 := 57) rfl hM (by omega) (by omega) (fun D μ6 e p z => ⟨fun _ => fin D μ6 e p z, fun q => absurd q (by decide)⟩) (fun e μ6 z => ⟨fun q => absurd rfl q, fun _ => non e μ6 z⟩)
  · have em2 : MK2 (S m) a2 = LSM (S m) := by rw [MK2, if_neg z]
    rw [em2] at fin non
    exact e_makeBy0 (kdm hm) (k2 := 57) rfl (by decide) hM (by omega) (by omega) (fun D μ6 e p z => ⟨fun _ => fin D μ6 e p z, fun q => absurd q (by decide)⟩) (fun e μ6 z => ⟨fun q => absurd rfl q, fun _ => non e μ6 z⟩)
theorem ee_combine (h : CSt μ S a r k) (hv : AVs S) (hok : ∀ m m' mi w D, m < 4 → m' < 4 → mi < 4 → a1 = nI m → a2 = nI m' → a4 = nI mi → a3 = nI w → w ≤ 3 → SM7 (BLS (S m) (S m') w) D → ∀ μ9, CSt μ9 (sUp S mi (aP D)) (a + 1) r k → Q (nI D.1) μ9) (hre : ∀ m m' mi w, m < 4 → m' < 4 → mi < 4 → a1 = nI m → a2 = nI m' → a4 = nI mi → a3 = nI w → w ≤ 3 → NO7 (BLS (S m) (S m') w) → ∀ μ9, CSt μ9 S a (r + 1) k → Q (-9) μ9) (h1 : ¬ (ONE2 a1 a2 ∧ M1 a4) → X "java/lang/IndexOutOfBoundsException" μ) (h2 : ONE2 a1 a2 ∧ M1 a4 → ¬ IN a3 0 3 → X "java/lang/IllegalArgumentException" μ) : wp_X9_combine μ a1 a2 a3 a4 Q X := by
  refine e_mach (fun m hm em => e_mach (fun m' hm' em' => e_mach (fun mi hmi emi => ?_) (fun z => h1 (fun w => z w.2))) (fun z => h1 (fun w => z w.1.2))) (fun z => h1 (fun w => z w.1.1))
  refine e_rng (fun z => ?_) (fun z => h2 ⟨⟨em ▸ M1_nI hm, em' ▸ M1_nI hm'⟩, emi ▸ M1_nI hmi⟩ z)
  obtain ⟨w, ew, w0, w3⟩ := IN_ex z (by decide)
  have w3' : (w : Int) ≤ 3 := w3
  have hM := h.1 m hm
  have hM' := h.1 m' hm'
  have a7 := (hv m hm).2.1
  have a7' := (hv m' hm').2.1
  have t1 := tlm hm
  have t2 := tlm hm'
  rw [ew]
  refine e_putTogether (kdm hm) (kdm hm') hM hM' (by omega) (by omega) (by omega) (by omega) (by omega) h.2.2.2.2 (fun D μ8 e p z => ⟨fun _ => ?_, fun q => absurd q (by decide)⟩) (fun e μ8 z => ⟨fun q => absurd rfl q, fun _ => hre m m' mi w hm hm' hmi em em' emi ew (by omega) (fun D' e' => by rw [e] at e'; cases e') _ (h.ref z)⟩)
  exact ee_become h z p hmi (fun q => hok m m' mi w D hm hm' hmi em em' emi ew (by omega) ⟨e, q, p.1, p.2.2.1⟩) (fun q => hre m m' mi w hm hm' hmi em em' emi ew (by omega) (fun D' e' => by rw [e] at e'; cases e'; exact q))
end SAD
