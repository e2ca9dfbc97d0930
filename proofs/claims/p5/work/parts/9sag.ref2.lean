section SRG
variable {ν ν9 : TMem} {S : Nat → AM} {a r k t : Int32} {a1 a2 a3 a4 a5 : Int32} {Q : Int32 → TMem → Prop} {Qi : Int32 → Prop} {m m' : Nat} {A B : AM}
theorem aSm_sym (h : aSm A B) : aSm B A := ⟨h.1.symm, h.2.1.symm, h.2.2.1.symm, fun j hj => (h.2.2.2 j (by rw [h.1]; exact hj)).symm⟩
theorem aSm_21 (hA : AV A) (hB : AV B) : aSm A B ↔ (A.1 = B.1 ∧ A.2.1 = B.2.1 ∧ A.2.2.1 = B.2.2.1 ∧ ∀ j, j < 21 → A.2.2.2 j = B.2.2.2 j) := by
  have a7 := hA.2.1
  refine ⟨fun h => ⟨h.1, h.2.1, h.2.2.1, fun j hj => ?_⟩, fun h => ⟨h.1, h.2.1, h.2.2.1, fun j hj => h.2.2.2 j (by omega)⟩⟩
  by_cases e : j < 3 * A.1
  · exact h.2.2.2 j e
  · rw [hA.2.2.2.2.2 j (by omega), hB.2.2.2.2.2 j (by have := h.1; omega)]
theorem BV.sym {v : Int32} (h : BV v (aSm A B)) : BV v (aSm B A) := ⟨fun z => h.1 (aSm_sym z), fun z => h.2 (fun w => z (aSm_sym w))⟩
theorem rr_isSame (hm : m < 4) (hm' : m' < 4) (hA : HR ν m A) (hB : HR ν m' B) (vA : AV A) (vB : AV B) (h1 : aSm A B → Qi 1) (h0 : ¬ aSm A B → Qi 0) : wp_X11_isSame ν (nI m) (nI m') Qi := by
  obtain ⟨b1, b2, b3, b4⟩ := hA
  obtain ⟨d1, d2, d3, d4⟩ := hB
  have im : (nI m).toNatClampNeg = m := nI_clamp (by omega)
  have im' : (nI m').toNatClampNeg = m' := nI_clamp (by omega)
  have hin : vp_in (nI m) (ml 1) := s_in hm (by omega)
  have hin' : vp_in (nI m') (ml 1) := s_in hm' (by omega)
  have L : ∀ (nf i : Nat) (v : Int32), 21 - i < nf → i ≤ 21 → (v = 1 ∧ (A.1 = B.1 ∧ A.2.1 = B.2.1 ∧ A.2.2.1 = B.2.2.1 ∧ ∀ j, j < i → A.2.2.2 j = B.2.2.2 j) ∨ v = 0 ∧ ¬ aSm A B) → wpl_X11_isSame_54 ν (nI m) (nI m') Qi nf (nI i) v := by
    intro nf
    induction nf with
    | zero => intro i v hk; exact absurd hk (Nat.not_lt_zero _)
    | succ nf ih =>
      intro i v hk hi hv
      refine ⟨fun c => ?_, fun c => rr_key0 ?_⟩
      · rw [show (21 : Int32) = nI 21 from rfl, nI_leI (by omega) (by omega)] at c
        have e : i = 21 := by omega
        subst e
        rcases hv with ⟨rfl, hv⟩ | ⟨rfl, hv⟩
        · exact ⟨Or.inr rfl, h1 ((aSm_21 vA vB).mpr hv)⟩
        · exact ⟨Or.inl rfl, h0 hv⟩
      rw [show (21 : Int32) = nI 21 from rfl, nI_leI (by omega) (by omega)] at c
      rw [nI_add, nI_clamp (by omega)]
      refine ⟨s_in (show _ < 84 by omega) (by omega), rr_key0 ?_⟩
      rw [nI_add, nI_clamp (by omega), b4 i (by omega), d4 i (by omega), nI_1]
      refine ⟨s_in (show _ < 84 by omega) (by omega), fun z => ?_, fun z => ?_⟩
      · refine ih (i + 1) _ (by omega) (by omega) (Or.inr ⟨?_, fun w => z (((aSm_21 vA vB).mp w).2.2.2 i (by omega))⟩)
        rcases hv with ⟨rfl, _⟩ | ⟨rfl, _⟩ <;> decide
      · refine ih (i + 1) _ (by omega) (by omega) ?_
        rcases hv with ⟨rfl, hv⟩ | ⟨rfl, hv⟩
        · refine Or.inl ⟨by decide, hv.1, hv.2.1, hv.2.2.1, fun j hj => ?_⟩
          by_cases e : j = i
          · rw [e]; exact z
          · exact hv.2.2.2 j (by omega)
        · exact Or.inr ⟨by decide, hv⟩
  have go : ∀ v : Int32, (v = 1 ∧ (A.1 = B.1 ∧ A.2.1 = B.2.1 ∧ A.2.2.1 = B.2.2.1) ∨ v = 0 ∧ ¬ aSm A B) → ∃ n4x, wpl_X11_isSame_54 ν (nI m) (nI m') Qi n4x (0 : Int32) v := fun v hv => by
    have g := L 22 0 v (by omega) (by omega) (hv.imp (fun z => ⟨z.1, z.2.1, z.2.2.1, z.2.2.2, fun j hj => absurd hj (Nat.not_lt_zero _)⟩) (fun z => z))
    rw [nI_0] at g
    exact ⟨_, g⟩
  refine ⟨hin, hin', fun J hJ => ?_⟩
  rw [im, im', b1, d1, b2, d2, b3, d3]
  have a7 := vA.2.1
  have b7 := vB.2.1
  refine ⟨fun z => hJ 0 (go 0 (Or.inr ⟨rfl, fun w => z (by rw [w.1])⟩)), fun z => ⟨s_in hm (by omega), s_in hm' (by omega), fun z2 => hJ 0 (go 0 (Or.inr ⟨rfl, fun w => z2 w.2.1⟩)), fun z2 => ⟨s_in hm (by omega), s_in hm' (by omega), fun z3 => hJ 0 (go 0 (Or.inr ⟨rfl, fun w => z3 w.2.2.1⟩)), fun z3 => hJ 1 (go 1 (Or.inl ⟨rfl, (nI_eq (by omega) (by omega)).mp z, z2, z3⟩))⟩⟩⟩
theorem did2 {v w : Int32} {P : Prop} {ν8 : TMem} (hb : BV v P) (hw : P → w = 1) (hw0 : ¬ P → w = 0) (h : Q v (tms ν8 0 4 ((ν8 0 4) + (1 : Int32)))) : (w = 0 → wp_X11_did ν8 (1 : Int32) (fun r μ => Q r μ)) ∧ (¬ w = 0 → wp_X11_did ν8 (0 : Int32) (fun r μ => Q r μ)) := by
  by_cases p : P
  · rw [hw p]
    rw [hb.1 p] at h
    exact ⟨fun z => absurd z (by decide), fun _ => h⟩
  · rw [hw0 p]
    rw [hb.2 p] at h
    exact ⟨fun _ => h, fun z => absurd rfl z⟩
theorem rr_copy (h : RSt ν S a r k t) (hv : AVs S) (hok : ∀ m m', m < 4 → m' < 4 → a1 = nI m → a2 = nI m' → ∀ v, BV v (aSm (S m) (S m')) → ∀ ν9, RSt ν9 (sUp S m' (S m)) (a + 1) r k 0 → Q v ν9) (h1 : ¬ ONE2 a1 a2 → ∀ b ν9, RSt ν9 S a r k 1 → Q b ν9) : wp_X11_copy ν a1 a2 Q := by
  refine rr_two (fun m m' hm hm' em em' => th_ok ⟨fun _ => ?_, fun q => absurd rfl q⟩) (fun z => th_1 ⟨fun q => absurd q (by decide), fun _ => h1 z _ _ (h.thr 1)⟩)
  have h0 := h.thr 0
  have hR := h0.1 m hm
  have hR' := h0.1 m' hm'
  have hok' := hok m m' hm hm' em em'
  rw [em, em']
  have im : (nI m).toNatClampNeg = m := nI_clamp (by omega)
  have im' : (nI m').toNatClampNeg = m' := nI_clamp (by omega)
  have cont : ∀ w : Int32, (aSm (S m) (S m') → w = 1) → (¬ aSm (S m) (S m') → w = 0) → vp_in (nI m) (ml 1) ∧ (vp_in (nI m') (ml 1) ∧ (vp_in (nI m) (ml 2) ∧ (vp_in (nI m') (ml 2) ∧ (vp_in (nI m) (ml 3) ∧ (vp_in (nI m') (ml 3) ∧ (∃ n15x, wpl_X11_copy_75 w (nI m) (nI m') (fun (μ28 : TMem) => (w = 0 → (wp_X11_did μ28 (1 : Int32) (fun (r31 : Int32) (μ30 : TMem) => Q r31 μ30))) ∧ (¬ w = 0 → (wp_X11_did μ28 (0 : Int32) (fun (r33 : Int32) (μ32 : TMem) => Q r33 μ32)))) n15x (0 : Int32) (tms (tms (tms (tms ν 0 7 0) 1 (nI m').toNatClampNeg ((tms ν 0 7 0) 1 (nI m).toNatClampNeg)) 2 (nI m').toNatClampNeg ((tms (tms ν 0 7 0) 1 (nI m').toNatClampNeg ((tms ν 0 7 0) 1 (nI m).toNatClampNeg)) 2 (nI m).toNatClampNeg)) 3 (nI m').toNatClampNeg ((tms (tms (tms ν 0 7 0) 1 (nI m').toNatClampNeg ((tms ν 0 7 0) 1 (nI m).toNatClampNeg)) 2 (nI m').toNatClampNeg ((tms (tms ν 0 7 0) 1 (nI m').toNatClampNeg ((tms ν 0 7 0) 1 (nI m).toNatClampNeg)) 2 (nI m).toNatClampNeg)) 3 (nI m).toNatClampNeg)))))))) := by
    intro w hw1 hw0
    refine ⟨s_in hm (by omega), s_in hm' (by omega), s_in hm (by omega), s_in hm' (by omega), s_in hm (by omega), s_in hm' (by omega), ?_⟩
    rw [im, im']
    generalize hN : tms ν 0 7 0 = N at *
    obtain ⟨b1, b2, b3, b4⟩ := hR
    generalize hs : tms (tms (tms N 1 m' (N 1 m)) 2 m' ((tms N 1 m' (N 1 m)) 2 m)) 3 m' ((tms (tms N 1 m' (N 1 m)) 2 m' ((tms N 1 m' (N 1 m)) 2 m)) 3 m) = νs
    have s4 : νs 4 = N 4 := by rw [← hs, tms_ne (by decide), tms_ne (by decide), tms_ne (by decide)]
    have L : ∀ (nf i : Nat) (ν1 : TMem), 21 - i < nf → i ≤ 21 → RW m' νs (S m).2.2.2 i ν1 → wpl_X11_copy_75 w (nI m) (nI m') (fun (μ28 : TMem) => (w = 0 → (wp_X11_did μ28 (1 : Int32) (fun (r31 : Int32) (μ30 : TMem) => Q r31 μ30))) ∧ (¬ w = 0 → (wp_X11_did μ28 (0 : Int32) (fun (r33 : Int32) (μ32 : TMem) => Q r33 μ32)))) nf (nI i) ν1 := by
      intro nf
      induction nf with
      | zero => intro i ν1 hk; exact absurd hk (Nat.not_lt_zero _)
      | succ nf ih =>
        intro i ν1 hk hi hW
        refine ⟨fun c => ?_, fun c => rr_key0 (rr_key0 ?_)⟩
        · rw [show (21 : Int32) = nI 21 from rfl, nI_leI (by omega) (by omega)] at c
          rw [show i = 21 by omega] at hW
          obtain ⟨w1, w2, w3⟩ := hW
          by_cases p : aSm (S m) (S m')
          · refine did2 (P := aSm (S m) (S m')) (v := 0) ⟨fun _ => rfl, fun z => absurd p z⟩ hw1 hw0 (hok' 0 ⟨fun _ => rfl, fun z => absurd p z⟩ _ (h0.act (m := m') (A := S m) ⟨?_, ?_, ?_, fun j hj => w1 j hj⟩ ⟨?_, fun i hi => ⟨?_, ?_, ?_⟩, fun p hp => ?_⟩))
            · rw [w3 1 (by decide), ← hs]; simp [tms_ix, b1]
            · rw [w3 2 (by decide), ← hs]; simp [tms_ix, b2]
            · rw [w3 3 (by decide), ← hs]; simp [tms_ix, b3]
            · rw [w3 0 (by decide), ← hs, tms_ne (by decide), tms_ne (by decide), tms_ne (by decide)]
            · rw [w3 1 (by decide), ← hs]; simp [tms_ix, hi]
            · rw [w3 2 (by decide), ← hs]; simp [tms_ix, hi]
            · rw [w3 3 (by decide), ← hs]; simp [tms_ix, hi]
            · rw [w2 p (by omega), s4]
          · refine did2 (P := aSm (S m) (S m')) (v := 1) ⟨fun z => absurd z p, fun _ => rfl⟩ hw1 hw0 (hok' 1 ⟨fun z => absurd z p, fun _ => rfl⟩ _ (h0.act (m := m') (A := S m) ⟨?_, ?_, ?_, fun j hj => w1 j hj⟩ ⟨?_, fun i hi => ⟨?_, ?_, ?_⟩, fun p hp => ?_⟩))
            · rw [w3 1 (by decide), ← hs]; simp [tms_ix, b1]
            · rw [w3 2 (by decide), ← hs]; simp [tms_ix, b2]
            · rw [w3 3 (by decide), ← hs]; simp [tms_ix, b3]
            · rw [w3 0 (by decide), ← hs, tms_ne (by decide), tms_ne (by decide), tms_ne (by decide)]
            · rw [w3 1 (by decide), ← hs]; simp [tms_ix, hi]
            · rw [w3 2 (by decide), ← hs]; simp [tms_ix, hi]
            · rw [w3 3 (by decide), ← hs]; simp [tms_ix, hi]
            · rw [w2 p (by omega), s4]
        rw [show (21 : Int32) = nI 21 from rfl, nI_leI (by omega) (by omega)] at c
        rw [nI_add, nI_add, nI_clamp (by omega), nI_clamp (by omega), nI_1]
        refine ⟨s_in (show _ < 84 by omega) (by omega), s_in (show _ < 84 by omega) (by omega), ?_⟩
        have e : ν1 4 (21 * m + i) = (S m).2.2.2 i := by
          rw [hW.2.1 _ (by omega), s4]
          exact b4 i (by omega)
        rw [e]
        exact ih (i + 1) _ (by omega) (by omega) hW.step
    have g := L 22 0 νs (by omega) (by omega) RW.start
    rw [nI_0] at g
    exact ⟨_, g⟩
  exact rr_isSame hm hm' hR hR' (hv m hm) (hv m' hm') (fun p => cont 1 (fun _ => rfl) (fun z => absurd p z)) (fun p => cont 0 (fun z => absurd z p) (fun _ => rfl))
theorem rr_exch {j i i' : Nat} {Qv : TMem → Prop} (hi : i < ml j) (hi' : i' < ml j) (h2 : i < 1000) (h2' : i' < 1000) (h : Qv (tms (tms ν j i (ν j i')) j i' (ν j i))) : wp_X11_exchange ν j (nI i) (nI i') Qv := by
  unfold wp_X11_exchange
  rw [nI_clamp (by omega), nI_clamp (by omega)]
  exact ⟨s_in hi (by omega), s_in hi' (by omega), s_in hi (by omega), s_in hi' (by omega), h⟩
theorem exch_at {j i i' x : Nat} : (tms (tms ν j i (ν j i')) j i' (ν j i)) j x = if x = i' then ν j i else if x = i then ν j i' else ν j x := by
  simp only [tms_ix]
  by_cases e : x = i'
  · simp [e]
  · simp [e]
theorem rr_swap (h : RSt ν S a r k t) (hv : AVs S) (hok : ∀ m m', m < 4 → m' < 4 → a1 = nI m → a2 = nI m' → ∀ v, BV v (aSm (S m) (S m')) → ∀ ν9, RSt ν9 (sUp (sUp S m (S m')) m' (S m)) (a + 1) r k 0 → Q v ν9) (h1 : ¬ ONE2 a1 a2 → ∀ b ν9, RSt ν9 S a r k 1 → Q b ν9) : wp_X11_swap ν a1 a2 Q := by
  refine rr_two (fun m m' hm hm' em em' => th_ok ⟨fun _ => ?_, fun q => absurd rfl q⟩) (fun z => th_1 ⟨fun q => absurd q (by decide), fun _ => h1 z _ _ (h.thr 1)⟩)
  have h0 := h.thr 0
  have hR := h0.1 m hm
  have hR' := h0.1 m' hm'
  have hok' := hok m m' hm hm' em em'
  rw [em, em']
  generalize hN : tms ν 0 7 0 = N at *
  have cont : ∀ w : Int32, (aSm (S m) (S m') → w = 1) → (¬ aSm (S m) (S m') → w = 0) → wp_X11_exchange N 1 (nI m) (nI m') (fun (μ10 : TMem) => wp_X11_exchange μ10 2 (nI m) (nI m') (fun (μ11 : TMem) => wp_X11_exchange μ11 3 (nI m) (nI m') (fun (μ12 : TMem) => ∃ n12x, wpl_X11_swap_66 w (nI m) (nI m') (fun (μ24 : TMem) => (w = 0 → (wp_X11_did μ24 (1 : Int32) (fun (r27 : Int32) (μ26 : TMem) => Q r27 μ26))) ∧ (¬ w = 0 → (wp_X11_did μ24 (0 : Int32) (fun (r29 : Int32) (μ28 : TMem) => Q r29 μ28)))) n12x (0 : Int32) μ12))) := by
    intro w hw1 hw0
    refine rr_exch (show m < 4 from hm) (show m' < 4 from hm') (by omega) (by omega) (rr_exch (show m < 4 from hm) (show m' < 4 from hm') (by omega) (by omega) (rr_exch (show m < 4 from hm) (show m' < 4 from hm') (by omega) (by omega) ?_))
    generalize hs1 : tms (tms N 1 m (N 1 m')) 1 m' (N 1 m) = N1
    generalize hs2 : tms (tms N1 2 m (N1 2 m')) 2 m' (N1 2 m) = N2
    generalize hs3 : tms (tms N2 3 m (N2 3 m')) 3 m' (N2 3 m) = νs
    have s4 : νs 4 = N 4 := by rw [← hs3, tms_ne (by decide), tms_ne (by decide), ← hs2, tms_ne (by decide), tms_ne (by decide), ← hs1, tms_ne (by decide), tms_ne (by decide)]
    have s0 : νs 0 = N 0 := by rw [← hs3, tms_ne (by decide), tms_ne (by decide), ← hs2, tms_ne (by decide), tms_ne (by decide), ← hs1, tms_ne (by decide), tms_ne (by decide)]
    have s1 : ∀ x, νs 1 x = if x = m' then N 1 m else if x = m then N 1 m' else N 1 x := fun x => by
      rw [← hs3, tms_ne (by decide), tms_ne (by decide), ← hs2, tms_ne (by decide), tms_ne (by decide), ← hs1]; exact exch_at
    have s2 : ∀ x, νs 2 x = if x = m' then N 2 m else if x = m then N 2 m' else N 2 x := fun x => by
      have e : N1 2 = N 2 := by rw [← hs1, tms_ne (by decide), tms_ne (by decide)]
      rw [← hs3, tms_ne (by decide), tms_ne (by decide), ← hs2, exch_at, e]
    have s3 : ∀ x, νs 3 x = if x = m' then N 3 m else if x = m then N 3 m' else N 3 x := fun x => by
      have e : N2 3 = N 3 := by rw [← hs2, tms_ne (by decide), tms_ne (by decide), ← hs1, tms_ne (by decide), tms_ne (by decide)]
      rw [← hs3, exch_at, e]
    have L : ∀ (nf i : Nat) (ν1 : TMem), 21 - i < nf → i ≤ 21 → (∀ j, j < i → ν1 4 (21 * m + j) = (S m').2.2.2 j) → (∀ j, j < i → ν1 4 (21 * m' + j) = (S m).2.2.2 j) → (∀ q, (q < 21 * m ∨ 21 * m + i ≤ q) → (q < 21 * m' ∨ 21 * m' + i ≤ q) → ν1 4 q = N 4 q) → (∀ j, j ≠ 4 → ν1 j = νs j) → wpl_X11_swap_66 w (nI m) (nI m') (fun (μ24 : TMem) => (w = 0 → (wp_X11_did μ24 (1 : Int32) (fun (r27 : Int32) (μ26 : TMem) => Q r27 μ26))) ∧ (¬ w = 0 → (wp_X11_did μ24 (0 : Int32) (fun (r29 : Int32) (μ28 : TMem) => Q r29 μ28)))) nf (nI i) ν1 := by
      intro nf
      induction nf with
      | zero => intro i ν1 hk; exact absurd hk (Nat.not_lt_zero _)
      | succ nf ih =>
        intro i ν1 hk hi w1 w2 w3 w4
        refine ⟨fun c => ?_, fun c => rr_key0 (rr_key0 ?_)⟩
        · rw [show (21 : Int32) = nI 21 from rfl, nI_leI (by omega) (by omega)] at c
          have e : i = 21 := by omega
          subst e
          have hC : RSt (tms ν1 0 4 ((ν1 0 4) + (1 : Int32))) (sUp (sUp S m (S m')) m' (S m)) (a + 1) r k 0 := by
            obtain ⟨c1, c2, c3, c4, c5⟩ := h0
            have z0 : ν1 0 = N 0 := by rw [w4 0 (by decide), s0]
            refine ⟨fun x hx => ?_, by simp [tms_ix, z0, c2], by simp [tms_ix, z0, c3], by simp [tms_ix, z0, c4], by simp [tms_ix, z0, c5]⟩
            by_cases e1 : x = m'
            · rw [e1, sUp_at]
              exact ⟨by rw [tms_ne (by decide), w4 1 (by decide), s1, if_pos rfl]; exact hR.1, by rw [tms_ne (by decide), w4 2 (by decide), s2, if_pos rfl]; exact hR.2.1, by rw [tms_ne (by decide), w4 3 (by decide), s3, if_pos rfl]; exact hR.2.2.1, fun j hj => by rw [tms_ne (by decide)]; exact w2 j hj⟩
            · rw [sUp_ne e1]
              by_cases e2 : x = m
              · rw [e2, sUp_at]
                rw [e2] at e1
                exact ⟨by rw [tms_ne (by decide), w4 1 (by decide), s1, if_neg e1, if_pos rfl]; exact hR'.1, by rw [tms_ne (by decide), w4 2 (by decide), s2, if_neg e1, if_pos rfl]; exact hR'.2.1, by rw [tms_ne (by decide), w4 3 (by decide), s3, if_neg e1, if_pos rfl]; exact hR'.2.2.1, fun j hj => by rw [tms_ne (by decide)]; exact w1 j hj⟩
              · rw [sUp_ne e2]
                obtain ⟨g1, g2, g3, g4⟩ := c1 x hx
                exact ⟨by rw [tms_ne (by decide), w4 1 (by decide), s1, if_neg e1, if_neg e2]; exact g1, by rw [tms_ne (by decide), w4 2 (by decide), s2, if_neg e1, if_neg e2]; exact g2, by rw [tms_ne (by decide), w4 3 (by decide), s3, if_neg e1, if_neg e2]; exact g3, fun j hj => by rw [tms_ne (by decide), w3 _ (by omega) (by omega)]; exact g4 j hj⟩
          by_cases p : aSm (S m) (S m')
          · exact did2 (P := aSm (S m) (S m')) (v := 0) ⟨fun _ => rfl, fun z => absurd p z⟩ hw1 hw0 (hok' 0 ⟨fun _ => rfl, fun z => absurd p z⟩ _ hC)
          · exact did2 (P := aSm (S m) (S m')) (v := 1) ⟨fun z => absurd z p, fun _ => rfl⟩ hw1 hw0 (hok' 1 ⟨fun z => absurd z p, fun _ => rfl⟩ _ hC)
        rw [show (21 : Int32) = nI 21 from rfl, nI_leI (by omega) (by omega)] at c
        rw [nI_add, nI_add, nI_1]
        refine rr_exch (show 21 * m + i < 84 by omega) (show 21 * m' + i < 84 by omega) (by omega) (by omega) ?_
        have em1 : ν1 4 (21 * m + i) = (S m).2.2.2 i := by
          by_cases e : m = m'
          · rw [w3 _ (by omega) (by omega)]; exact hR.2.2.2 i (by omega)
          · rw [w3 _ (by omega) (by omega)]; exact hR.2.2.2 i (by omega)
        have em2 : ν1 4 (21 * m' + i) = (S m').2.2.2 i := by
          rw [w3 _ (by omega) (by omega)]; exact hR'.2.2.2 i (by omega)
        have at' := fun x => exch_at (ν := ν1) (j := 4) (i := 21 * m + i) (i' := 21 * m' + i) (x := x)
        refine ih (i + 1) _ (by omega) (by omega) (fun j hj => ?_) (fun j hj => ?_) (fun q q1 q2 => ?_) (fun j hj => by rw [tms_ne hj, tms_ne hj]; exact w4 j hj)
        · rw [at', em1, em2]
          by_cases e : j = i
          · by_cases e2 : m = m'
            · rw [e, e2, if_pos rfl]
            · rw [if_neg (by omega), if_pos (by omega), e]
          · rw [if_neg (by omega), if_neg (by omega)]
            exact w1 j (by omega)
        · rw [at', em1, em2]
          by_cases e : j = i
          · rw [if_pos (by omega), e]
          · rw [if_neg (by omega), if_neg (by omega)]
            exact w2 j (by omega)
        · rw [at', if_neg (by omega), if_neg (by omega)]
          exact w3 q (by omega) (by omega)
    have g := L 22 0 νs (by omega) (by omega) (fun j hj => absurd hj (Nat.not_lt_zero _)) (fun j hj => absurd hj (Nat.not_lt_zero _)) (fun q _ _ => by rw [s4]) (fun _ _ => rfl)
    rw [nI_0] at g
    exact ⟨_, g⟩
  exact rr_isSame hm hm' hR hR' (hv m hm) (hv m' hm') (fun p => cont 1 (fun _ => rfl) (fun z => absurd p z)) (fun p => cont 0 (fun z => absurd z p) (fun _ => rfl))
end SRG
