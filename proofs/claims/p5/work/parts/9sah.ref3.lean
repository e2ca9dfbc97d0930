section SRH
variable {ν ν9 : TMem} {S : Nat → AM} {a r k t : Int32} {a1 a2 a3 a4 a5 : Int32} {Q : Int32 → TMem → Prop} {Qi : Int32 → Prop} {m : Nat} {A : AM}
theorem of_nn {x : Int32} {n : Nat} (h : nn x < 2 ^ n) (hn : n ≤ 7) : x = nI (nn x) ∧ nn x < 128 := by
  have h2 : (2 : Nat) ^ n ≤ 2 ^ 7 := Nat.pow_le_pow_right (by decide) hn
  exact ⟨s_of (nn_nonneg (by omega)) (by omega), by omega⟩
theorem mask_fin : ∀ n : Nat, n < 8 → ∀ x : Nat, x < 128 → x < 2 ^ n → (((1 : Int32) <<< (nI n &&& 31)) - (1 : Int32)) &&& (nI x ^^^ (-1 : Int32)) = nI x ^^^ (((1 : Int32) <<< (nI n &&& 31)) - (1 : Int32)) ∧ nn ((((1 : Int32) <<< (nI n &&& 31)) - (1 : Int32)) &&& (nI x ^^^ (-1 : Int32))) < 2 ^ n := by decide +kernel
theorem aO_eq (hv : AV A) : (aO A).2.2.1 = A.2.2.1 ^^^ (((1 : Int32) <<< (nI A.1 &&& 31)) - (1 : Int32)) ∧ nn (aO A).2.2.1 < 2 ^ A.1 := by
  have h7 := hv.2.1
  have h := of_nn hv.2.2.2.1 h7
  have hx := hv.2.2.2.1
  have g := mask_fin A.1 (by omega) (nn A.2.2.1) h.2 hx
  rw [← h.1] at g
  exact g
theorem cu_fin : ∀ n : Nat, n < 8 → ∀ g : Nat, g < n → ∀ x : Nat, x < 2 ^ n → nn (cu (nI x) g) < 2 ^ (n - 1) := by decide +kernel
theorem cu_lt {x : Int32} {n g : Nat} (h : nn x < 2 ^ n) (hn : n ≤ 7) (hg : g < n) : nn (cu x g) < 2 ^ (n - 1) := by
  have e := of_nn h hn
  have := cu_fin n (by omega) g hg (nn x) h
  rwa [← e.1] at this
theorem cu_0 : ∀ g : Nat, g < 7 → cu 0 g = 0 := by decide +kernel
theorem aO_AV (hv : AV A) : AV (aO A) := ⟨hv.1, hv.2.1, hv.2.2.1, (aO_eq hv).2, hv.2.2.2.2.1, hv.2.2.2.2.2⟩
theorem aD_AV {s : Nat} (hv : AV A) (hs : s < A.1) (h1 : A.1 ≠ 1) : AV (aD A s) := by
  obtain ⟨v1, v7, vs, vg, vc, vz⟩ := hv
  refine ⟨show 1 ≤ A.1 - 1 by omega, show A.1 - 1 ≤ 7 by omega, cu_lt vs v7 hs, cu_lt vg v7 hs, fun j hj => ?_, fun j hj => ?_⟩
  · have hj' : j < 3 * (A.1 - 1) := hj
    show nn (if j < 3 * (A.1 - 1) then cu (A.2.2.2 (if j < 3 * s then j else j + 3)) s else 0) < 2 ^ (A.1 - 1)
    rw [if_pos hj']
    refine cu_lt (vc _ ?_) v7 hs
    by_cases e : j < 3 * s
    · rw [if_pos e]; omega
    · rw [if_neg e]; omega
  · have hj' : 3 * (A.1 - 1) ≤ j := hj
    show (if j < 3 * (A.1 - 1) then cu (A.2.2.2 (if j < 3 * s then j else j + 3)) s else 0) = 0
    rw [if_neg (by omega)]
theorem rr_isPlain (hm : m < 4) (hR : HR ν m A) (hv : AV A) (h1 : aPl A → Qi 1) (h0 : ¬ aPl A → Qi 0) : wp_X11_isPlain ν (nI m) Qi := by
  obtain ⟨b1, b2, b3, b4⟩ := hR
  have v7 := hv.2.1
  have im : (nI m).toNatClampNeg = m := nI_clamp (by omega)
  have L2 : ∀ (x : Nat) (K : Int32 → Prop), x < A.1 → (∀ v : Int32, (v = 1 ∧ pop A.2.1 = 1 ∧ (∀ j, j < 3 * x + 3 → pop (A.2.2.2 j) = 1) ∨ v = 0 ∧ ¬ aPl A) → K v) → ∀ (nf b : Nat) (v : Int32), 3 - b < nf → b ≤ 3 → (v = 1 ∧ pop A.2.1 = 1 ∧ (∀ j, j < 3 * x + b → pop (A.2.2.2 j) = 1) ∨ v = 0 ∧ ¬ aPl A) → wpl_X11_isPlain_34 ν (nI x) (nI m) K nf (nI b) v := by
    intro x K hx hK nf
    induction nf with
    | zero => intro b v hk; exact absurd hk (Nat.not_lt_zero _)
    | succ nf ih =>
      intro b v hk hb hV
      refine ⟨fun c => ?_, fun c => rr_key ?_⟩
      · rw [show (3 : Int32) = nI 3 from rfl, nI_leI (by omega) (by omega)] at c
        rw [show 3 * x + b = 3 * x + 3 by omega] at hV
        exact hK v hV
      rw [show (3 : Int32) = nI 3 from rfl, nI_leI (by omega) (by omega)] at c
      refine ⟨s_in (show _ < 84 by omega) (by omega), ?_⟩
      rw [nI_clamp (by omega), Nat.add_assoc, b4 _ (by omega)]
      refine pop_w ⟨fun z => ?_, fun z => ?_⟩
      · rw [nI_1]
        refine ih (b + 1) _ (by omega) (by omega) (Or.inr ⟨?_, fun w => z (w.1 _ (by omega))⟩)
        rcases hV with ⟨rfl, _⟩ | ⟨rfl, _⟩ <;> decide
      · rw [nI_1]
        refine ih (b + 1) _ (by omega) (by omega) ?_
        rcases hV with ⟨rfl, hp, hV⟩ | ⟨rfl, hV⟩
        · refine Or.inl ⟨by decide, hp, fun j hj => ?_⟩
          by_cases e : j = 3 * x + b
          · rw [e]; exact z
          · exact hV j (by omega)
        · exact Or.inr ⟨by decide, hV⟩
  have L1 : ∀ (nf x : Nat) (v : Int32), A.1 - x < nf → x ≤ A.1 → (v = 1 ∧ pop A.2.1 = 1 ∧ (∀ j, j < 3 * x → pop (A.2.2.2 j) = 1) ∨ v = 0 ∧ ¬ aPl A) → wpl_X11_isPlain_21 ν (nI m) Qi nf (nI x) v := by
    intro nf
    induction nf with
    | zero => intro x v hk; exact absurd hk (Nat.not_lt_zero _)
    | succ nf ih =>
      intro x v hk hx hV
      refine ⟨s_in hm (by omega), ?_⟩
      rw [im, b1]
      refine ⟨fun c => ?_, fun c => ?_⟩
      · rw [nI_leI (by omega) (by omega)] at c
        have e : x = A.1 := by omega
        subst e
        rcases hV with ⟨rfl, hp, hV⟩ | ⟨rfl, hV⟩
        · exact ⟨Or.inr rfl, h1 ⟨hV, hp⟩⟩
        · exact ⟨Or.inl rfl, h0 hV⟩
      rw [nI_leI (by omega) (by omega)] at c
      have g := L2 x (fun u => wpl_X11_isPlain_21 ν (nI m) Qi nf (nI x + (1 : Int32)) u) (by omega) (fun u hu => by rw [nI_1]; exact ih (x + 1) u (by omega) (by omega) hu) 4 0 v (by omega) (by omega) hV
      rw [nI_0] at g
      exact ⟨_, g⟩
  have go : ∀ v : Int32, (v = 1 ∧ pop A.2.1 = 1 ∨ v = 0 ∧ ¬ aPl A) → ∃ n4x, wpl_X11_isPlain_21 ν (nI m) Qi n4x (0 : Int32) v := fun v hV => by
    have g := L1 (A.1 + 1) 0 v (by omega) (by omega) (hV.imp (fun z => ⟨z.1, z.2, fun j hj => absurd hj (Nat.not_lt_zero _)⟩) (fun z => z))
    rw [nI_0] at g
    exact ⟨_, g⟩
  refine ⟨s_in hm (by omega), ?_⟩
  rw [im, b2]
  refine pop_w (fun J hJ => ⟨fun z => hJ 0 (go 0 (Or.inr ⟨rfl, fun w => z w.2⟩)), fun z => hJ 1 (go 1 (Or.inl ⟨rfl, z⟩))⟩)
theorem rr_other (h : RSt ν S a r k t) (hv : AVs S) (hok : ∀ m, m < 4 → a1 = nI m → aPl (S m) → ∀ ν9, RSt ν9 (sUp S m (aO (S m))) (a + 1) r k 0 → Q (pop (aO (S m)).2.2.1) ν9) (hre : ∀ m, m < 4 → a1 = nI m → ¬ aPl (S m) → ∀ ν9, RSt ν9 S a (r + 1) k 0 → Q (-9) ν9) (h1 : ¬ M1 a1 → ∀ b ν9, RSt ν9 S a r k 1 → Q b ν9) : wp_X11_other ν a1 Q := by
  refine rr_one (fun m hm em => th_ok ⟨fun _ => ?_, fun q => absurd rfl q⟩) (fun z => th_1 ⟨fun q => absurd q (by decide), fun _ => h1 z _ _ (h.thr 1)⟩)
  have h0 := h.thr 0
  have hR := h0.1 m hm
  have hok' := hok m hm em
  have hre' := hre m hm em
  have im : (nI m).toNatClampNeg = m := nI_clamp (by omega)
  rw [em]
  generalize hN : tms ν 0 7 0 = N at *
  refine rr_isPlain hm hR (hv m hm) (fun p => ⟨fun _ => ?_, fun q => absurd q (by decide)⟩) (fun p => ⟨fun q => absurd rfl q, fun _ => hre' p _ h0.ref⟩)
  have g := hok' p _ (h0.act (m := m) (A := aO (S m)) (ν9 := tms N 3 m (aO (S m)).2.2.1) hR.set3.1 hR.set3.2)
  refine ⟨s_in hm (by omega), s_in hm (by omega), s_in hm (by omega), s_in hm (by omega), ?_⟩
  rw [im, hR.1, hR.2.2.1, ← (aO_eq (hv m hm)).1, tms_eq, upd_at]
  exact pop_w g
theorem rr_grow (h : RSt ν S a r k t) (hv : AVs S) (hok : ∀ m, m < 4 → a1 = nI m → (S m).1 < 7 → ∀ ν9, RSt ν9 (sUp S m ((S m).1 + 1, (S m).2)) (a + 1) r k 0 → Q (nI (S m).1) ν9) (hre : ∀ m, m < 4 → a1 = nI m → ¬ (S m).1 < 7 → ∀ ν9, RSt ν9 S a (r + 1) k 0 → Q (-9) ν9) (h1 : ¬ M1 a1 → ∀ b ν9, RSt ν9 S a r k 1 → Q b ν9) : wp_X11_grow ν a1 Q := by
  refine rr_one (fun m hm em => th_ok ⟨fun _ => ?_, fun q => absurd rfl q⟩) (fun z => th_1 ⟨fun q => absurd q (by decide), fun _ => h1 z _ _ (h.thr 1)⟩)
  have h0 := h.thr 0
  have hR := h0.1 m hm
  have v7 := (hv m hm).2.1
  have hok' := hok m hm em
  have hre' := hre m hm em
  have im : (nI m).toNatClampNeg = m := nI_clamp (by omega)
  rw [em]
  generalize hN : tms ν 0 7 0 = N at *
  refine ⟨s_in hm (by omega), ?_⟩
  rw [im, hR.1, nI_1, show (7 : Int32) = nI 7 from rfl, nI_eq (by omega) (by omega)]
  refine ⟨fun z => ⟨s_in hm (by omega), s_in hm (by omega), s_in hm (by omega), ?_⟩, fun z => hre' (by omega) _ h0.ref⟩
  obtain ⟨b1, b2, b3, b4⟩ := hR
  have g := hok' (by omega) _ (h0.act (m := m) (A := ((S m).1 + 1, (S m).2)) (ν9 := tms N 1 m (nI ((S m).1 + 1))) ⟨by simp [tms_ix], by rw [tms_ne (by decide)]; exact b2, by rw [tms_ne (by decide)]; exact b3, fun j hj => by rw [tms_ne (by decide)]; exact b4 j hj⟩ ⟨tms_ne (by decide), fun i hi => ⟨by simp [tms_ix, hi], by rw [tms_ne (by decide)], by rw [tms_ne (by decide)]⟩, fun p _ => by rw [tms_ne (by decide)]⟩)
  rw [tms_eq, upd_at, nI_pred]
  exact g
theorem rr_without {x : Int32} {s : Nat} (h : Qi (cu x s)) : wp_X11_without x (nI s) Qi := h
def dv (c : Nat → Int32) (s j : Nat) : Int32 := if j < 3 * s then c j else if j + 3 < 21 then c (j + 3) else 0
theorem rr_drop (h : RSt ν S a r k t) (hv : AVs S) (hok : ∀ m s, m < 4 → a1 = nI m → s < (S m).1 → a2 = nI s → (S m).1 ≠ 1 → ∀ ν9, RSt ν9 (sUp S m (aD (S m) s)) (a + 1) r k 0 → Q (AC (S m) - AC (aD (S m) s)) ν9) (hre : ∀ m s, m < 4 → a1 = nI m → s < (S m).1 → a2 = nI s → (S m).1 = 1 → ∀ ν9, RSt ν9 S a (r + 1) k 0 → Q (-9) ν9) (h1 : ¬ (∃ m, m < 4 ∧ a1 = nI m ∧ STn a2 (S m).1) → ∀ b ν9, RSt ν9 S a r k 1 → Q b ν9) : wp_X11_drop ν a1 a2 Q := by
  have bad0 : ¬ (∃ m, m < 4 ∧ a1 = nI m ∧ STn a2 (S m).1) → ∀ (B : TMem → Prop), wp_X11_isThrown ν 0 1 (fun (r5 : Int32) (μ4 : TMem) => (r5 = 0 → B μ4) ∧ (¬ r5 = 0 → (Q (0 : Int32) μ4))) := fun z B => th_1 ⟨fun q => absurd q (by decide), fun _ => h1 z _ _ (h.thr 1)⟩
  refine rr_one (fun m hm em J hJ => ⟨fun z => absurd z (by decide), fun _ => ?_⟩) (fun z J hJ => ⟨fun _ => hJ 0 (bad0 (fun ⟨m, hm, e, _⟩ => z (e ▸ M1_nI hm)) _), fun w => absurd rfl w⟩)
  have hR0 := h.1 m hm
  have v1 := (hv m hm).1
  have v7 := (hv m hm).2.1
  have hbad : ¬ STn a2 (S m).1 → ¬ (∃ m, m < 4 ∧ a1 = nI m ∧ STn a2 (S m).1) := fun z ⟨m', hm', e', e4⟩ => z (by rw [nI_inj4 hm hm' (em.symm.trans e')]; exact e4)
  have hok' := fun s => hok m s hm em
  have hre' := fun s => hre m s hm em
  subst em
  refine rr_st hm hR0.1 v1 v7 (fun s hs es => ⟨fun z => absurd z (by decide), fun _ => hJ 1 (th_ok ⟨fun _ => ?_, fun q => absurd rfl q⟩)⟩) (fun z => ⟨fun _ => hJ 0 (bad0 (hbad z) _), fun w => absurd rfl w⟩)
  have h0 := h.thr 0
  have hR := h0.1 m hm
  have im : (nI m).toNatClampNeg = m := nI_clamp (by omega)
  have vA := hv m hm
  generalize hN : tms ν 0 7 0 = N at *
  refine ⟨s_in hm (by omega), ?_⟩
  rw [im, hR.1, show nI (S m).1 = (1 : Int32) ↔ (S m).1 = 1 from nI_eq (b := 1) (by omega) (by omega)]
  refine ⟨fun z => ?_, fun z => hre' s hs es z _ h0.ref⟩
  have vD := aD_AV vA hs z
  rw [es]
  refine rr_arrowsOf hm hR vA (rr_key (f := s) (s := 0) ?_)
  obtain ⟨b1, b2, b3, b4⟩ := hR
  have hokz := hok' s hs es z
  generalize hA : S m = A at *
  have vz := vA.2.2.2.2.2
  -- first the cells behind move up
  have L1 : ∀ (w : Int32) (K : TMem → Prop), (∀ ν1, RW m N (dv A.2.2.2 s) 21 ν1 → K ν1) → ∀ (nf i : Nat) (ν1 : TMem), 21 - i < nf → i ≤ 21 → 3 * s ≤ i → RW m N (dv A.2.2.2 s) i ν1 → wpl_X11_drop_60 w (nI m) (nI s) K nf (nI (21 * m + i)) ν1 := by
    intro w K hK nf
    induction nf with
    | zero => intro i ν1 hk; exact absurd hk (Nat.not_lt_zero _)
    | succ nf ih =>
      intro i ν1 hk hi his hW
      refine rr_key0 ?_
      rw [show (21 : Int32) = nI 21 from rfl, nI_add]
      refine ⟨fun q => ?_, fun q => rr_key0 ?_⟩
      · rw [nI_leI (by omega) (by omega)] at q
        rw [show i = 21 by omega] at hW
        exact hK ν1 hW
      rw [nI_leI (by omega) (by omega)] at q
      rw [show (3 : Int32) = nI 3 from rfl, nI_add, nI_add, nI_1]
      have val := hW.step
      refine ⟨fun y => ?_, fun y => ?_⟩
      · rw [nI_leI (by omega) (by omega)] at y
        refine ⟨s_in (show _ < 84 by omega) (by omega), ?_⟩
        rw [nI_clamp (by omega)]
        have e : dv A.2.2.2 s i = 0 := by rw [dv, if_neg (by omega), if_neg (by omega)]
        rw [e] at val
        exact ih (i + 1) _ (by omega) (by omega) (by omega) val
      · rw [nI_leI (by omega) (by omega)] at y
        refine ⟨s_in (show _ < 84 by omega) (by omega), s_in (show _ < 84 by omega) (by omega), ?_⟩
        rw [nI_clamp (by omega), nI_clamp (by omega), show 21 * m + i + 1 = 21 * m + (i + 1) by omega, hW.2.1 _ (by omega), show 21 * m + i + 3 = 21 * m + (i + 3) by omega, b4 (i + 3) (by omega)]
        have e : dv A.2.2.2 s i = A.2.2.2 (i + 3) := by rw [dv, if_neg (by omega), if_pos (by omega)]
        rw [e] at val
        exact ih (i + 1) _ (by omega) (by omega) (by omega) val
  have L2 : ∀ (w : Int32) (N1 : TMem) (K : TMem → Prop), RW m N (dv A.2.2.2 s) 21 N1 → (∀ ν1, RW m N1 (aD A s).2.2.2 21 ν1 → K ν1) → ∀ (nf i : Nat) (ν1 : TMem), 21 - i < nf → i ≤ 21 → RW m N1 (aD A s).2.2.2 i ν1 → wpl_X11_drop_119 w (nI m) (nI s) K nf (nI i) ν1 := by
    intro w N1 K h1 hK nf
    induction nf with
    | zero => intro i ν1 hk; exact absurd hk (Nat.not_lt_zero _)
    | succ nf ih =>
      intro i ν1 hk hi hW
      refine ⟨fun q => ?_, fun q => rr_key0 (rr_key0 ?_)⟩
      · rw [show (21 : Int32) = nI 21 from rfl, nI_leI (by omega) (by omega)] at q
        rw [show i = 21 by omega] at hW
        exact hK ν1 hW
      rw [show (21 : Int32) = nI 21 from rfl, nI_leI (by omega) (by omega)] at q
      rw [nI_add, nI_clamp (by omega), nI_1]
      refine ⟨s_in (show _ < 84 by omega) (by omega), rr_without ⟨s_in (show _ < 84 by omega) (by omega), ?_⟩⟩
      have e : cu (ν1 4 (21 * m + i)) s = (aD A s).2.2.2 i := by
        rw [hW.2.1 _ (by omega), h1.1 i (by omega), dv]
        show _ = if i < 3 * (A.1 - 1) then cu (A.2.2.2 (if i < 3 * s then i else i + 3)) s else 0
        by_cases y : i < 3 * (A.1 - 1)
        · rw [if_pos y]
          by_cases y2 : i < 3 * s
          · rw [if_pos y2, if_pos y2]
          · rw [if_neg y2, if_neg y2, if_pos (by omega)]
        · rw [if_neg y, if_neg (by omega)]
          by_cases y3 : i + 3 < 21
          · rw [if_pos y3, vz _ (by omega)]
            exact cu_0 s (by omega)
          · rw [if_neg y3]
            exact cu_0 s (by omega)
      rw [e]
      exact ih (i + 1) _ (by omega) (by omega) hW.step
  refine ⟨22, L1 _ _ (fun N1 w1 => ⟨22, ?_⟩) 22 (3 * s) N (by omega) (by omega) (by omega) ⟨fun j hj => by rw [dv, if_pos hj]; exact b4 j (by omega), fun _ _ => rfl, fun _ _ => rfl⟩⟩
  have g := L2 (AC A) N1 (fun (μ41 : TMem) => vp_in (nI m) (ml 2) ∧ (wp_X11_without (μ41 2 (nI m).toNatClampNeg) (nI s) (fun (r43 : Int32) => vp_in (nI m) (ml 2) ∧ (vp_in (nI m) (ml 3) ∧ (wp_X11_without ((tms μ41 2 (nI m).toNatClampNeg r43) 3 (nI m).toNatClampNeg) (nI s) (fun (r46 : Int32) => vp_in (nI m) (ml 3) ∧ (vp_in (nI m) (ml 1) ∧ (vp_in (nI m) (ml 1) ∧ (wp_X11_arrowsOf (tms (tms (tms μ41 2 (nI m).toNatClampNeg r43) 3 (nI m).toNatClampNeg r46) 1 (nI m).toNatClampNeg (((tms (tms μ41 2 (nI m).toNatClampNeg r43) 3 (nI m).toNatClampNeg r46) 1 (nI m).toNatClampNeg) - (1 : Int32))) (nI m) (fun (r52 : Int32) => wp_X11_did (tms (tms (tms μ41 2 (nI m).toNatClampNeg r43) 3 (nI m).toNatClampNeg r46) 1 (nI m).toNatClampNeg (((tms (tms μ41 2 (nI m).toNatClampNeg r43) 3 (nI m).toNatClampNeg r46) 1 (nI m).toNatClampNeg) - (1 : Int32))) (AC A - r52) (fun (r54 : Int32) (μ53 : TMem) => Q r54 μ53))))))))))) w1 (fun N2 w2 => ?_) 22 0 N1 (by omega) (by omega) RW.start
  · rw [nI_0, im] at g
    exact g
  rw [im]
  have n0 : N2 0 = N 0 := by rw [w2.2.2 0 (by decide), w1.2.2 0 (by decide)]
  have n1 : N2 1 = N 1 := by rw [w2.2.2 1 (by decide), w1.2.2 1 (by decide)]
  have n2 : N2 2 = N 2 := by rw [w2.2.2 2 (by decide), w1.2.2 2 (by decide)]
  have n3 : N2 3 = N 3 := by rw [w2.2.2 3 (by decide), w1.2.2 3 (by decide)]
  refine ⟨s_in hm (by omega), rr_without ⟨s_in hm (by omega), s_in hm (by omega), rr_without ⟨s_in hm (by omega), s_in hm (by omega), s_in hm (by omega), ?_⟩⟩⟩
  have e2 : N2 2 m = A.2.1 := by rw [n2]; exact b2
  have e3 : (tms N2 2 m (cu A.2.1 s)) 3 m = A.2.2.1 := by rw [tms_ne (by decide), n3]; exact b3
  have e1 : (tms (tms N2 2 m (cu A.2.1 s)) 3 m (cu A.2.2.1 s)) 1 m - (1 : Int32) = nI (A.1 - 1) := by
    rw [tms_ne (by decide), tms_ne (by decide), n1, b1, show (1 : Int32) = nI 1 from rfl, s_sub (by omega) (by omega)]
  rw [e2, e3, e1]
  have hRD : HR (tms (tms (tms N2 2 m (cu A.2.1 s)) 3 m (cu A.2.2.1 s)) 1 m (nI (A.1 - 1))) m (aD A s) := ⟨by simp [tms_ix, aD], by simp [tms_ix, aD], by simp [tms_ix, aD], fun j hj => by rw [tms_ne (by decide), tms_ne (by decide), tms_ne (by decide)]; exact w2.1 j hj⟩
  refine rr_arrowsOf hm hRD vD (hokz _ (h0.act hRD ⟨?_, fun i hi => ⟨?_, ?_, ?_⟩, fun p hp => ?_⟩))
  · rw [tms_ne (by decide), tms_ne (by decide), tms_ne (by decide), n0]
  · simp [tms_ix, hi, n1]
  · simp [tms_ix, hi, n2]
  · simp [tms_ix, hi, n3]
  · rw [tms_ne (by decide), tms_ne (by decide), tms_ne (by decide), w2.2.1 p (by omega), w1.2.1 p (by omega)]
end SRH
