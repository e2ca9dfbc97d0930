section SRF
variable {ν ν9 : TMem} {S : Nat → AM} {a r k t : Int32} {a1 a2 a3 a4 a5 : Int32} {Q : Int32 → TMem → Prop} {Qi : Int32 → Prop} {m : Nat} {A : AM}
/-- the reference's row m holds a machine -/
def HR (ν : TMem) (m : Nat) (A : AM) : Prop := ν 1 m = nI A.1 ∧ ν 2 m = A.2.1 ∧ ν 3 m = A.2.2.1 ∧ ∀ j, j < 21 → ν 4 (21 * m + j) = A.2.2.2 j
def RSt (ν : TMem) (S : Nat → AM) (a r k t : Int32) : Prop := (∀ m, m < 4 → HR ν m (S m)) ∧ ν 0 4 = a ∧ ν 0 5 = r ∧ ν 0 6 = k ∧ ν 0 7 = t
def RF (m : Nat) (ν ν9 : TMem) : Prop := ν9 0 = ν 0 ∧ (∀ i, i ≠ m → ν9 1 i = ν 1 i ∧ ν9 2 i = ν 2 i ∧ ν9 3 i = ν 3 i) ∧ ∀ p, (p < 21 * m ∨ 21 * m + 21 ≤ p) → ν9 4 p = ν 4 p
theorem RSt.thr (h : RSt ν S a r k t) (v : Int32) : RSt (tms ν 0 7 v) S a r k v := by
  obtain ⟨h1, h2, h3, h4, h5⟩ := h
  refine ⟨fun i hi => ?_, by simp [tms_ix, h2], by simp [tms_ix, h3], by simp [tms_ix, h4], by simp [tms_ix]⟩
  obtain ⟨g1, g2, g3, g4⟩ := h1 i hi
  exact ⟨by rw [tms_ne (by decide)]; exact g1, by rw [tms_ne (by decide)]; exact g2, by rw [tms_ne (by decide)]; exact g3, fun j hj => by rw [tms_ne (by decide)]; exact g4 j hj⟩
theorem RSt.act (h : RSt ν S a r k t) (hR : HR ν9 m A) (hF : RF m ν ν9) : RSt (tms ν9 0 4 ((ν9 0 4) + (1 : Int32))) (sUp S m A) (a + 1) r k t := by
  obtain ⟨h1, h2, h3, h4, h5⟩ := h
  obtain ⟨f0, f1, f2⟩ := hF
  refine ⟨fun i hi => ?_, by simp [tms_ix, f0, h2], by simp [tms_ix, f0, h3], by simp [tms_ix, f0, h4], by simp [tms_ix, f0, h5]⟩
  by_cases e : i = m
  · subst e
    rw [sUp_at]
    obtain ⟨g1, g2, g3, g4⟩ := hR
    exact ⟨by rw [tms_ne (by decide)]; exact g1, by rw [tms_ne (by decide)]; exact g2, by rw [tms_ne (by decide)]; exact g3, fun j hj => by rw [tms_ne (by decide)]; exact g4 j hj⟩
  · rw [sUp_ne e]
    obtain ⟨g1, g2, g3, g4⟩ := h1 i hi
    obtain ⟨e1, e2, e3⟩ := f1 i e
    exact ⟨by rw [tms_ne (by decide), e1]; exact g1, by rw [tms_ne (by decide), e2]; exact g2, by rw [tms_ne (by decide), e3]; exact g3, fun j hj => by rw [tms_ne (by decide), f2 _ (by omega)]; exact g4 j hj⟩
theorem RSt.ref (h : RSt ν S a r k t) : RSt (tms ν 0 5 ((ν 0 5) + (1 : Int32))) S a (r + 1) k t := by
  obtain ⟨h1, h2, h3, h4, h5⟩ := h
  refine ⟨fun i hi => ?_, by simp [tms_ix, h2], by simp [tms_ix, h3], by simp [tms_ix, h4], by simp [tms_ix, h5]⟩
  obtain ⟨g1, g2, g3, g4⟩ := h1 i hi
  exact ⟨by rw [tms_ne (by decide)]; exact g1, by rw [tms_ne (by decide)]; exact g2, by rw [tms_ne (by decide)]; exact g3, fun j hj => by rw [tms_ne (by decide)]; exact g4 j hj⟩
theorem rr_in {x lo hi : Int32} (h1 : IN x lo.toInt hi.toInt → Qi 1) (h0 : ¬ IN x lo.toInt hi.toInt → Qi 0) : wp_X11_isIn x lo hi Qi := r_isIn h1 h0
theorem rr_one {x : Int32} (h1 : ∀ m, m < 4 → x = nI m → Qi 1) (h0 : ¬ M1 x → Qi 0) : wp_X11_isOne x Qi := by
  refine rr_in (fun z => ⟨Or.inr rfl, ?_⟩) (fun z => ⟨Or.inl rfl, h0 z⟩)
  obtain ⟨m, e, h2, h3⟩ := IN_ex z (by decide)
  have h3' : (m : Int) ≤ 3 := h3
  exact h1 m (by omega) e
theorem rr_two {x y : Int32} {B : Int32 → Prop} (h1 : ∀ m m', m < 4 → m' < 4 → x = nI m → y = nI m' → B 1) (h0 : ¬ ONE2 x y → B 0) : wp_X11_isOne x (fun r1 => ∀ J2 : Int32 → Prop, (∀ j3 : Int32, B j3 → J2 j3) → ((r1 = 0 → J2 0) ∧ (¬ r1 = 0 → wp_X11_isOne y (fun r31 => (r31 = 0 → J2 0) ∧ (¬ r31 = 0 → J2 1))))) := by
  refine rr_one (fun m hm em J hJ => ⟨fun z => absurd z (by decide), fun _ => ?_⟩) (fun z J hJ => ⟨fun _ => hJ _ (h0 (fun w => z w.1)), fun w => absurd rfl w⟩)
  exact rr_one (fun m' hm' em' => ⟨fun z => absurd z (by decide), fun _ => hJ _ (h1 m m' hm hm' em em')⟩) (fun z => ⟨fun _ => hJ _ (h0 (fun w => z w.2)), fun w => absurd rfl w⟩)
theorem th_ok (h : Q 0 (tms ν 0 7 0)) : wp_X11_isThrown ν 1 1 Q := r_thrown (fun t ht => by
  rw [if_neg (by decide), if_neg (by decide)] at ht
  rw [ht]
  exact h)
theorem th_1 {y : Int32} (h : Q 1 (tms ν 0 7 1)) : wp_X11_isThrown ν 0 y Q := r_thrown (fun t ht => by
  rw [if_pos rfl] at ht
  rw [ht]
  exact h)
theorem th_2 (h : Q 1 (tms ν 0 7 2)) : wp_X11_isThrown ν 1 0 Q := r_thrown (fun t ht => by
  rw [if_neg (by decide), if_pos rfl] at ht
  rw [ht]
  exact h)
theorem s_key (m f s : Nat) : ((nI m * (7 : Int32)) + nI f) * (3 : Int32) + nI s = nI (21 * m + 3 * f + s) := by
  rw [show (7 : Int32) = nI 7 from rfl, show (3 : Int32) = nI 3 from rfl, s_mul, nI_add, s_mul, nI_add]
  congr 1
  omega
theorem rr_key {f s : Nat} (h : Qi (nI (21 * m + 3 * f + s))) : wp_X11_key (nI m) (nI f) (nI s) Qi := by
  unfold wp_X11_key
  rw [s_key]
  exact h
theorem rr_key0 (h : Qi (nI (21 * m))) : wp_X11_key (nI m) 0 0 Qi := rr_key (f := 0) (s := 0) h
theorem rr_st {s : Int32} {n : Nat} (hm : m < 4) (hn : ν 1 m = nI n) (n1 : 1 ≤ n) (n7 : n ≤ 7) (h1 : ∀ f, f < n → s = nI f → Qi 1) (h0 : ¬ STn s n → Qi 0) : wp_X11_isState ν (nI m) s Qi := by
  refine ⟨s_in hm (by omega), ?_⟩
  rw [nI_clamp (by omega), hn]
  have e : nI n - (1 : Int32) = nI (n - 1) := by rw [show (1 : Int32) = nI 1 from rfl, s_sub (by omega) (by omega)]
  rw [e]
  have e2 : (nI (n - 1)).toInt = ((n - 1 : Nat) : Int) := nI_toInt (by omega)
  refine rr_in (fun z => ⟨Or.inr rfl, ?_⟩) (fun z => ⟨Or.inl rfl, h0 (fun w => z ⟨w.1, ?_⟩)⟩)
  · obtain ⟨f, ef, f1, f2⟩ := IN_ex z (by decide)
    rw [e2] at f2
    exact h1 f (by omega) ef
  · rw [e2]
    have := w.2
    omega
theorem rr_arrowsOf (hm : m < 4) (hR : HR ν m A) (hv : AV A) (h : Qi (AC A)) : wp_X11_arrowsOf ν (nI m) Qi := by
  have e21 : ACn A.2.2.2 21 = AC A := ACn_zero hv.2.2.2.2.2 21 (by have := hv.2.1; omega)
  have L : ∀ (nf i : Nat), 21 - i < nf → i ≤ 21 → wpl_X11_arrowsOf_9 ν (nI m) Qi nf (nI (21 * m + i)) (ACn A.2.2.2 i) := by
    intro nf
    induction nf with
    | zero => intro i hk; exact absurd hk (Nat.not_lt_zero _)
    | succ nf ih =>
      intro i hk hi
      refine rr_key0 ?_
      rw [show (21 : Int32) = nI 21 from rfl, nI_add]
      refine ⟨fun c => ?_, fun c => ⟨s_in (show _ < 84 by rw [nI_leI (by omega) (by omega)] at c; omega) (by omega), ?_⟩⟩
      · rw [nI_leI (by omega) (by omega)] at c
        rw [show i = 21 by omega, e21]
        exact h
      · rw [nI_leI (by omega) (by omega)] at c
        rw [nI_clamp (by omega), hR.2.2.2 i (by omega)]
        refine pop_w ?_
        rw [nI_1, Nat.add_assoc]
        exact ih (i + 1) (by omega) (by omega)
  refine rr_key0 ⟨22, ?_⟩
  exact L 22 0 (by omega) (by omega)
/-- a row's cells ahead of p are written -/
def RW (m : Nat) (νs : TMem) (v : Nat → Int32) (p : Nat) (ν1 : TMem) : Prop := (∀ j, j < p → ν1 4 (21 * m + j) = v j) ∧ (∀ q, q < 21 * m ∨ 21 * m + p ≤ q → ν1 4 q = νs 4 q) ∧ ∀ j, j ≠ 4 → ν1 j = νs j
variable {νs : TMem} {v : Nat → Int32}
theorem RW.start : RW m νs v 0 νs := ⟨fun j hj => absurd hj (Nat.not_lt_zero _), fun _ _ => rfl, fun _ _ => rfl⟩
theorem RW.step {p : Nat} {ν1 : TMem} (h : RW m νs v p ν1) : RW m νs v (p + 1) (tms ν1 4 (21 * m + p) (v p)) := by
  refine ⟨fun j hj => ?_, fun q hq => ?_, fun j hj => by rw [tms_ne hj]; exact h.2.2 j hj⟩
  · rw [tms_eq]
    by_cases e : j = p
    · rw [e, upd_at]
    · rw [upd_ne (by omega)]
      exact h.1 j (by omega)
  · rw [tms_eq, upd_ne (by omega)]
    exact h.2.1 q (by omega)
theorem rr_clear {n : Nat} {Qv : TMem → Prop} (hm : m < 4) (h : ∀ ν9, HR ν9 m (aC n) → RF m ν ν9 → Qv ν9) : wp_X11_clear ν (nI m) (nI n) Qv := by
  have im : (nI m).toNatClampNeg = m := nI_clamp (by omega)
  generalize hs : tms (tms (tms ν 1 m (nI n)) 2 m (1 : Int32)) 3 m (0 : Int32) = νs
  have fin : ∀ ν1, RW m νs (fun _ => 0) 21 ν1 → Qv ν1 := fun ν1 w => by
    obtain ⟨w1, w2, w3⟩ := w
    refine h ν1 ⟨?_, ?_, ?_, fun j hj => w1 j hj⟩ ⟨?_, fun i hi => ⟨?_, ?_, ?_⟩, fun p hp => ?_⟩
    · rw [w3 1 (by decide), ← hs]; simp [tms_ix, aC]
    · rw [w3 2 (by decide), ← hs]; simp [tms_ix, aC]
    · rw [w3 3 (by decide), ← hs]; simp [tms_ix, aC]
    · rw [w3 0 (by decide), ← hs, tms_ne (by decide), tms_ne (by decide), tms_ne (by decide)]
    · rw [w3 1 (by decide), ← hs]; simp [tms_ix, hi]
    · rw [w3 2 (by decide), ← hs]; simp [tms_ix, hi]
    · rw [w3 3 (by decide), ← hs]; simp [tms_ix, hi]
    · rw [w2 p (by omega), ← hs, tms_ne (by decide), tms_ne (by decide), tms_ne (by decide)]
  have L : ∀ (nf i : Nat) (ν1 : TMem), 21 - i < nf → i ≤ 21 → RW m νs (fun _ => 0) i ν1 → wpl_X11_clear_23 (nI m) Qv nf (nI i) ν1 := by
    intro nf
    induction nf with
    | zero => intro i ν1 hk; exact absurd hk (Nat.not_lt_zero _)
    | succ nf ih =>
      intro i ν1 hk hi hw
      refine ⟨fun c => ?_, fun c => rr_key0 ?_⟩
      · rw [show (21 : Int32) = nI 21 from rfl, nI_leI (by omega) (by omega)] at c
        rw [show i = 21 by omega] at hw
        exact fin ν1 hw
      rw [show (21 : Int32) = nI 21 from rfl, nI_leI (by omega) (by omega)] at c
      rw [nI_add, nI_clamp (by omega), nI_1]
      exact ⟨s_in (show _ < 84 by omega) (by omega), ih (i + 1) _ (by omega) (by omega) hw.step⟩
  have g := L 22 0 νs (by omega) (by omega) RW.start
  rw [nI_0, ← hs] at g
  refine ⟨s_in hm (by omega), s_in hm (by omega), s_in hm (by omega), 22, ?_⟩
  rw [im]
  exact g
theorem rr_begin (h : RSt ν S a r k t) (hv : AVs S) (hok : ∀ m n, m < 4 → a1 = nI m → a2 = nI n → 1 ≤ n → n ≤ 7 → ∀ ν9, RSt ν9 (sUp S m (aC n)) (a + 1) r k 0 → Q (AC (S m)) ν9) (h1 : ¬ M1 a1 → ∀ b ν9, RSt ν9 S a r k 1 → Q b ν9) (h2 : M1 a1 → ¬ IN a2 1 7 → ∀ b ν9, RSt ν9 S a r k 2 → Q b ν9) : wp_X11_begin ν a1 a2 Q := by
  refine rr_one (fun m hm em => rr_in (fun z => th_ok ⟨fun _ => ?_, fun q => absurd rfl q⟩) (fun z => th_2 ⟨fun q => absurd q (by decide), fun _ => h2 (em ▸ M1_nI hm) z _ _ (h.thr 2)⟩)) (fun z => rr_in (fun _ => th_1 ⟨fun q => absurd q (by decide), fun _ => h1 z _ _ (h.thr 1)⟩) (fun _ => th_1 ⟨fun q => absurd q (by decide), fun _ => h1 z _ _ (h.thr 1)⟩))
  obtain ⟨n, en, n1, n7⟩ := IN_ex z (by decide)
  have n1' : (1 : Int) ≤ n := n1
  have n7' : (n : Int) ≤ 7 := n7
  have h0 := h.thr 0
  rw [em, en]
  exact rr_arrowsOf hm (h0.1 m hm) (hv m hm) (rr_clear hm (fun ν9 hR hF => hok m n hm em en (by omega) (by omega) _ (h0.act hR hF)))
theorem rr_noArrow (h : RSt ν S a r k t) (hv : AVs S) (hok : ∀ m f s u, ARG S a1 a2 a3 a4 m f s u → Q 0 (tms ν 0 7 0)) (h1 : ¬ ARS S a1 a2 a4 → Q 1 (tms ν 0 7 1)) (h2 : ARS S a1 a2 a4 → ¬ IN a3 0 2 → Q 1 (tms ν 0 7 2)) : wp_X11_isNoArrow ν a1 a2 a3 a4 Q := by
  have bad : ¬ ARS S a1 a2 a4 → ∀ J : Int32 → Prop, (∀ (j3 : Int32), (wp_X11_isIn a3 (0 : Int32) (2 : Int32) (fun (r4 : Int32) => wp_X11_isThrown ν j3 r4 (fun (r6 : Int32) (μ5 : TMem) => isB r6 ∧ (Q r6 μ5)))) → J j3) → J 0 := fun z J hJ => hJ 0 (rr_in (fun _ => th_1 ⟨Or.inr rfl, h1 z⟩) (fun _ => th_1 ⟨Or.inr rfl, h1 z⟩))
  refine rr_one (fun m hm em J hJ => ⟨fun z => absurd z (by decide), fun _ => ?_⟩) (fun z J hJ => ⟨fun _ => bad (fun ⟨m, hm, e, _⟩ => z (e ▸ M1_nI hm)) J hJ, fun w => absurd rfl w⟩)
  have hR := h.1 m hm
  have v1 := (hv m hm).1
  have v7 := (hv m hm).2.1
  have hx : ∀ (P : Prop), (¬ STn a2 (S m).1 ∨ ¬ STn a4 (S m).1) → ¬ ARS S a1 a2 a4 := fun _ w ⟨m', hm', e', e2, e4⟩ => by
    rw [nI_inj4 hm hm' (em.symm.trans e')] at w
    exact w.elim (fun q => q e2) (fun q => q e4)
  subst em
  refine rr_st hm hR.1 v1 v7 (fun f hf ef => ⟨fun z => absurd z (by decide), fun _ => ?_⟩) (fun z => ⟨fun _ => bad (hx True (Or.inl z)) J hJ, fun w => absurd rfl w⟩)
  refine rr_st hm hR.1 v1 v7 (fun u hu eu => ⟨fun z => absurd z (by decide), fun _ => ?_⟩) (fun z => ⟨fun _ => bad (hx True (Or.inr z)) J hJ, fun w => absurd rfl w⟩)
  refine hJ 1 (rr_in (fun z => th_ok ⟨Or.inl rfl, ?_⟩) (fun z => th_2 ⟨Or.inr rfl, h2 ⟨m, hm, rfl, ef ▸ STn_nI hf (by omega), eu ▸ STn_nI hu (by omega)⟩ z⟩))
  obtain ⟨s, es, s1, s2⟩ := IN_ex z (by decide)
  have s2' : (s : Int) ≤ 2 := s2
  exact hok m f s u ⟨hm, rfl, ef, eu, es, hf, hu, by omega⟩
theorem HR.put {i : Nat} {x : Int32} (h : HR ν m A) (hi : i < 21) : HR (tms ν 4 (21 * m + i) x) m (aI A i x) := by
  obtain ⟨h1, h2, h3, h4⟩ := h
  refine ⟨by rw [tms_ne (by decide)]; exact h1, by rw [tms_ne (by decide)]; exact h2, by rw [tms_ne (by decide)]; exact h3, fun j hj => ?_⟩
  rw [tms_eq]
  show _ = if j = i then x else A.2.2.2 j
  by_cases e : j = i
  · rw [if_pos e, e, upd_at]
  · rw [if_neg e, upd_ne (by omega)]
    exact h4 j hj
theorem RF.put {i : Nat} {x : Int32} (hi : i < 21) : RF m ν (tms ν 4 (21 * m + i) x) := ⟨tms_ne (by decide), fun j _ => ⟨by rw [tms_ne (by decide)], by rw [tms_ne (by decide)], by rw [tms_ne (by decide)]⟩, fun p hp => by rw [tms_eq, upd_ne (by omega)]⟩
theorem rr_arrow (h : RSt ν S a r k t) (hv : AVs S) (hok : ∀ m f s u, ARG S a1 a2 a3 a4 m f s u → ∀ ν9, RSt ν9 (sUp S m (aI (S m) (3 * f + s) (wW ((S m).2.2.2 (3 * f + s)) u a5))) (a + 1) r k 0 → Q (if wW ((S m).2.2.2 (3 * f + s)) u a5 = (S m).2.2.2 (3 * f + s) then 0 else 1) ν9) (h1 : ¬ ARS S a1 a2 a4 → ∀ b ν9, RSt ν9 S a r k 1 → Q b ν9) (h2 : ARS S a1 a2 a4 → ¬ IN a3 0 2 → ∀ b ν9, RSt ν9 S a r k 2 → Q b ν9) : wp_X11_arrow ν a1 a2 a3 a4 a5 Q := by
  refine rr_noArrow h hv (fun m f s u hA => ⟨fun _ => ?_, fun q => absurd rfl q⟩) (fun z => ⟨fun q => absurd q (by decide), fun _ => h1 z _ _ (h.thr 1)⟩) (fun z w => ⟨fun q => absurd q (by decide), fun _ => h2 z w _ _ (h.thr 2)⟩)
  obtain ⟨hm, em, ef, eu, es, hf, hu, hs⟩ := hA
  have v7 := (hv m hm).2.1
  have h0 := h.thr 0
  have hR := h0.1 m hm
  have g := hok m f s u ⟨hm, em, ef, eu, es, hf, hu, hs⟩ _ (h0.act (m := m) (hR.put (i := 3 * f + s) (by omega)) (RF.put (by omega)))
  rw [em, ef, es, eu]
  refine rr_key ?_
  have ip : 21 * m + 3 * f + s = 21 * m + (3 * f + s) := by omega
  have hin : vp_in (nI (21 * m + 3 * f + s)) (ml 4) := s_in (show _ < 84 by omega) (by omega)
  have ic : (nI (21 * m + 3 * f + s)).toNatClampNeg = 21 * m + (3 * f + s) := by rw [nI_clamp (by omega), ip]
  have ec : (tms ν 0 7 0) 4 (21 * m + (3 * f + s)) = (S m).2.2.2 (3 * f + s) := hR.2.2.2 _ (by omega)
  refine ⟨hin, fun J hJ => ?_⟩
  have key : ∀ y, y = wW ((S m).2.2.2 (3 * f + s)) u a5 → J y := fun y ey => hJ y ⟨hin, hin, by
    rw [ic, ec, tms_eq, upd_at, ey]
    refine ⟨fun z => ?_, fun z => ?_⟩
    · rw [if_neg (fun q => z q.symm)] at g; exact g
    · rw [if_pos z.symm] at g; exact g⟩
  rw [ic, ec]
  exact ⟨fun z => key _ (by rw [wW, if_pos z]), fun z => key _ (by rw [wW, if_neg z])⟩
theorem rr_lead (h : RSt ν S a r k t) (hv : AVs S) (hok : ∀ m f s u, ARG S a1 a2 a3 a4 m f s u → ∀ ν9, RSt ν9 (sUp S m (aI (S m) (3 * f + s) ((1 : Int32) <<< (nI u &&& 31)))) (a + 1) r k 0 → Q (pop ((S m).2.2.2 (3 * f + s))) ν9) (h1 : ¬ ARS S a1 a2 a4 → ∀ b ν9, RSt ν9 S a r k 1 → Q b ν9) (h2 : ARS S a1 a2 a4 → ¬ IN a3 0 2 → ∀ b ν9, RSt ν9 S a r k 2 → Q b ν9) : wp_X11_lead ν a1 a2 a3 a4 Q := by
  refine rr_noArrow h hv (fun m f s u hA => ⟨fun _ => ?_, fun q => absurd rfl q⟩) (fun z => ⟨fun q => absurd q (by decide), fun _ => h1 z _ _ (h.thr 1)⟩) (fun z w => ⟨fun q => absurd q (by decide), fun _ => h2 z w _ _ (h.thr 2)⟩)
  obtain ⟨hm, em, ef, eu, es, hf, hu, hs⟩ := hA
  have v7 := (hv m hm).2.1
  have h0 := h.thr 0
  have hR := h0.1 m hm
  have g := hok m f s u ⟨hm, em, ef, eu, es, hf, hu, hs⟩ _ (h0.act (m := m) (hR.put (i := 3 * f + s) (by omega)) (RF.put (by omega)))
  rw [em, ef, es, eu]
  refine rr_key ?_
  have ip : 21 * m + 3 * f + s = 21 * m + (3 * f + s) := by omega
  have hin : vp_in (nI (21 * m + 3 * f + s)) (ml 4) := s_in (show _ < 84 by omega) (by omega)
  have ic : (nI (21 * m + 3 * f + s)).toNatClampNeg = 21 * m + (3 * f + s) := by rw [nI_clamp (by omega), ip]
  have ec : (tms ν 0 7 0) 4 (21 * m + (3 * f + s)) = (S m).2.2.2 (3 * f + s) := hR.2.2.2 _ (by omega)
  refine ⟨hin, hin, ?_⟩
  rw [ic, ec]
  exact pop_w g
theorem HR.set2 {x : Int32} (h : HR ν m A) : HR (tms ν 2 m x) m (A.1, x, A.2.2) ∧ RF m ν (tms ν 2 m x) := by
  obtain ⟨h1, h2, h3, h4⟩ := h
  exact ⟨⟨by rw [tms_ne (by decide)]; exact h1, by simp [tms_ix], by rw [tms_ne (by decide)]; exact h3, fun j hj => by rw [tms_ne (by decide)]; exact h4 j hj⟩, tms_ne (by decide), fun i hi => ⟨by rw [tms_ne (by decide)], by simp [tms_ix, hi], by rw [tms_ne (by decide)]⟩, fun p _ => by rw [tms_ne (by decide)]⟩
theorem HR.set3 {x : Int32} (h : HR ν m A) : HR (tms ν 3 m x) m (A.1, A.2.1, x, A.2.2.2) ∧ RF m ν (tms ν 3 m x) := by
  obtain ⟨h1, h2, h3, h4⟩ := h
  exact ⟨⟨by rw [tms_ne (by decide)]; exact h1, by rw [tms_ne (by decide)]; exact h2, by simp [tms_ix], fun j hj => by rw [tms_ne (by decide)]; exact h4 j hj⟩, tms_ne (by decide), fun i hi => ⟨by rw [tms_ne (by decide)], by rw [tms_ne (by decide)], by simp [tms_ix, hi]⟩, fun p _ => by rw [tms_ne (by decide)]⟩
theorem rr_mark (h : RSt ν S a r k t) (hv : AVs S) (hok : ∀ m u, m < 4 → a1 = nI m → a2 = nI u → u < (S m).1 → ∀ ν9, RSt ν9 (sUp S m (aK (S m) a3 (wW (aKv (S m) a3) u a4))) (a + 1) r k 0 → Q (if wW (aKv (S m) a3) u a4 = aKv (S m) a3 then 0 else 1) ν9) (h1 : ¬ (∃ m, m < 4 ∧ a1 = nI m ∧ STn a2 (S m).1) → ∀ b ν9, RSt ν9 S a r k 1 → Q b ν9) : wp_X11_mark ν a1 a2 a3 a4 Q := by
  refine rr_one (fun m hm em => ⟨fun z => absurd z (by decide), fun _ => ?_⟩) (fun z => ⟨fun _ => th_1 ⟨fun q => absurd q (by decide), fun _ => h1 (fun ⟨m, hm, e, _⟩ => z (e ▸ M1_nI hm)) _ _ (h.thr 1)⟩, fun w => absurd rfl w⟩)
  have v1 := (hv m hm).1
  have v7 := (hv m hm).2.1
  have hR0 := h.1 m hm
  have bad : ¬ STn a2 (S m).1 → ¬ (∃ m, m < 4 ∧ a1 = nI m ∧ STn a2 (S m).1) := fun z ⟨m', hm', e', e4⟩ => z (by rw [nI_inj4 hm hm' (em.symm.trans e')]; exact e4)
  have hok' := fun u => hok m u hm em
  subst em
  refine rr_st hm hR0.1 v1 v7 (fun u hu eu => ⟨fun z => absurd z (by decide), fun _ => th_ok ⟨fun _ => ?_, fun q => absurd rfl q⟩⟩) (fun z => ⟨fun _ => th_1 ⟨fun q => absurd q (by decide), fun _ => h1 (bad z) _ _ (h.thr 1)⟩, fun w => absurd rfl w⟩)
  have h0 := h.thr 0
  have hR := h0.1 m hm
  have i2 : vp_in (nI m) (ml 2) := s_in hm (by omega)
  have i3 : vp_in (nI m) (ml 3) := s_in hm (by omega)
  have im : (nI m).toNatClampNeg = m := nI_clamp (by omega)
  rw [im, eu]
  refine ⟨fun z => ⟨i2, ?_⟩, fun z => ⟨i3, ?_⟩⟩
  · have ev : aKv (S m) a3 = (S m).2.1 := by rw [aKv, if_pos z]
    have g := hok' u eu hu _ (h0.act (m := m) (A := aK (S m) a3 (wW (aKv (S m) a3) u a4)) (ν9 := tms (tms ν 0 7 0) 2 m (wW (S m).2.1 u a4)) (by rw [aK, if_pos z, ev]; exact hR.set2.1) hR.set2.2)
    rw [ev] at g
    rw [hR.2.1]
    refine ⟨fun w => ⟨i2, i2, ?_⟩, fun w => ⟨i2, i2, ?_⟩⟩
    · rw [wW, if_pos w] at g
      rw [tms_eq, upd_at]
      refine ⟨fun y => ?_, fun y => ?_⟩
      · rw [if_neg (fun q => y q.symm)] at g; exact g
      · rw [if_pos y.symm] at g; exact g
    · rw [wW, if_neg w] at g
      rw [tms_eq, upd_at]
      refine ⟨fun y => ?_, fun y => ?_⟩
      · rw [if_neg (fun q => y q.symm)] at g; exact g
      · rw [if_pos y.symm] at g; exact g
  · have ev : aKv (S m) a3 = (S m).2.2.1 := by rw [aKv, if_neg z]
    have g := hok' u eu hu _ (h0.act (m := m) (A := aK (S m) a3 (wW (aKv (S m) a3) u a4)) (ν9 := tms (tms ν 0 7 0) 3 m (wW (S m).2.2.1 u a4)) (by rw [aK, if_neg z, ev]; exact hR.set3.1) hR.set3.2)
    rw [ev] at g
    rw [hR.2.2.1]
    refine ⟨fun w => ⟨i3, i3, ?_⟩, fun w => ⟨i3, i3, ?_⟩⟩
    · rw [wW, if_pos w] at g
      rw [tms_eq, upd_at]
      refine ⟨fun y => ?_, fun y => ?_⟩
      · rw [if_neg (fun q => y q.symm)] at g; exact g
      · rw [if_pos y.symm] at g; exact g
    · rw [wW, if_neg w] at g
      rw [tms_eq, upd_at]
      refine ⟨fun y => ?_, fun y => ?_⟩
      · rw [if_neg (fun q => y q.symm)] at g; exact g
      · rw [if_pos y.symm] at g; exact g
end SRF
