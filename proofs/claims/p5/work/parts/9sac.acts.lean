section SAC
variable {μ μ9 : TMem} {S : Nat → AM} {a r k : Int32} {a1 a2 a3 a4 a5 : Int32} {Q : Int32 → TMem → Prop} {X : String → TMem → Prop}
/-- what holds of each machine -/
def AV (A : AM) : Prop := 1 ≤ A.1 ∧ A.1 ≤ 7 ∧ nn A.2.1 < 2 ^ A.1 ∧ nn A.2.2.1 < 2 ^ A.1 ∧ (∀ j, j < 3 * A.1 → nn (A.2.2.2 j) < 2 ^ A.1) ∧ ∀ j, 3 * A.1 ≤ j → A.2.2.2 j = 0
def AVs (S : Nat → AM) : Prop := ∀ m, m < 4 → AV (S m)
/-- the class's state: four machines, how many acts, refusals, knocks -/
def CSt (μ : TMem) (S : Nat → AM) (a r k : Int32) : Prop := (∀ m, m < 4 → HM μ (2 + 2 * m) (S m)) ∧ μ 0 11 = a ∧ μ 0 12 = r ∧ μ 0 13 = k ∧ GB μ
def sUp (S : Nat → AM) (m : Nat) (A : AM) : Nat → AM := fun i => if i = m then A else S i
theorem sUp_at {m : Nat} {A : AM} : sUp S m A m = A := if_pos rfl
theorem sUp_ne {m i : Nat} {A : AM} (h : i ≠ m) : sUp S m A i = S i := if_neg h
theorem AVs.up {m : Nat} {A : AM} (h : AVs S) (hA : AV A) : AVs (sUp S m A) := fun i hi => by
  by_cases e : i = m
  · rw [e, sUp_at]; exact hA
  · rw [sUp_ne e]; exact h i hi
theorem CSt.act {m : Nat} {A : AM} (h : CSt μ S a r k) (hM : HM μ9 (2 + 2 * m) A) (h0 : μ9 0 = μ 0) (hf : ∀ j, 2 ≤ j → j ≤ 9 → j ≠ 2 + 2 * m → j ≠ 2 + 2 * m + 1 → μ9 j = μ j) (hG : GB μ → GB μ9) : CSt (tms μ9 0 11 ((μ9 0 11) + (1 : Int32))) (sUp S m A) (a + 1) r k := by
  obtain ⟨h1, h2, h3, h4, h5⟩ := h
  refine ⟨fun i hi => ?_, by simp [tms_ix, h0, h2], by simp [tms_ix, h0, h3], by simp [tms_ix, h0, h4], fun i => by rw [tms_ne (by decide)]; exact hG h5 i⟩
  by_cases e : i = m
  · subst e
    rw [sUp_at]
    exact hM.same (tms_ne (by omega)) (tms_ne (by omega))
  · rw [sUp_ne e]
    exact (h1 i hi).same (by rw [tms_ne (by omega)]; exact hf _ (by omega) (by omega) (by omega) (by omega)) (by rw [tms_ne (by omega)]; exact hf _ (by omega) (by omega) (by omega) (by omega))
theorem CSt.ref (h : CSt μ S a r k) (hz : ZF μ μ9) : CSt (tms μ9 0 12 ((μ9 0 12) + (1 : Int32))) S a (r + 1) k := by
  obtain ⟨h1, h2, h3, h4, h5⟩ := h
  have h0 := hz.1 0 (by omega)
  exact ⟨fun i hi => (h1 i hi).same (by rw [tms_ne (by omega)]; exact hz.1 _ (by omega)) (by rw [tms_ne (by omega)]; exact hz.1 _ (by omega)), by simp [tms_ix, h0, h2], by simp [tms_ix, h0, h3], by simp [tms_ix, h0, h4], fun i => by rw [tms_ne (by decide)]; exact hz.2 h5 i⟩
theorem CSt.keep (h : CSt μ S a r k) (hz : ZF μ μ9) : CSt μ9 S a r k := by
  obtain ⟨h1, h2, h3, h4, h5⟩ := h
  have h0 := hz.1 0 (by omega)
  exact ⟨fun i hi => (h1 i hi).same (hz.1 _ (by omega)) (hz.1 _ (by omega)), by rw [h0]; exact h2, by rw [h0]; exact h3, by rw [h0]; exact h4, hz.2 h5⟩
theorem kdm {m : Nat} (h : m < 4) : kd (2 + 2 * m) = 2 := kd_ma m h
theorem tlm {m : Nat} (h : m < 4) : tl (2 + 2 * m + 1) = 21 := by
  rcases (show m = 0 ∨ m = 1 ∨ m = 2 ∨ m = 3 by omega) with rfl | rfl | rfl | rfl <;> rfl
theorem e_mach {Qo : Nat → TMem → Prop} (h : ∀ m, m < 4 → a1 = nI m → Qo (2 + 2 * m) μ) (hX : ¬ M1 a1 → X "java/lang/IndexOutOfBoundsException" μ) : wp_X9_machineAt μ a1 Qo X := by
  refine ⟨fun c => hX (fun m => ?_), fun c1 => ⟨fun c2 => ?_, fun c => hX (fun m => ?_)⟩⟩
  · rw [l_lt, ii_0] at c
    have := m.1
    omega
  · rw [l_lt, ii_0] at c1
    rw [l_lt, show (4 : Int32).toInt = 4 from rfl] at c2
    obtain ⟨m, hm, rfl⟩ := s_ex (x := a1) (by omega)
    rw [nI_toInt hm] at c2
    refine ⟨s_in (by omega) hm, ?_⟩
    rw [nI_clamp hm]
    exact h m (by omega) rfl
  · have := m.2
    exact c (by rw [l_lt, show (4 : Int32).toInt = 4 from rfl]; omega)
theorem M1_nI {m : Nat} (h : m < 4) : M1 (nI m) := by
  have e := nI_toInt (n := m) (by omega)
  exact ⟨by rw [e]; omega, by rw [e]; omega⟩
/-- a number of a state -/
def STn (s : Int32) (n : Nat) : Prop := 0 ≤ s.toInt ∧ s.toInt < n
def IN (s : Int32) (lo hi : Int) : Prop := lo ≤ s.toInt ∧ s.toInt ≤ hi
theorem e_stat {k0 n : Nat} {s : Int32} {Qv : TMem → Prop} (hn : μ k0 1 = nI n) (hn2 : n < 2 ^ 31) (h : ∀ t, t < n → s = nI t → Qv μ) (hX : ¬ STn s n → X "java/lang/IndexOutOfBoundsException" μ) : wp_X9_checkState k0 μ s Qv X := by
  refine ⟨fun c => hX (fun m => ?_), fun c1 => ⟨fun c2 => ?_, fun c => hX (fun m => ?_)⟩⟩
  · rw [l_lt, ii_0] at c
    have := m.1
    omega
  · rw [l_lt, ii_0] at c1
    rw [hn, l_lt, nI_toInt hn2] at c2
    obtain ⟨t, ht, rfl⟩ := s_ex (x := s) (by omega)
    rw [nI_toInt ht] at c2
    exact h t (by omega) rfl
  · have := m.2
    exact c (by rw [hn, l_lt, nI_toInt hn2]; omega)
theorem STn_nI {t n : Nat} (h : t < n) (hn : n < 2 ^ 31) : STn (nI t) n := by
  have e := nI_toInt (n := t) (by omega)
  exact ⟨by rw [e]; omega, by rw [e]; omega⟩
theorem e_rng {lo hi : Int32} {s : Int32} {Qv : TMem → Prop} (h : IN s lo.toInt hi.toInt → Qv μ) (hX : ¬ IN s lo.toInt hi.toInt → X "java/lang/IllegalArgumentException" μ) : wp_X9_checkRange μ s lo hi Qv X := e_range h hX
theorem IN_ex {s : Int32} {lo hi : Int} (h : IN s lo hi) (h0 : 0 ≤ lo) : ∃ t : Nat, s = nI t ∧ lo ≤ t ∧ (t : Int) ≤ hi := by
  obtain ⟨t, ht, rfl⟩ := s_ex (x := s) (by have := h.1; omega)
  have := h.1
  have := h.2
  rw [nI_toInt ht] at *
  exact ⟨t, rfl, by omega, by omega⟩
theorem e_sign {s : Int32} {Qv : TMem → Prop} (h : ∀ t, t < 3 → s = nI t → Qv μ) (hX : ¬ IN s 0 2 → X "java/lang/IllegalArgumentException" μ) : wp_X9_checkSign μ s Qv X := by
  refine e_rng (fun z => ?_) (fun z => hX z)
  obtain ⟨t, e, h1, h2⟩ := IN_ex z (by decide)
  have h2' : (t : Int) ≤ 2 := h2
  exact h t (by omega) e
theorem FK.zone {m : Nat} (hm : m < 4) (h : FK (2 + 2 * m) μ μ9) : μ9 0 = μ 0 ∧ (∀ j, 2 ≤ j → j ≤ 9 → j ≠ 2 + 2 * m → j ≠ 2 + 2 * m + 1 → μ9 j = μ j) ∧ (GB μ → GB μ9) := ⟨h 0 (by omega) (by omega), fun j _ _ x y => h j x y, fun g i => by rw [h 43 (by omega) (by omega)]; exact g i⟩
theorem ee_begin (h : CSt μ S a r k) (hv : AVs S) (hok : ∀ m n, m < 4 → a1 = nI m → a2 = nI n → 1 ≤ n → n ≤ 7 → ∀ μ9, CSt μ9 (sUp S m (aC n)) (a + 1) r k → Q (AC (S m)) μ9) (h1 : ¬ M1 a1 → X "java/lang/IndexOutOfBoundsException" μ) (h2 : M1 a1 → ¬ IN a2 1 7 → X "java/lang/IllegalArgumentException" μ) : wp_X9_begin μ a1 a2 Q X := by
  refine e_mach (fun m hm em => e_rng (fun z => ?_) (fun z => h2 (em ▸ M1_nI hm) z)) h1
  obtain ⟨n, en, n1, n7⟩ := IN_ex z (by decide)
  have n1' : (1 : Int) ≤ n := n1
  have n7' : (n : Int) ≤ 7 := n7
  have hM := h.1 m hm
  have hA := hv m hm
  have t21 := tlm hm
  refine e_countA hM.1 (by have := hA.2.1; omega) (by have := hA.2.1; omega) hM.2.2.2 ?_
  rw [en]
  refine e_clearA (kdm hm) (by omega) (by omega) (fun μ7 h7 f7 => ?_)
  have z7 := FK.zone hm f7
  exact hok m n hm em en (by omega) (by omega) _ (h.act h7 z7.1 z7.2.1 z7.2.2)
/-- an arrow more or less -/
def wW (x : Int32) (t : Nat) (b : Int32) : Int32 := if b = 0 then x &&& (((1 : Int32) <<< (nI t &&& 31)) ^^^ (-1 : Int32)) else x ||| ((1 : Int32) <<< (nI t &&& 31))
theorem e_W {x b : Int32} {t : Nat} {Qi : Int32 → Prop} (h : Qi (wW x t b)) : wp_X9_withOrWithout x (nI t) b Qi := by
  refine ⟨fun c => ?_, fun c => ?_⟩
  · rw [wW, if_pos c] at h; exact h
  · rw [wW, if_neg c] at h; exact h
/-- one cell changed -/
def aI (A : AM) (i : Nat) (v : Int32) : AM := (A.1, A.2.1, A.2.2.1, fun j => if j = i then v else A.2.2.2 j)
theorem HM.put {k0 i : Nat} {v : Int32} {A : AM} (h : HM μ k0 A) : HM (tms μ (k0 + 1) i v) k0 (aI A i v) := by
  obtain ⟨h1, h2, h3, h4⟩ := h
  refine ⟨by rw [tms_ne (by omega)]; exact h1, by rw [tms_ne (by omega)]; exact h2, by rw [tms_ne (by omega)]; exact h3, fun j hj => ?_⟩
  rw [tms_eq]
  show _ = if j = i then v else A.2.2.2 j
  by_cases e : j = i
  · rw [if_pos e, e, upd_at]
  · rw [if_neg e, upd_ne e]
    exact h4 j hj
theorem FK.put {k0 i : Nat} {v : Int32} : FK k0 μ (tms μ (k0 + 1) i v) := fun j _ y => tms_ne y
/-- the arguments of arrow and lead -/
def ARG (S : Nat → AM) (a1 a2 a3 a4 : Int32) (m f s t : Nat) : Prop := m < 4 ∧ a1 = nI m ∧ a2 = nI f ∧ a4 = nI t ∧ a3 = nI s ∧ f < (S m).1 ∧ t < (S m).1 ∧ s < 3
/-- an arrow's states are there -/
def ARS (S : Nat → AM) (a1 a2 a4 : Int32) : Prop := ∃ m, m < 4 ∧ a1 = nI m ∧ STn a2 (S m).1 ∧ STn a4 (S m).1
theorem nI_inj4 {m m' : Nat} (h : m < 4) (h' : m' < 4) (e : nI m = nI m') : m = m' := (nI_eq (by omega) (by omega)).mp e
theorem ee_arrow (h : CSt μ S a r k) (hv : AVs S) (hok : ∀ m f s t, ARG S a1 a2 a3 a4 m f s t → ∀ μ9, CSt μ9 (sUp S m (aI (S m) (3 * f + s) (wW ((S m).2.2.2 (3 * f + s)) t a5))) (a + 1) r k → Q (if wW ((S m).2.2.2 (3 * f + s)) t a5 = (S m).2.2.2 (3 * f + s) then 0 else 1) μ9) (h1 : ¬ ARS S a1 a2 a4 → X "java/lang/IndexOutOfBoundsException" μ) (h2 : ARS S a1 a2 a4 → ¬ IN a3 0 2 → X "java/lang/IllegalArgumentException" μ) : wp_X9_arrow μ a1 a2 a3 a4 a5 Q X := by
  refine e_mach (fun m hm em => ?_) (fun z => h1 (fun ⟨m, hm, e, _⟩ => z (e ▸ M1_nI hm)))
  have hM := h.1 m hm
  have hA := hv m hm
  have t21 := tlm hm
  have a7 := hA.2.1
  refine e_stat hM.1 (by omega) (fun f hf ef => e_stat hM.1 (by omega) (fun t ht et => e_sign (fun s hs es => ?_) (fun z => h2 ⟨m, hm, em, ef ▸ STn_nI hf (by omega), et ▸ STn_nI ht (by omega)⟩ z)) (fun z => h1 (fun ⟨m', hm', e', _, e4⟩ => z (by rw [nI_inj4 hm hm' (em.symm.trans e')]; exact e4)))) (fun z => h1 (fun ⟨m', hm', e', e4, _⟩ => z (by rw [nI_inj4 hm hm' (em.symm.trans e')]; exact e4)))
  rw [ef, es]
  refine e_atN (by omega) ?_
  rw [hM.2.2.2 _ (by omega), et]
  refine e_W (e_putN (by omega) ?_)
  have z7 := FK.zone (μ := μ) hm (FK.put (i := 3 * f + s) (v := wW ((S m).2.2.2 (3 * f + s)) t a5))
  have hc := h.act (m := m) hM.put z7.1 z7.2.1 z7.2.2
  have g := hok m f s t ⟨hm, em, ef, et, es, hf, ht, hs⟩ _ hc
  refine ⟨fun w => ?_, fun w => ?_⟩
  · rw [if_pos w] at g; exact g
  · rw [if_neg w] at g; exact g
theorem ee_lead (h : CSt μ S a r k) (hv : AVs S) (hok : ∀ m f s t, ARG S a1 a2 a3 a4 m f s t → ∀ μ9, CSt μ9 (sUp S m (aI (S m) (3 * f + s) ((1 : Int32) <<< (nI t &&& 31)))) (a + 1) r k → Q (pop ((S m).2.2.2 (3 * f + s))) μ9) (h1 : ¬ ARS S a1 a2 a4 → X "java/lang/IndexOutOfBoundsException" μ) (h2 : ARS S a1 a2 a4 → ¬ IN a3 0 2 → X "java/lang/IllegalArgumentException" μ) : wp_X9_lead μ a1 a2 a3 a4 Q X := by
  refine e_mach (fun m hm em => ?_) (fun z => h1 (fun ⟨m, hm, e, _⟩ => z (e ▸ M1_nI hm)))
  have hM := h.1 m hm
  have hA := hv m hm
  have t21 := tlm hm
  have a7 := hA.2.1
  refine e_stat hM.1 (by omega) (fun f hf ef => e_stat hM.1 (by omega) (fun t ht et => e_sign (fun s hs es => ?_) (fun z => h2 ⟨m, hm, em, ef ▸ STn_nI hf (by omega), et ▸ STn_nI ht (by omega)⟩ z)) (fun z => h1 (fun ⟨m', hm', e', _, e4⟩ => z (by rw [nI_inj4 hm hm' (em.symm.trans e')]; exact e4)))) (fun z => h1 (fun ⟨m', hm', e', e4, _⟩ => z (by rw [nI_inj4 hm hm' (em.symm.trans e')]; exact e4)))
  rw [ef, es]
  refine e_atN (by omega) ?_
  rw [hM.2.2.2 _ (by omega), et]
  refine e_putN (by omega) (pop_w ?_)
  have z7 := FK.zone (μ := μ) hm (FK.put (i := 3 * f + s) (v := (1 : Int32) <<< (nI t &&& 31)))
  exact hok m f s t ⟨hm, em, ef, et, es, hf, ht, hs⟩ _ (h.act (m := m) hM.put z7.1 z7.2.1 z7.2.2)
/-- starts or goals marked -/
def aK (A : AM) (g : Int32) (x : Int32) : AM := if g = 0 then (A.1, x, A.2.2) else (A.1, A.2.1, x, A.2.2.2)
def aKv (A : AM) (g : Int32) : Int32 := if g = 0 then A.2.1 else A.2.2.1
theorem ee_mark (h : CSt μ S a r k) (hv : AVs S) (hok : ∀ m t, m < 4 → a1 = nI m → a2 = nI t → t < (S m).1 → ∀ μ9, CSt μ9 (sUp S m (aK (S m) a3 (wW (aKv (S m) a3) t a4))) (a + 1) r k → Q (if wW (aKv (S m) a3) t a4 = aKv (S m) a3 then 0 else 1) μ9) (h1 : ¬ (∃ m, m < 4 ∧ a1 = nI m ∧ STn a2 (S m).1) → X "java/lang/IndexOutOfBoundsException" μ) : wp_X9_mark μ a1 a2 a3 a4 Q X := by
  refine e_mach (fun m hm em => ?_) (fun z => h1 (fun ⟨m, hm, e, _⟩ => z (e ▸ M1_nI hm)))
  have hM := h.1 m hm
  have hA := hv m hm
  have a7 := hA.2.1
  refine e_stat hM.1 (by omega) (fun t ht et => ?_) (fun z => h1 (fun ⟨m', hm', e', e4⟩ => z (by rw [nI_inj4 hm hm' (em.symm.trans e')]; exact e4)))
  obtain ⟨m1, m2, m3, m4⟩ := hM
  rw [et]
  have fr : ∀ i v, FK (2 + 2 * m) μ (tms μ (2 + 2 * m) i v) := fun i v j x _ => tms_ne x
  refine ⟨fun z => ?_, fun z => ?_⟩
  · rw [m2]
    have z7 := FK.zone hm (fr 3 (wW (S m).2.1 t a4))
    have hc := h.act (m := m) (A := aK (S m) a3 (wW (aKv (S m) a3) t a4)) (μ9 := tms μ (2 + 2 * m) 3 (wW (S m).2.1 t a4)) (by
      rw [aK, aKv, if_pos z, if_pos z]
      exact ⟨by simp [tms_ix, m1], by simp [tms_ix], by simp [tms_ix, m3], fun j hj => by rw [tms_ne (by omega)]; exact m4 j hj⟩) z7.1 z7.2.1 z7.2.2
    have g := hok m t hm em et ht _ hc
    have ev : aKv (S m) a3 = (S m).2.1 := by rw [aKv, if_pos z]
    rw [ev] at g
    refine e_W ⟨fun _ => ⟨fun w => ?_, fun w => ?_⟩, fun w => absurd z w⟩
    · rw [if_pos w] at g; exact g
    · rw [if_neg w] at g; exact g
  · rw [m3]
    have z7 := FK.zone hm (fr 2 (wW (S m).2.2.1 t a4))
    have hc := h.act (m := m) (A := aK (S m) a3 (wW (aKv (S m) a3) t a4)) (μ9 := tms μ (2 + 2 * m) 2 (wW (S m).2.2.1 t a4)) (by
      rw [aK, aKv, if_neg z, if_neg z]
      exact ⟨by simp [tms_ix, m1], by simp [tms_ix, m2], by simp [tms_ix], fun j hj => by rw [tms_ne (by omega)]; exact m4 j hj⟩) z7.1 z7.2.1 z7.2.2
    have g := hok m t hm em et ht _ hc
    have ev : aKv (S m) a3 = (S m).2.2.1 := by rw [aKv, if_neg z]
    rw [ev] at g
    refine e_W ⟨fun w => absurd w z, fun _ => ⟨fun w => ?_, fun w => ?_⟩⟩
    · rw [if_pos w] at g; exact g
    · rw [if_neg w] at g; exact g
end SAC
