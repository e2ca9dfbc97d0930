section SRM
variable {ν : TMem} {S : Nat → AM} {a r k t : Int32} {a1 a2 a3 a4 : Int32} {Q : Int32 → TMem → Prop} {Qi : Int32 → Prop} {Qo : Option AI → Prop} {m m' : Nat} {A B : AM} {D D1 D2 : DF} {na1 na2 : Nat} {fa1 fa2 : Nat → Int32} {n : Nat}
theorem EI.nd {lim : Nat} {f : Nat → Nat → Nat} {u : Nat → Bool} {R : Option (List Nat × List Nat)} : ∀ (z : Nat) {L T : List Nat}, 3 * lim + 1 - T.length = z → EI lim f u R L T → L.Nodup → ∀ L' T', R = some (L', T') → L'.Nodup := by
  intro z
  induction z with
  | zero =>
    intro L T hk h
    have := h.fuel
    omega
  | succ z ih =>
    intro L T hk h hn L' T' hR
    by_cases hd : 3 * L.length ≤ T.length ∨ u (L.getD (L.length - 1) 0) = true
    · have := h.done hd
      rw [hR] at this
      cases this
      exact hn
    · by_cases hm : nxt f L T ∈ L
      · exact ih (by rw [List.length_append]; simp; omega) (h.old hd hm) hn L' T' hR
      · by_cases hl : lim ≤ L.length
        · have := h.full hd hm hl
          rw [hR] at this
          cases this
        · exact ih (by rw [List.length_append]; simp; omega) (h.new hd hm hl) (nodup_app hn hm) L' T' hR
theorem nodup_idx {L : List Nat} (h : L.Nodup) {i : Nat} (hi : i < L.length) : L.idxOf (L.getD i 0) = i := by
  refine idx_of hi rfl (fun j hj => ?_)
  have hp := List.pairwise_iff_getElem.mp h j i (by omega) hi hj
  rw [List.getD_eq_getElem?_getD, List.getD_eq_getElem?_getD, List.getElem?_eq_getElem (by omega), List.getElem?_eq_getElem hi]
  exact hp
theorem EX_idx {lim x0 : Nat} {f : Nat → Nat → Nat} {u : Nat → Bool} {L T : List Nat} (hl : 1 ≤ lim) (h : EX lim f u x0 = some (L, T)) : ∀ p, p < T.length → T.getD p 0 = L.idxOf (f (L.getD (p / 3) 0) (p % 3)) := fun p hp => by
  have e := EX.inv hl h
  have nd := EI.nd _ rfl (EI.start x0 hl) (by simp) L T h
  obtain ⟨e1, e2⟩ := e.1.2.2 p hp
  rw [← e2, nodup_idx nd e1]
theorem first_ne {L : List Nat} {x j : Nat} (h : j < L.idxOf x) : L.getD j 0 ≠ x := by
  intro e
  by_cases hm : x ∈ L
  · have h2 := idx_lt hm
    -- the first place of x up to j
    have key : ∀ n, (∀ i, i < n → L.getD i 0 ≠ x) ∨ ∃ i, i < n ∧ L.getD i 0 = x ∧ ∀ i', i' < i → L.getD i' 0 ≠ x := by
      intro n
      induction n with
      | zero => exact Or.inl (fun i hi => absurd hi (Nat.not_lt_zero _))
      | succ n ih =>
        rcases ih with h3 | ⟨i, h3, h4, h5⟩
        · by_cases e2 : L.getD n 0 = x
          · exact Or.inr ⟨n, by omega, e2, h3⟩
          · refine Or.inl (fun i hi => ?_)
            by_cases e3 : i = n
            · rw [e3]; exact e2
            · exact h3 i (by omega)
        · exact Or.inr ⟨i, by omega, h4, h5⟩
    rcases key (j + 1) with h3 | ⟨i, h3, h4, h5⟩
    · exact h3 j (by omega) e
    · have := idx_of (L := L) (by omega) h4 h5
      omega
  · have h2 : L.idxOf x = L.length := List.idxOf_eq_length hm
    exact hm (e ▸ getD_mem (by omega))
theorem upd_self {f : Nat → Int32} {c : Nat} {x : Int32} (h : f c = x) : upd f c x = f := by
  funext j
  by_cases e : j = c
  · rw [e, upd_at, h]
  · rw [upd_ne e]
theorem upd_upd {f : Nat → Int32} {c : Nat} {x y : Int32} : upd (upd f c x) c y = upd f c y := by
  funext j
  by_cases e : j = c
  · rw [e, upd_at, upd_at]
  · rw [upd_ne e, upd_ne e, upd_ne e]
theorem opW_i {w : Nat} {x y : Bool} {J : Int32 → Prop} (hw : w ≤ 3) (h : J (bi (opW w x y))) : ((¬ nI w = (0 : Int32) → ((¬ nI w = (1 : Int32) → ((¬ nI w = (2 : Int32) → ((¬ bi x = bi y → (J (1 : Int32))) ∧ (bi x = bi y → (J (0 : Int32))))) ∧ (nI w = (2 : Int32) → (J (if (bi x - bi y) < (0 : Int32) then (0 : Int32) else (bi x - bi y)))))) ∧ (nI w = (1 : Int32) → (J (bi x * bi y))))) ∧ (nI w = (0 : Int32) → (J (if bi x < bi y then bi y else bi x)))) := by
  have w0 : nI w = (0 : Int32) ↔ w = 0 := by rw [← nI_0]; exact nI_eq (by omega) (by omega)
  have w1 : nI w = (1 : Int32) ↔ w = 1 := nI_eq (b := 1) (by omega) (by omega)
  have w2 : nI w = (2 : Int32) ↔ w = 2 := nI_eq (b := 2) (by omega) (by omega)
  rw [w0, w1, w2]
  refine ⟨fun q => ⟨fun q1 => ⟨fun q2 => ?_, fun q2 => ?_⟩, fun q1 => ?_⟩, fun q => ?_⟩
  · have e : opW w x y = (x != y) := by rw [opW, if_neg q, if_neg q1, if_neg q2]
    rw [e] at h
    cases x <;> cases y <;> exact ⟨fun z => by first | exact h | exact absurd rfl z, fun z => by first | exact h | exact absurd z (by decide)⟩
  · subst q2
    cases x <;> cases y <;> exact h
  · subst q1
    cases x <;> cases y <;> exact h
  · subst q
    cases x <;> cases y <;> exact h
/-- where the reference's putting together stands -/
def RB (D1 D2 : DF) (w : Nat) (L T : List Nat) (p a' : Nat) (fm : Nat → Int32) : Prop := (∀ j, j < 3 * L.length → fm (4 * (j / 3) + j % 3) = if j < p then nI (T.getD j 0) else 0) ∧ ∀ i, i < a' → fm (4 * i + 3) = bi (opW w (D1.2.2 (L.getD i 0 / 32)) (D2.2.2 (L.getD i 0 % 32)))
theorem rr_bt221 {L : List Nat} {f19 fm : Nat → Int32} {x b n18 n15 n4 : Nat} {f16 f5 : Nat → Int32} {v52 v53 v55 : Int32} {K : (Nat → Int32) → Prop} (hL : L.length ≤ 32) (hx : x < L.length) (hb : b < 3) (hf : ∀ i, i < L.length → f19 (3 * i + 1) = nI (L.getD i 0)) (hbd : ∀ y ∈ L, y < 1024) (hn : 3 * L.length ≤ n18) {i9 : Nat} (hi9 : i9 < L.length) (hid : L.idxOf (L.getD i9 0) = i9) (h0 : fm (4 * x + b) = 0) (h : K (upd fm (4 * x + b) (nI i9))) : ∃ z, wpl_X11_both_221 ν f16 n15 f19 n18 (4 * L.length) f5 n4 (nI (L.getD i9 0)) (nI b) v52 v53 (nI x) v55 K z fm := by
  have p4 : (4 : Int32) * nI x + nI b = nI (4 * x + b) := by rw [show (4 : Int32) = nI 4 from rfl, s_mul, nI_add]
  have pin : vp_in (nI (4 * x + b)) (4 * L.length) := s_in (by omega) (by omega)
  have go : ∀ (z i : Nat), i9 - i < z → i ≤ i9 → wpl_X11_both_221 ν f16 n15 f19 n18 (4 * L.length) f5 n4 (nI (L.getD i9 0)) (nI b) v52 v53 (nI x) v55 K z (upd fm (4 * x + b) (nI i)) := by
    intro z
    induction z with
    | zero => intro i hk; exact absurd hk (Nat.not_lt_zero _)
    | succ z ih =>
      intro i hk hi
      show vp_in _ _ ∧ _
      rw [p4]
      refine ⟨pin, ?_⟩
      have b1 := hbd _ (getD_mem (L := L) (i := i) (by omega))
      have b2 := hbd _ (getD_mem (L := L) (i := i9) hi9)
      rw [nI_clamp (by omega), upd_at, s_t1, nI_clamp (by omega), hf i (by omega), nI_eq (by omega) (by omega)]
      refine ⟨s_in (by omega) (by omega), fun e => ?_, fun e => ⟨pin, pin, ?_⟩⟩
      · by_cases q : i = i9
        · rw [q]; exact h
        · exact absurd e (first_ne (by rw [hid]; omega))
      · rw [upd_upd, nI_1]
        have q : i ≠ i9 := fun q => e (by rw [q])
        exact ih (i + 1) (by omega) (by omega)
  have g := go (i9 + 1) 0 (by omega) (by omega)
  rw [nI_0, upd_self h0] at g
  exact ⟨_, g⟩
end SRM
