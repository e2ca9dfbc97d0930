/-! part 9sam.ref8 -/
section
section SRM
variable {ν : TMem} {S : Nat → AM} {a r k t : Int32} {a1 a2 a3 a4 : Int32} {Q : Int32 → TMem → Prop} {Qi : Int32 → Prop} {Qo : Option AI → Prop} {m m' : Nat} {A B : AM} {D D1 D2 : DF} {na1 na2 : Nat} {fa1 fa2 : Nat → Int32} {n : Nat}
theorem EI.nd {lim : Nat} {f : Nat → Nat → Nat} {u : Nat → Bool} {R : Option (List Nat × List Nat)} : ∀ (z : Nat) {L T : List Nat}, 3 * lim + 1 - T.length = z → EI lim f u R L T → L.Nodup → ∀ L' T', R = some (L', T') → L'.Nodup := by
  intro z
  induction z with
  | zero =>
    intro L T hk h
    have := h.fuel
    omega
  | succ z ih =>
    intro L T hk h hn L' T' hR
    by_cases hd : 3 * L.length ≤ T.length ∨ u (L.getD (L.length - 1) 0) = true
    · have := h.done hd
      rw [hR] at this
      cases this
      exact hn
    · by_cases hm : nxt f L T ∈ L
      · exact ih (by rw [List.length_append]; simp; omega) (h.old hd hm) hn L' T' hR
      · by_cases hl : lim ≤ L.length
        · have := h.full hd hm hl
          rw [hR] at this
          cases this
        · exact ih (by rw [List.length_append]; simp; omega) (h.new hd hm hl) (nodup_app hn hm) L' T' hR
theorem nodup_idx {L : List Nat} (h : L.Nodup) {i : Nat} (hi : i < L.length) : L.idxOf (L.getD i 0) = i := by
  refine idx_of hi rfl (fun j hj => ?_)
  have hp := List.pairwise_iff_getElem.mp h j i (by omega) hi hj
  rw [List.getD_eq_getElem?_getD, List.getD_eq_getElem?_getD, List.getElem?_eq_getElem (by omega), List.getElem?_eq_getElem hi]
  exact hp
theorem EX_idx {lim x0 : Nat} {f : Nat → Nat → Nat} {u : Nat → Bool} {L T : List Nat} (hl : 1 ≤ lim) (h : EX lim f u x0 = some (L, T)) : ∀ p, p < T.length → T.getD p 0 = L.idxOf (f (L.getD (p / 3) 0) (p % 3)) := fun p hp => by
  have e := EX.inv hl h
  have nd := EI.nd _ rfl (EI.start x0 hl) (by simp) L T h
  obtain ⟨e1, e2⟩ := e.1.2.2 p hp
  rw [← e2, nodup_idx nd e1]
theorem first_ne {L : List Nat} {x j : Nat} (h : j < L.idxOf x) : L.getD j 0 ≠ x := by
  intro e
  by_cases hm : x ∈ L
  · have h2 := idx_lt hm
    -- the first place of x up to j
    have key : ∀ n, (∀ i, i < n → L.getD i 0 ≠ x) ∨ ∃ i, i < n ∧ L.getD i 0 = x ∧ ∀ i', i' < i → L.getD i' 0 ≠ x := by
      intro n
      induction n with
      | zero => exact Or.inl (fun i hi => absurd hi (Nat.not_lt_zero _))
      | succ n ih =>
        rcases ih with h3 | ⟨i, h3, h4, h5⟩
        · by_cases e2 : L.getD n 0 = x
          · exact Or.inr ⟨n, by omega, e2, h3⟩
          · refine Or.inl (fun i hi => ?_)
            by_cases e3 : i = n
            · rw [e3]; exact e2
            · exact h3 i (by omega)
        · exact Or.inr ⟨i, by omega, h4, h5⟩
    rcases key (j + 1) with h3 | ⟨i, h3, h4, h5⟩
    · exact h3 j (by omega) e
    · have := idx_of (L := L) (by omega) h4 h5
      omega
  · have h2 : L.idxOf x = L.length := List.idxOf_eq_length hm
    exact hm (e ▸ getD_mem (by omega))
theorem upd_self {f : Nat → Int32} {c : Nat} {x : Int32} (h : f c = x) : upd f c x = f := by
  funext j
  by_cases e : j = c
  · rw [e, upd_at, h]
  · rw [upd_ne e]
theorem upd_upd {f : Nat → Int32} {c : Nat} {x y : Int32} : upd (upd f c x) c y = upd f c y := by
  funext j
  by_cases e : j = c
  · rw [e, upd_at, upd_at]
  · rw [upd_ne e, upd_ne e, upd_ne e]
theorem opW_i {w : Nat} {x y : Bool} {J : Int32 → Prop} (hw : w ≤ 3) (h : J (bi (opW w x y))) : ((¬ nI w = (0 : Int32) → ((¬ nI w = (1 : Int32) → ((¬ nI w = (2 : Int32) → ((¬ bi x = bi y → (J (1 : Int32))) ∧ (bi x = bi y → (J (0 : Int32))))) ∧ (nI w = (2 : Int32) → (J (if (bi x - bi y) < (0 : Int32) then (0 : Int32) else (bi x - bi y)))))) ∧ (nI w = (1 : Int32) → (J (bi x * bi y))))) ∧ (nI w = (0 : Int32) → (J (if bi x < bi y then bi y else bi x)))) := by
  have w0 : nI w = (0 : Int32) ↔ w = 0 := by rw [← nI_0]; exact nI_eq (by omega) (by omega)
  have w1 : nI w = (1 : Int32) ↔ w = 1 := nI_eq (b := 1) (by omega) (by omega)
  have w2 : nI w = (2 : Int32) ↔ w = 2 := nI_eq (b := 2) (by omega) (by omega)
  rw [w0, w1, w2]
  refine ⟨fun q => ⟨fun q1 => ⟨fun q2 => ?_, fun q2 => ?_⟩, fun q1 => ?_⟩, fun q => ?_⟩
  · have e : opW w x y = (x != y) := by rw [opW, if_neg q, if_neg q1, if_neg q2]
    rw [e] at h
    cases x <;> cases y <;> exact ⟨fun z => by first | exact h | exact absurd rfl z, fun z => by first | exact h | exact absurd z (by decide)⟩
  · subst q2
    cases x <;> cases y <;> exact h
  · subst q1
    cases x <;> cases y <;> exact h
  · subst q
    cases x <;> cases y <;> exact h
/-- where the reference's putting together stands -/
def RB (D1 D2 : DF) (w : Nat) (L T : List Nat) (p a' : Nat) (fm : Nat → Int32) : Prop := (∀ j, j < 3 * L.length → fm (4 * (j / 3) + j % 3) = if j < p then nI (T.getD j 0) else 0) ∧ ∀ i, i < a' → fm (4 * i + 3) = bi (opW w (D1.2.2 (L.getD i 0 / 32)) (D2.2.2 (L.getD i 0 % 32)))
theorem rr_bt221 {L : List Nat} {f19 fm : Nat → Int32} {x b n18 n15 n4 : Nat} {f16 f5 : Nat → Int32} {v52 v53 v55 : Int32} {K : (Nat → Int32) → Prop} (hL : L.length ≤ 32) (hx : x < L.length) (hb : b < 3) (hf : ∀ i, i < L.length → f19 (3 * i + 1) = nI (L.getD i 0)) (hbd : ∀ y ∈ L, y < 1024) (hn : 3 * L.length ≤ n18) {i9 : Nat} (hi9 : i9 < L.length) (hid : L.idxOf (L.getD i9 0) = i9) (h0 : fm (4 * x + b) = 0) (h : K (upd fm (4 * x + b) (nI i9))) : ∃ z, wpl_X11_both_221 ν f16 n15 f19 n18 (4 * L.length) f5 n4 (nI (L.getD i9 0)) (nI b) v52 v53 (nI x) v55 K z fm := by
  have p4 : (4 : Int32) * nI x + nI b = nI (4 * x + b) := by rw [show (4 : Int32) = nI 4 from rfl, s_mul, nI_add]
  have pin : vp_in (nI (4 * x + b)) (4 * L.length) := s_in (by omega) (by omega)
  have go : ∀ (z i : Nat), i9 - i < z → i ≤ i9 → wpl_X11_both_221 ν f16 n15 f19 n18 (4 * L.length) f5 n4 (nI (L.getD i9 0)) (nI b) v52 v53 (nI x) v55 K z (upd fm (4 * x + b) (nI i)) := by
    intro z
    induction z with
    | zero => intro i hk; exact absurd hk (Nat.not_lt_zero _)
    | succ z ih =>
      intro i hk hi
      show vp_in _ _ ∧ _
      rw [p4]
      refine ⟨pin, ?_⟩
      have b1 := hbd _ (getD_mem (L := L) (i := i) (by omega))
      have b2 := hbd _ (getD_mem (L := L) (i := i9) hi9)
      rw [nI_clamp (by omega), upd_at, s_t1, nI_clamp (by omega), hf i (by omega), nI_eq (by omega) (by omega)]
      refine ⟨s_in (by omega) (by omega), fun e => ?_, fun e => ⟨pin, pin, ?_⟩⟩
      · by_cases q : i = i9
        · rw [q]; exact h
        · exact absurd e (first_ne (by rw [hid]; omega))
      · rw [upd_upd, nI_1]
        have q : i ≠ i9 := fun q => e (by rw [q])
        exact ih (i + 1) (by omega) (by omega)
  have g := go (i9 + 1) 0 (by omega) (by omega)
  rw [nI_0, upd_self h0] at g
  exact ⟨_, g⟩
end SRM
end
/-! part 9san.ref9 -/
section
section SRN
variable {ν : TMem} {S : Nat → AM} {a r k t : Int32} {a1 a2 a3 a4 : Int32} {Q : Int32 → TMem → Prop} {Qi : Int32 → Prop} {Qo : Option AI → Prop} {m m' : Nat} {A B : AM} {D D1 D2 : DF} {n4 n15 : Nat} {f5 f16 : Nat → Int32}
theorem rr_both62 {w : Nat} {L T : List Nat} {f19 : Nat → Int32} (hw : w ≤ 3) (h1 : HF n4 f5 D1) (h2 : HF n15 f16 D2) (hR : MR9 D1 D2 32 1 = some (L, T)) (hM : MF9 D1 D2 32 L f19) (h : ∀ g : Nat → Int32, HF (4 * L.length) g (DJ D1 D2 w L T) → Qo (some (4 * L.length, g))) : ∃ z, wpl_X11_both_62 ν f16 n15 f19 100 (4 * L.length) f5 n4 (nI w) Qo z 0 (fun _ => 0) := by
  obtain ⟨c1, c32, cT, cn, cf, cg⟩ := h1
  obtain ⟨d1, d32, dT, dn, df, dg⟩ := h2
  obtain ⟨m0, mL, mL1, mr, mf⟩ := hM
  have hT := MR9_len (by omega) hR
  have hI := EX_idx (by omega) hR
  have hE := (EX.inv (by omega) hR).1
  have hl : ∀ y ∈ L, y < 1024 := fun y hy => by have := mr y hy; omega
  have q4 : ∀ z s : Nat, (4 : Int32) * nI z + nI s = nI (4 * z + s) := fun z s => by rw [show (4 : Int32) = nI 4 from rfl, s_mul, nI_add]
  have L2 : ∀ (x : Nat) (K : (Nat → Int32) → Prop), x < L.length → (∀ fm, RB D1 D2 w L T (3 * x + 3) (x + 1) fm → K fm) → ∀ (z b : Nat) (fm : Nat → Int32), 3 - b < z → b ≤ 3 → RB D1 D2 w L T (3 * x + b) (x + 1) fm → wpl_X11_both_189 ν f16 n15 f19 100 (4 * L.length) f5 n4 (nI (L.getD x 0 % 32)) (nI (L.getD x 0 / 32)) (nI x) (nI w) K z (nI b) fm := by
    intro x K hx hK z
    induction z with
    | zero => intro b fm hk; exact absurd hk (Nat.not_lt_zero _)
    | succ z ih =>
      intro b fm hk hb hB
      refine ⟨fun q => ?_, fun q => ?_⟩
      · rw [show (3 : Int32) = nI 3 from rfl, nI_leI (by omega) (by omega)] at q
        rw [show 3 * x + b = 3 * x + 3 by omega] at hB
        exact hK fm hB
      rw [show (3 : Int32) = nI 3 from rfl, nI_leI (by omega) (by omega)] at q
      have am := mr _ (getD_mem (L := L) hx)
      have lt1 := cT (3 * (L.getD x 0 / 32) + b) (by omega)
      have lt2 := dT (3 * (L.getD x 0 % 32) + b) (by omega)
      obtain ⟨ti, tx⟩ := hE.2.2 (3 * x + b) (by omega)
      have te := hI (3 * x + b) (by omega)
      rw [show (3 * x + b) / 3 = x by omega, show (3 * x + b) % 3 = b by omega] at tx te
      rw [q4, q4, nI_clamp (by omega), nI_clamp (by omega), cf _ b am.1 (by omega), df _ b am.2 (by omega), show (32 : Int32) = nI 32 from rfl, s_mul, nI_add]
      have ev : D1.2.1 (3 * (L.getD x 0 / 32) + b) * 32 + D2.2.1 (3 * (L.getD x 0 % 32) + b) = L.getD (T.getD (3 * x + b) 0) 0 := by rw [tx]; rfl
      rw [ev]
      have z0 : fm (4 * x + b) = 0 := by
        have := hB.1 (3 * x + b) (by omega)
        rw [show (3 * x + b) / 3 = x by omega, show (3 * x + b) % 3 = b by omega, if_neg (by omega)] at this
        exact this
      refine ⟨s_in (by omega) (by omega), s_in (by omega) (by omega), rr_bt221 mL hx (by omega) mf hl (by omega) ti (by rw [tx, ← te]) z0 ?_⟩
      rw [nI_1]
      refine ih (b + 1) _ (by omega) (by omega) ⟨fun j hj => ?_, fun i hi => by rw [upd_ne (by omega)]; exact hB.2 i hi⟩
      by_cases e : j = 3 * x + b
      · rw [e, show (3 * x + b) / 3 = x by omega, show (3 * x + b) % 3 = b by omega, upd_at, if_pos (by omega)]
      · rw [upd_ne (by omega), hB.1 j hj]
        by_cases e2 : j < 3 * x + b
        · rw [if_pos e2, if_pos (by omega)]
        · rw [if_neg e2, if_neg (by omega)]
  have L1 : ∀ (z x : Nat) (fm : Nat → Int32), L.length - x < z → x ≤ L.length → RB D1 D2 w L T (3 * x) x fm → wpl_X11_both_62 ν f16 n15 f19 100 (4 * L.length) f5 n4 (nI w) Qo z (nI x) fm := by
    intro z
    induction z with
    | zero => intro x fm hk; exact absurd hk (Nat.not_lt_zero _)
    | succ z ih =>
      intro x fm hk hx hB
      have z0 : (0 : Int32).toNatClampNeg = 0 := rfl
      refine ⟨s_in (a := 0) (by omega) (by omega), ?_⟩
      rw [z0, m0]
      refine ⟨fun q => ?_, fun q => ?_⟩
      · rw [nI_leI (by omega) (by omega)] at q
        have e : x = L.length := by omega
        subst e
        refine h fm ⟨mL1, mL, fun j hj => ?_, rfl, fun i s hi hs => ?_, fun i hi => hB.2 i hi⟩
        · have hj' : j < 3 * L.length := hj
          exact (hE.2.2 j (by omega)).1
        · have hi' : i < L.length := hi
          have := hB.1 (3 * i + s) (by omega)
          rw [show (3 * i + s) / 3 = i by omega, show (3 * i + s) % 3 = s by omega, if_pos (by omega)] at this
          exact this
      rw [nI_leI (by omega) (by omega)] at q
      have am := mr _ (getD_mem (L := L) (i := x) (by omega))
      have hlx := hl _ (getD_mem (L := L) (i := x) (by omega))
      have q3 : ∀ z : Nat, (4 : Int32) * nI z + (3 : Int32) = nI (4 * z + 3) := fun z => q4 z 3
      rw [s_t1, nI_clamp (by omega), mf x (by omega)]
      have es : nI (L.getD x 0) / (32 : Int32) = nI (L.getD x 0 / 32) := by rw [show (32 : Int32) = nI 32 from rfl, s_div (by omega) (by omega) (by omega)]
      have er : nI (L.getD x 0) - nI (L.getD x 0) / (32 : Int32) * (32 : Int32) = nI (L.getD x 0 % 32) := by rw [show (32 : Int32) = nI 32 from rfl, s_mod (by omega) (by omega) (by omega)]
      rw [er, es, q3, q3, q3, nI_clamp (by omega), nI_clamp (by omega), nI_clamp (by omega), cg _ am.1, dg _ am.2]
      refine ⟨s_in (by omega) (by omega), s_in (by omega) (by omega), s_in (by omega) (by omega), s_in (by omega) (by omega), fun J hJ => opW_i hw (hJ _ ⟨s_in (by omega) (by omega), ?_⟩)⟩
      have g := L2 x (fun (f65 : Nat → Int32) => wpl_X11_both_62 ν f16 n15 f19 100 (4 * L.length) f5 n4 (nI w) Qo z (nI x + (1 : Int32)) f65) (by omega) (fun fm9 h9 => by rw [nI_1]; exact ih (x + 1) fm9 (by omega) (by omega) h9) 4 0 (upd fm (4 * x + 3) (bi (opW w (D1.2.2 (L.getD x 0 / 32)) (D2.2.2 (L.getD x 0 % 32))))) (by omega) (by omega) ⟨fun j hj => by rw [upd_ne (by omega)]; exact hB.1 j hj, fun i hi => by
        by_cases e : i = x
        · rw [e, upd_at]
        · rw [upd_ne (by omega)]; exact hB.2 i (by omega)⟩
      rw [nI_0] at g
      exact ⟨_, g⟩
  have g := L1 (L.length + 1) 0 (fun _ => 0) (by omega) (Nat.zero_le _) ⟨fun j hj => by rw [if_neg (by omega)], fun i hi => absurd hi (Nat.not_lt_zero _)⟩
  rw [nI_0] at g
  exact ⟨_, g⟩
theorem rr_both {w : Nat} (hw : w ≤ 3) (hm : m < 4) (hm' : m' < 4) (hA : HR ν m A) (hB : HR ν m' B) (vA : AV A) (vB : AV B) (h1 : ∀ (D : DF) (nf : Nat) (g : Nat → Int32), BTH A B w = some D → HF nf g D → Qo (some (nf, g))) (h0 : BTH A B w = none → Qo none) : wp_X11_both ν (nI m) (nI m') (nI w) Qo := by
  refine rr_oneWayA hm hA vA (fun D1 n4 f5 e1 F1 => ⟨(fun z => nomatch z), fun n4' f5' z => ?_⟩) (fun e1 => ⟨fun _ => rr_oneWayA hm' hB vB (fun D2 n15 f16 e2 F2 => ⟨(fun z => nomatch z), fun _ _ _ => h0 (by rw [BTH, PRS, e1]; rfl)⟩) (fun e2 => ⟨fun _ => h0 (by rw [BTH, PRS, e1]; rfl), (fun _ _ z => nomatch z)⟩), (fun _ _ z => nomatch z)⟩)
  cases z
  refine rr_oneWayA hm' hB vB (fun D2 n15 f16 e2 F2 => ⟨(fun z => nomatch z), fun n15' f16' z => ?_⟩) (fun e2 => ⟨fun _ => h0 (by rw [BTH, PRS, e1, e2]; rfl), (fun _ _ z => nomatch z)⟩)
  cases z
  have z0 : (0 : Int32).toNatClampNeg = 0 := rfl
  refine rr_met (lim := 32) (w := 1) (v16 := 0) F1 F2 (by omega) (by omega) ⟨fun _ => by decide, fun _ => rfl⟩ (fun L T f19 hR hM => ?_) (fun hR f19 hf => ?_)
  · have m0 := hM.1
    have mL := hM.2.1
    have mL1 := hM.2.2.1
    refine ⟨s_in (a := 0) (by omega) (by omega), ?_⟩
    rw [z0, m0, show (4 : Int32) = nI 4 from rfl, s_mul, nI_clamp (by omega)]
    refine ⟨fun _ => ⟨s_in (a := 0) (by omega) (by omega), ⟨nI_pos (by omega), by omega⟩, rr_both62 hw F1 F2 hR hM (fun g hg => h1 _ _ g ?_ hg)⟩, fun q => absurd (by rw [show (32 : Int32) = nI 32 from rfl, nI_leI (by omega) (by omega)]; omega) q⟩
    rw [BTH, PRS, e1, e2]
    show Option.map _ ((MR9 D1 D2 32 1).map _) = _
    rw [hR]
    rfl
  · refine ⟨s_in (a := 0) (by omega) (by omega), ?_⟩
    rw [z0, hf]
    refine ⟨fun q => absurd q (by decide), fun _ => h0 ?_⟩
    rw [BTH, PRS, e1, e2]
    show Option.map _ ((MR9 D1 D2 32 1).map _) = _
    rw [hR]
    rfl
theorem rr_combine (h : RSt ν S a r k t) (hv : AVs S) (hok : ∀ m m' mi w D, m < 4 → m' < 4 → mi < 4 → a1 = nI m → a2 = nI m' → a4 = nI mi → a3 = nI w → w ≤ 3 → SM7 (BLS (S m) (S m') w) D → ∀ ν9, RSt ν9 (sUp S mi (aP D)) (a + 1) r k 0 → Q (nI D.1) ν9) (hre : ∀ m m' mi w, m < 4 → m' < 4 → mi < 4 → a1 = nI m → a2 = nI m' → a4 = nI mi → a3 = nI w → w ≤ 3 → NO7 (BLS (S m) (S m') w) → ∀ ν9, RSt ν9 S a (r + 1) k 0 → Q (-9) ν9) (h1 : ¬ (ONE2 a1 a2 ∧ M1 a4) → ∀ b ν9, RSt ν9 S a r k 1 → Q b ν9) (h2 : ONE2 a1 a2 ∧ M1 a4 → ¬ IN a3 0 3 → ∀ b ν9, RSt ν9 S a r k 2 → Q b ν9) : wp_X11_combine ν a1 a2 a3 a4 Q := by
  have bad : ¬ (ONE2 a1 a2 ∧ M1 a4) → ∀ (B : TMem → Prop), wp_X11_isIn a3 (0 : Int32) (3 : Int32) (fun (r4 : Int32) => wp_X11_isThrown ν 0 r4 (fun (r6 : Int32) (μ5 : TMem) => (r6 = 0 → B μ5) ∧ (¬ r6 = 0 → (Q (0 : Int32) μ5)))) := fun z B => rr_in (fun _ => th_1 ⟨fun q => absurd q (by decide), fun _ => h1 z _ _ (h.thr 1)⟩) (fun _ => th_1 ⟨fun q => absurd q (by decide), fun _ => h1 z _ _ (h.thr 1)⟩)
  refine rr_one (fun m hm em J hJ => ⟨fun z => absurd z (by decide), fun _ => ?_⟩) (fun z J hJ => ⟨fun _ => hJ 0 (bad (fun q => z q.1.1) _), fun q => absurd rfl q⟩)
  refine rr_one (fun m' hm' em' => ⟨fun z => absurd z (by decide), fun _ => ?_⟩) (fun z => ⟨fun _ => hJ 0 (bad (fun q => z q.1.2) _), fun q => absurd rfl q⟩)
  refine rr_one (fun mi hmi emi => ⟨fun z => absurd z (by decide), fun _ => hJ 1 ?_⟩) (fun z => ⟨fun _ => hJ 0 (bad (fun q => z q.2) _), fun q => absurd rfl q⟩)
  refine rr_in (fun z => th_ok ⟨fun _ => ?_, fun q => absurd rfl q⟩) (fun z => th_2 ⟨fun q => absurd q (by decide), fun _ => h2 ⟨⟨em ▸ M1_nI hm, em' ▸ M1_nI hm'⟩, emi ▸ M1_nI hmi⟩ z _ _ (h.thr 2)⟩)
  obtain ⟨w, ew, w0, w3⟩ := IN_ex z (by decide)
  have w3' : (w : Int) ≤ 3 := w3
  have h0 := h.thr 0
  have hok' := fun D => hok m m' mi w D hm hm' hmi em em' emi ew (by omega)
  have hre' := hre m m' mi w hm hm' hmi em em' emi ew (by omega)
  rw [em, em', emi, ew]
  refine rr_both (by omega) hm hm' (h0.1 m hm) (h0.1 m' hm') (hv m hm) (hv m' hm') (fun D nf g e F => ⟨(fun z => nomatch z), fun n11 f12 z => ?_⟩) (fun e => ⟨fun _ => ⟨fun _ => hre' (fun D' e' => by rw [BLS, e] at e'; cases e') _ h0.ref, (fun _ _ z => nomatch z)⟩, (fun _ _ z => nomatch z)⟩)
  cases z
  refine rr_least F (fun D' nf' g' e' F' => ⟨(fun z => nomatch z), fun n22 f23 z => ?_⟩)
  cases z
  have eb : BLS (S m) (S m') w = some D' := by rw [BLS, e]; exact e'
  exact rr_become h0 F' hmi (fun q => hok' D' ⟨eb, q, F'.1, F'.2.2.1⟩) (fun q => hre' (fun D9 e9 => by rw [eb] at e9; cases e9; exact q))
end SRN
end
/-! part 9sao.sow2 -/
section
section SRO
variable {ν : TMem} {S : Nat → AM} {a r k t : Int32} {a1 a2 a3 a4 : Int32} {Q : Int32 → TMem → Prop} {m N : Nat} {ch seed : Int32}
theorem RSt.ri (h : RSt ν S a r k t) (hv : AVs S) : RI ν := fun i hi => by
  have e := (h.1 i hi).1
  have v := hv i hi
  have v1 := v.1
  have v7 := v.2.1
  rw [e, nI_toInt (by omega)]
  omega
theorem LK_nI {j : Nat} (hm : m < 4) : LK (nI m) j = 21 * m + j := by
  rw [LK, nI_toInt (by omega)]
  rfl
def SR8 (N m : Nat) (ch seed : Int32) (ν ν9 : TMem) (i : Nat) : Prop := RI ν9 ∧ (∀ k, k ≠ 4 → ν9 k = ν k) ∧ (∀ p, (p < 21 * m ∨ 21 * m + 21 ≤ p) → ν9 4 p = ν 4 p) ∧ (∀ j, j < i → ν9 4 (21 * m + j) = CE (nI N) ch seed j) ∧ ∀ j, i ≤ j → j < 21 → ν9 4 (21 * m + j) = 0
theorem rr_61 {K : Int32 → TMem → Prop} (hm : m < 4) (hN1 : 1 ≤ N) (hN7 : N ≤ 7) (hc : 0 ≤ ch.toInt ∧ ch.toInt ≤ 6) (h0 : SR8 N m ch seed ν ν 0) (hK : ∀ ν9 : TMem, SR8 N m ch seed ν ν9 (3 * N) → K (XS (nI N) ch seed (3 * N)) ν9) : ∃ nf, wpl_X11_sow_61 (nI m) (nI N) ch K nf 0 seed ν := by
  have en := nI_toInt (n := N) (by omega)
  have L70 : ∀ (x : Nat) (K2 : Int32 → TMem → Prop), x < N → (∀ ν9 : TMem, SR8 N m ch seed ν ν9 (3 * x + 3) → K2 (XS (nI N) ch seed (3 * x + 3)) ν9) → ∀ (nf b : Nat) (ν1 : TMem), 3 - b < nf → b ≤ 3 → SR8 N m ch seed ν ν1 (3 * x + b) → wpl_X11_sow_70 (nI x) (nI m) (nI N) ch K2 nf (nI b) (XS (nI N) ch seed (3 * x + b)) ν1 := by
    intro x K2 hx hK2 nf
    induction nf with
    | zero => intro b ν1 hk; exact absurd hk (Nat.not_lt_zero _)
    | succ nf ih =>
      intro b ν1 hk hb hS
      refine ⟨fun q => ?_, fun q => ?_⟩
      · rw [show (3 : Int32) = nI 3 from rfl, nI_leI (by omega) (by omega)] at q
        rw [show 3 * x + b = 3 * x + 3 by omega] at hS ⊢
        exact hK2 ν1 hS
      rw [show (3 : Int32) = nI 3 from rfl, nI_leI (by omega) (by omega)] at q
      obtain ⟨s1, s2, s3, s4, s5⟩ := hS
      have lk := LK_nI (j := 3 * x + b) hm
      refine r_79 (a := x) (b := b) (nI_toInt (by omega)) (nI_toInt (by omega)) (by omega) (by omega) (M1_nI hm) (by omega) (by omega) hc s1 (by rw [lk]; exact s5 _ (Nat.le_refl _) (by omega)) (fun ν9 f9 m9 k9 x9 => ?_)
      rw [lk] at m9 x9
      rw [nI_1]
      refine ih (b + 1) ν9 (by omega) (by omega) ⟨f9.1, fun k hk => (k9 k hk).trans (s2 k hk), fun p hp => by rw [m9 p (by omega)]; exact s3 p hp, fun j hj => ?_, fun j j1 j2 => by rw [m9 _ (by omega)]; exact s5 j (by omega) j2⟩
      by_cases e : j = 3 * x + b
      · rw [e, x9]
        rfl
      · rw [m9 _ (by omega)]
        exact s4 j (by omega)
  have L61 : ∀ (nf x : Nat) (ν1 : TMem), N - x < nf → x ≤ N → SR8 N m ch seed ν ν1 (3 * x) → wpl_X11_sow_61 (nI m) (nI N) ch K nf (nI x) (XS (nI N) ch seed (3 * x)) ν1 := by
    intro nf
    induction nf with
    | zero => intro x ν1 hk; exact absurd hk (Nat.not_lt_zero _)
    | succ nf ih =>
      intro x ν1 hk hx hS
      refine ⟨fun q => ?_, fun q => ?_⟩
      · rw [nI_leI (by omega) (by omega)] at q
        rw [show x = N by omega] at hS ⊢
        exact hK ν1 hS
      rw [nI_leI (by omega) (by omega)] at q
      have g := L70 x (fun (u52 : Int32) (μ53 : TMem) => wpl_X11_sow_61 (nI m) (nI N) ch K nf (nI x + (1 : Int32)) u52 μ53) (by omega) (fun ν9 h9 => by rw [nI_1]; exact ih (x + 1) ν9 (by omega) (by omega) h9) 4 0 ν1 (by omega) (by omega) hS
      rw [nI_0] at g
      exact ⟨_, g⟩
  have g := L61 (N + 1) 0 ν (by omega) (by omega) h0
  rw [nI_0] at g
  exact ⟨_, g⟩
theorem rr_193 {x : Int32} {K : TMem → Prop} (hm : m < 4) (hN7 : N ≤ 7) (hg : ν 3 m = 0) (hK : ∀ ν9 : TMem, ν9 3 m = (GSg x N).1 → (∀ i, i ≠ m → ν9 3 i = ν 3 i) → (∀ k, k ≠ 3 → ν9 k = ν k) → K ν9) : ∃ nf, wpl_X11_sow_193 (nI m) (nI N) K nf 0 x ν := by
  have im : (nI m).toNatClampNeg = m := nI_clamp (by omega)
  have L : ∀ (nf i : Nat) (ν1 : TMem), N - i < nf → i ≤ N → ν1 3 m = (GSg x i).1 → (∀ j, j ≠ m → ν1 3 j = ν 3 j) → (∀ k, k ≠ 3 → ν1 k = ν k) → wpl_X11_sow_193 (nI m) (nI N) K nf (nI i) (GSg x i).2 ν1 := by
    intro nf
    induction nf with
    | zero => intro i ν1 hk; exact absurd hk (Nat.not_lt_zero _)
    | succ nf ih =>
      intro i ν1 hk hi w1 w2 w3
      refine ⟨fun q => ?_, fun q => ⟨fun z => ?_, fun z => ⟨s_in hm (by omega), s_in hm (by omega), ?_⟩⟩⟩
      · rw [nI_leI (by omega) (by omega)] at q
        rw [show i = N by omega] at w1
        exact hK ν1 w1 w2 w3
      · rw [nI_leI (by omega) (by omega)] at q
        have z' : ¬ md (dr (GSg x i).2 / (64 : Int32)) (2 : Int32) = 0 := z
        rw [nI_1]
        exact ih (i + 1) ν1 (by omega) (by omega) (by rw [w1, GSg, if_neg z']) w2 w3
      · rw [nI_leI (by omega) (by omega)] at q
        have z' : md (dr (GSg x i).2 / (64 : Int32)) (2 : Int32) = 0 := z
        rw [nI_1, im, w1]
        exact ih (i + 1) _ (by omega) (by omega) (by rw [tms_eq, upd_at, GSg, if_pos z']) (fun j hj => by rw [tms_eq, upd_ne hj]; exact w2 j hj) (fun k hk => by rw [tms_ne hk]; exact w3 k hk)
  have g := L (N + 1) 0 ν (by omega) (by omega) hg (fun _ _ => rfl) (fun _ _ => rfl)
  rw [nI_0] at g
  exact ⟨_, g⟩
/-- numbers drawn stay below 65536 -/
def DRW (x : Int32) : Prop := ∃ X : Nat, X < 65536 ∧ x = nI X
theorem dr_ok {x : Int32} (h : DRW x) : ∃ Y : Nat, Y < 65536 ∧ dr x = nI Y ∧ dr x / (64 : Int32) = nI (Y / 64) := by
  obtain ⟨X, hX, rfl⟩ := h
  have e : dr (nI X) = nI ((X * 25173 + 13849) % 65536) := by
    rw [dr, show (25173 : Int32) = nI 25173 from rfl, show (13849 : Int32) = nI 13849 from rfl, show (65536 : Int32) = nI 65536 from rfl, s_mul, nI_add, s_mod (by omega) (by omega) (by omega)]
  refine ⟨(X * 25173 + 13849) % 65536, by omega, e, ?_⟩
  rw [e, show (64 : Int32) = nI 64 from rfl, s_div (by omega) (by omega) (by omega)]
theorem SS_ok : ∀ (z t : Nat) (s x : Int32), t + z < 100 → N ≤ 7 → nn s < 2 ^ N → DRW x → nn (SS (nI N) ch z (nI t) s x).1 < 2 ^ N ∧ DRW (SS (nI N) ch z (nI t) s x).2 := by
  intro z
  induction z with
  | zero => intro t s x _ _ hs hx; exact ⟨hs, hx⟩
  | succ z ih =>
    intro t s x ht hN hs hx
    rw [SS]
    by_cases c : nI N ≤ nI t
    · rw [if_pos c]; exact ⟨hs, hx⟩
    · rw [if_neg c, nI_1]
      obtain ⟨Y, hY, eY, _⟩ := dr_ok hx
      rw [nI_leI (by omega) (by omega)] at c
      refine ih (t + 1) _ _ (by omega) hN ?_ ⟨Y, hY, eY⟩
      split
      · rw [nn_or, nn_two t (by omega)]
        refine s_lt2 (fun i hi => ?_)
        rw [s_or2, s_big hs hi, decide_eq_false (by omega)]
        rfl
      · exact hs
theorem CS_ok {x : Int32} (hN1 : 1 ≤ N) (hN7 : N ≤ 7) (hx : DRW x) : nn (CS (nI N) ch x).1 < 2 ^ N ∧ DRW (CS (nI N) ch x).2 := by
  rw [CS]
  by_cases c : ch = 0
  · rw [if_pos c]
    obtain ⟨Y, hY, eY, e2⟩ := dr_ok hx
    refine ⟨?_, Y, hY, eY⟩
    show nn ((1 : Int32) <<< (md (dr x / (64 : Int32)) (nI N) &&& 31)) < 2 ^ N
    have h2 := Nat.mod_lt (Y / 64) (show N > 0 by omega)
    rw [e2, md, s_mod (by omega) (by omega) (by omega), nn_two _ (by omega)]
    exact Nat.pow_lt_pow_right (by decide) h2
  · rw [if_neg c]
    have g := SS_ok (N := N) (ch := ch) 8 0 0 x (by omega) hN7 (by rw [nn_0]; exact Nat.two_pow_pos N) hx
    rw [nI_0] at g
    exact g
theorem XS_ok (hN1 : 1 ≤ N) (hN7 : N ≤ 7) (hs : DRW seed) : ∀ i, DRW (XS (nI N) ch seed i) := by
  intro i
  induction i with
  | zero => exact hs
  | succ i ih => exact (CS_ok hN1 hN7 ih).2
theorem GSg_ok {x : Int32} : ∀ i, i ≤ 7 → nn (GSg x i).1 < 2 ^ i := by
  intro i
  induction i with
  | zero => intro _; show nn 0 < 1; rw [nn_0]; omega
  | succ i ih =>
    intro hi
    have h := ih (by omega)
    rw [GSg]
    split
    · show nn ((GSg x i).1 ||| ((1 : Int32) <<< (nI i &&& 31))) < _
      rw [nn_or, nn_two i (by omega)]
      refine s_lt2 (fun j hj => ?_)
      rw [s_or2, s_big h (by omega), decide_eq_false (by omega)]
      rfl
    · show nn (GSg x i).1 < _
      exact Nat.lt_trans h (Nat.pow_lt_pow_right (by decide) (by omega))
theorem aS_AV (hN1 : 1 ≤ N) (hN7 : N ≤ 7) (hs : IN seed 0 65535) : AV (aS seed N ch) := by
  obtain ⟨X, eX, x1, x2⟩ := IN_ex hs (by decide)
  have x2' : (X : Int) ≤ 65535 := x2
  have hd : DRW seed := ⟨X, by omega, eX⟩
  refine ⟨hN1, hN7, ?_, GSg_ok N hN7, fun j hj => ?_, fun j hj => ?_⟩
  · show nn 1 < 2 ^ N
    rw [show nn 1 = 1 from by decide]
    exact Nat.one_lt_two_pow (by omega)
  · have hj' : j < 3 * N := hj
    show nn (if j < 3 * N then CE (nI N) ch seed j else 0) < 2 ^ N
    rw [if_pos hj']
    exact (CS_ok hN1 hN7 (XS_ok hN1 hN7 hd j)).1
  · have hj' : 3 * N ≤ j := hj
    show (if j < 3 * N then CE (nI N) ch seed j else 0) = 0
    rw [if_neg (by omega)]
theorem rr_sow (h : RSt ν S a r k t) (hv : AVs S) (hok : ∀ m n, m < 4 → a1 = nI m → a3 = nI n → 1 ≤ n → n ≤ 7 → IN a2 0 65535 → IN a4 0 6 → ∀ ν9, RSt ν9 (sUp S m (aS a2 n a4)) (a + 1) r k 0 → Q (AC (aS a2 n a4)) ν9) (h1 : ¬ M1 a1 → ∀ b ν9, RSt ν9 S a r k 1 → Q b ν9) (h2 : M1 a1 → ¬ (IN a2 0 65535 ∧ IN a3 1 7 ∧ IN a4 0 6) → ∀ b ν9, RSt ν9 S a r k 2 → Q b ν9) : wp_X11_sow ν a1 a2 a3 a4 Q := by
  have b1 : ¬ M1 a1 → ∀ (y : Int32) (B : TMem → Prop), wp_X11_isThrown ν 0 y (fun (r6 : Int32) (μ5 : TMem) => (r6 = 0 → B μ5) ∧ (¬ r6 = 0 → (Q (0 : Int32) μ5))) := fun z y B => th_1 ⟨fun q => absurd q (by decide), fun _ => h1 z _ _ (h.thr 1)⟩
  have b2 : M1 a1 → ¬ (IN a2 0 65535 ∧ IN a3 1 7 ∧ IN a4 0 6) → ∀ (B : TMem → Prop), wp_X11_isThrown ν 1 0 (fun (r6 : Int32) (μ5 : TMem) => (r6 = 0 → B μ5) ∧ (¬ r6 = 0 → (Q (0 : Int32) μ5))) := fun z z2 B => th_2 ⟨fun q => absurd q (by decide), fun _ => h2 z z2 _ _ (h.thr 2)⟩
  refine rr_one (fun m hm em => ?_) (fun z => ?_)
  · have hM : M1 a1 := em ▸ M1_nI hm
    refine rr_in (fun y2 J hJ => ⟨fun q => absurd q (by decide), fun _ => rr_in (fun y3 => ⟨fun q => absurd q (by decide), fun _ => rr_in (fun y4 => ⟨fun q => absurd q (by decide), fun _ => hJ 1 (th_ok ⟨fun _ => ?_, fun q => absurd rfl q⟩)⟩) (fun y4 => ⟨fun _ => hJ 0 (b2 hM (fun q => y4 q.2.2) _), fun q => absurd rfl q⟩)⟩) (fun y3 => ⟨fun _ => hJ 0 (b2 hM (fun q => y3 q.2.1) _), fun q => absurd rfl q⟩)⟩) (fun y2 J hJ => ⟨fun _ => hJ 0 (b2 hM (fun q => y2 q.1) _), fun q => absurd rfl q⟩)
    obtain ⟨N, eN, n1, n7⟩ := IN_ex y3 (by decide)
    have n1' : (1 : Int) ≤ N := n1
    have n7' : (N : Int) ≤ 7 := n7
    have h0 := h.thr 0
    have hok' := hok m N hm em eN (by omega) (by omega) y2 y4
    have hRI := h0.ri hv
    rw [em, eN]
    generalize hN0 : tms ν 0 7 0 = W at *
    refine rr_clear hm (fun ν8 hR8 hF8 => ?_)
    have ri8 : RI ν8 := fun i hi => by
      by_cases e : i = m
      · rw [e, hR8.1, show (nI (aC N).1).toInt = (N : Int) from nI_toInt (show N < 2 ^ 31 by omega)]; omega
      · rw [(hF8.2.1 i e).1]; exact hRI i hi
    refine rr_61 (N := N) (seed := a2) (ch := a4) hm (by omega) (by omega) y4 ⟨ri8, fun _ _ => rfl, fun _ _ => rfl, fun j hj => absurd hj (Nat.not_lt_zero _), fun j _ hj => hR8.2.2.2 j hj⟩ (fun ν9 s9 => ?_)
    obtain ⟨s1, s2, s3, s4, s5⟩ := s9
    refine rr_193 (N := N) hm (by omega) (by rw [s2 3 (by decide)]; exact hR8.2.2.1) (fun νa g1 g2 g3 => ?_)
    have hRS : HR νa m (aS a2 N a4) := ⟨by rw [g3 1 (by decide), s2 1 (by decide)]; exact hR8.1, by rw [g3 2 (by decide), s2 2 (by decide)]; exact hR8.2.1, g1, fun j hj => by
      rw [g3 4 (by decide)]
      show _ = if j < 3 * N then _ else _
      by_cases e : j < 3 * N
      · rw [if_pos e]; exact s4 j e
      · rw [if_neg e]; exact s5 j (by omega) hj⟩
    refine rr_arrowsOf hm hRS (aS_AV (by omega) (by omega) y2) (hok' _ (h0.act hRS ⟨?_, fun i hi => ⟨?_, ?_, ?_⟩, fun p hp => ?_⟩))
    · rw [g3 0 (by decide), s2 0 (by decide)]; exact hF8.1
    · rw [g3 1 (by decide), s2 1 (by decide)]; exact (hF8.2.1 i hi).1
    · rw [g3 2 (by decide), s2 2 (by decide)]; exact (hF8.2.1 i hi).2.1
    · rw [g2 i hi, s2 3 (by decide)]; exact (hF8.2.1 i hi).2.2
    · rw [g3 4 (by decide), s3 p hp]; exact hF8.2.2 p hp
  · refine rr_in (fun y2 J hJ => ⟨fun _ => hJ 0 (b1 z _ _), fun _ => rr_in (fun y3 => ⟨fun _ => hJ 0 (b1 z _ _), fun _ => rr_in (fun y4 => ⟨fun _ => hJ 0 (b1 z _ _), fun _ => hJ 1 (b1 z _ _)⟩) (fun y4 => ⟨fun _ => hJ 0 (b1 z _ _), fun q => absurd rfl q⟩)⟩) (fun y3 => ⟨fun _ => hJ 0 (b1 z _ _), fun q => absurd rfl q⟩)⟩) (fun y2 J hJ => ⟨fun _ => hJ 0 (b1 z _ _), fun q => absurd rfl q⟩)
end SRO
end
/-! part 9sap.zfr -/
section
section ZFR
/-- as Fr, and the machines' rows as they were -/
def Zr (lv : Nat) (μ μ1 : TMem) : Prop := Fr lv μ μ1 ∧ ∀ k, k ≤ 9 → μ1 k = μ k
theorem kd5' {k : Nat} (h : kd k = 5) : 9 < k := by have := kd5 h; omega
theorem kd6' {k : Nat} (h : kd k = 6) : 9 < k := Nat.lt_of_not_le (fun c => absurd h ((show ∀ k, k < 10 → kd k ≠ 6 by decide) k (by omega)))
theorem Zr.rf {lv : Nat} {μ : TMem} : Zr lv μ μ := ⟨Fr.rf, fun _ _ => rfl⟩
theorem Zr.trans {lv : Nat} {a b c : TMem} (h1 : Zr lv a b) (h2 : Zr lv b c) : Zr lv a c := ⟨h1.1.trans h2.1, fun k hk => (h2.2 k hk).trans (h1.2 k hk)⟩
theorem Zr.up {l1 l2 : Nat} {a b : TMem} (h : l1 ≤ l2) (h1 : Zr l1 a b) : Zr l2 a b := ⟨h1.1.up h, h1.2⟩
theorem Zr.st {lv : Nat} {a b : TMem} {k i : Nat} {v : Int32} (h : Zr lv a b) (hp : prot lv (kd k) i = false) (hk : k ≠ 43 ∨ rng v) (h9 : 9 < k := by first | decide | assumption | exact kd5' (by assumption) | exact kd6' (by assumption) | exact Nat.lt_succ_of_lt (kd5' (by assumption)) | exact Nat.lt_succ_of_lt (kd6' (by assumption)) | omega) : Zr lv a (tms b k i v) := ⟨h.1.st hp hk, fun j hj => by rw [tms_ne (by omega)]; exact h.2 j hj⟩
theorem Zr.zf {lv : Nat} {a b : TMem} (h : Zr lv a b) : ZF a b := ⟨h.2, h.1.2⟩
theorem zk5 {μ μ1 : TMem} {k : Nat} (hk : kd k = 5) (f : Zr 0 μ μ1) : μ1 k 1 = μ k 1 := k5 hk f.1
theorem zu2 {a b : TMem} (f : Zr 0 a b) : Zr 2 a b := f.up (by decide)
theorem zt2 {a b : TMem} {k i : Nat} {v : Int32} (f : Zr 2 a b) (hk : kd k = 5) : Zr 2 a (tms b k i v) := f.st (by rw [hk]; rfl) (Or.inl (ne43 hk (by decide))) (kd5' hk)
theorem z_machineAt0 (μ : TMem) {Q : Nat → TMem → Prop} {X : String → TMem → Prop} (h : ∀ (r : Nat) (μ9 : TMem), kd r = 2 → Zr 0 μ μ9 → Q r μ9) : wp_X9_machineAt μ (0 : Int32) Q X := by
  show ((0 : Int32) < 0 → (X "java/lang/IndexOutOfBoundsException" μ)) ∧ (¬ (0 : Int32) < 0 → (((0 : Int32) < (4 : Int32) → (vp_in (0 : Int32) 4 ∧ (Q (2 + 2 * (0 : Int32).toNatClampNeg) μ))) ∧ (¬ (0 : Int32) < (4 : Int32) → (X "java/lang/IndexOutOfBoundsException" μ))))
  exact ⟨fun z => absurd z (by decide), fun _ => ⟨fun _ => ⟨vp_in_iff.mpr (by decide), h _ _ rfl Zr.rf⟩, fun z => absurd (by decide) z⟩⟩
set_option maxHeartbeats 2000000 in
theorem z_X7_put (k0 : Nat) (hk0 : (kd k0 = 2 ∨ kd k0 = 5) ∧ 9 < k0) (μ : TMem) (a1 : Int32) (a2 : Int32) (a3 : Int32) {Q : TMem → Prop} (h : ∀ μ9 : TMem, Zr 0 μ μ9 → Q μ9) : wp_X7_put k0 μ a1 a2 a3 Q := by
  show (((a1 * (3 : Int32)) + a2) < 0 → (Q μ)) ∧ (¬ ((a1 * (3 : Int32)) + a2) < 0 → (((nI (tl (k0 + 1))) ≤ ((a1 * (3 : Int32)) + a2) → (Q μ)) ∧ (¬ (nI (tl (k0 + 1))) ≤ ((a1 * (3 : Int32)) + a2) → (vp_in ((a1 * (3 : Int32)) + a2) (tl (k0 + 1)) ∧ (Q (tms μ (k0 + 1) ((a1 * (3 : Int32)) + a2).toNatClampNeg a3))))))
  refine ⟨fun c10 => ?_, fun c11 => ?_⟩
  · exact h _ (Zr.rf)
  · refine ⟨fun c12 => ?_, fun c13 => ?_⟩
    · exact h _ (Zr.rf)
    · have hv14 : vp_in ((a1 * (3 : Int32)) + a2) (tl (k0 + 1)) := (by first | exact vp_a (by assumption) (by assumption) (tl_s _) | exact vp_b (by assumption) (by assumption) (tl_s _) | exact vp_a (n := 4) (by assumption) (by assumption) (by decide) | exact vp_b (n := 4) (by assumption) (by assumption) (by decide) | exact vp_c (by assumption) (by assumption))
      refine ⟨hv14, ?_⟩
      exact h _ (Zr.st (Zr.rf) (by rw [show kd (k0 + 1) = 9 from (ka_25 hk0.1)] <;> rfl) (Or.inl (ne43b hk0.1)))
set_option maxHeartbeats 2000000 in
theorem zl_wpl_X2_becomePlain_33 (μ0 : TMem) (k0 : Nat) (hk0 : kd k0 = 2 ∧ 9 < k0) (k1 : Nat) (hk1 : kd k1 = 5) (v7 : Int32) {K58 : TMem → Prop} (hK58 : ∀ (u0 : TMem), Zr 0 μ0 u0 → K58 u0) : ∀ (n : Nat) (v6 : Int32) (μ8 : TMem), (((3 : Int32)).toInt - (v6).toInt).toNat < n → 0 ≤ (v6).toInt → Zr 0 μ0 μ8 → wpl_X2_becomePlain_33 k0 k1 v7 K58 n v6 μ8 := by
  intro n
  induction n with
  | zero => intro v6 μ8 hm; exact absurd hm (Nat.not_lt_zero _)
  | succ n ih =>
    intro v6 μ8 hm hi hF
    show ((3 : Int32) ≤ v6 → (K58 μ8)) ∧ (¬ (3 : Int32) ≤ v6 → (wp_X7_at k1 μ8 v7 v6 (fun (r10 : Int32) => wp_X7_put k0 μ8 v7 v6 ((1 : Int32) <<< (r10 &&& 31)) (fun (μ13 : TMem) => wpl_X2_becomePlain_33 k0 k1 v7 K58 n (v6 + (1 : Int32)) μ13))))
    refine ⟨fun c_ex => ?_, fun c_in => ?_⟩
    · exact hK58 μ8 hF
    have c_lt : ¬ ((3 : Int32)) ≤ v6 := c_in
    refine f_X7_at k1 (Or.inr hk1) μ8 v7 v6 (fun r10 => ?_)
    refine z_X7_put k0 ⟨Or.inl hk0.1, hk0.2⟩ μ8 v7 v6 ((1 : Int32) <<< (r10 &&& 31)) (fun μ13 hf15 => ?_)
    exact ih (v6 + (1 : Int32)) μ13 (lt_m c_lt (by omega)) (lt_p (by assumption) c_lt) (Zr.trans hF (Zr.up (by decide) hf15))
set_option maxHeartbeats 2000000 in
theorem zl_wpl_X2_becomePlain_23 (μ0 : TMem) (k0 : Nat) (hk0 : kd k0 = 2 ∧ 9 < k0) (k1 : Nat) (hk1 : kd k1 = 5) {Q : TMem → Prop} (h : ∀ μ9 : TMem, Zr 0 μ0 μ9 → Q μ9) : ∀ (n : Nat) (v2 : Int32) (μ3 : TMem), (((μ0 k0 1)).toInt - (v2).toInt).toNat < n → 0 ≤ (v2).toInt → Zr 0 μ0 μ3 → wpl_X2_becomePlain_23 k0 k1 Q n v2 μ3 := by
  intro n
  induction n with
  | zero => intro v2 μ3 hm; exact absurd hm (Nat.not_lt_zero _)
  | succ n ih =>
    intro v2 μ3 hm hi hF
    show ((μ3 k0 1) ≤ v2 → (Q μ3)) ∧ (¬ (μ3 k0 1) ≤ v2 → (∃ n4x, wpl_X2_becomePlain_33 k0 k1 v2 (fun (μ15 : TMem) => wpl_X2_becomePlain_23 k0 k1 Q n (v2 + (1 : Int32)) μ15) n4x (0 : Int32) μ3))
    refine ⟨fun c_ex => ?_, fun c_in => ?_⟩
    · exact h _ hF
    have e_k0_1 : μ3 k0 1 = μ0 k0 1 := hF.1.1 k0 1 (by rw [show kd k0 = 2 from hk0.1] <;> rfl)
    have c_lt : ¬ ((μ0 k0 1)) ≤ v2 := by
      rw [e_k0_1] at c_in
      exact c_in
    refine ⟨_, zl_wpl_X2_becomePlain_33 μ3 k0 hk0 k1 hk1 v2 ?_ _ (0 : Int32) μ3 (Nat.lt_succ_self _) (by first | decide | omega) Zr.rf⟩
    · intro μ15 hf16
      exact ih (v2 + (1 : Int32)) μ15 (lt_m c_lt (by omega)) (lt_p (by assumption) c_lt) (Zr.trans hF (Zr.up (by decide) hf16))
set_option maxHeartbeats 2000000 in
theorem z_X2_becomePlain (k0 : Nat) (hk0 : kd k0 = 2 ∧ 9 < k0) (k1 : Nat) (hk1 : kd k1 = 5) (μ : TMem)  {Q : TMem → Prop} (h : ∀ μ9 : TMem, Zr 2 μ μ9 → Q μ9) : wp_X2_becomePlain k0 k1 μ Q := by
  show ∃ n0x, wpl_X2_becomePlain_23 k0 k1 Q n0x (0 : Int32) (tms (tms (tms μ k0 1 (μ k1 1)) k0 3 (1 : Int32)) k0 2 ((tms (tms μ k0 1 (μ k1 1)) k0 3 (1 : Int32)) k1 2))
  refine ⟨_, zl_wpl_X2_becomePlain_23 (tms (tms (tms μ k0 1 (μ k1 1)) k0 3 (1 : Int32)) k0 2 ((tms (tms μ k0 1 (μ k1 1)) k0 3 (1 : Int32)) k1 2)) k0 hk0 k1 hk1 (fun μ9 f9 => h μ9 (Zr.trans (Zr.st (Zr.st (Zr.st (Zr.rf) (by rw [show kd k0 = 2 from hk0.1] <;> rfl) (Or.inl (ne43 (K := 2) hk0.1 (by decide)))) (by rw [show kd k0 = 2 from hk0.1] <;> rfl) (Or.inl (ne43 (K := 2) hk0.1 (by decide)))) (by rw [show kd k0 = 2 from hk0.1] <;> rfl) (Or.inl (ne43 (K := 2) hk0.1 (by decide)))) (Zr.up (by decide) f9))) _ (0 : Int32) (tms (tms (tms μ k0 1 (μ k1 1)) k0 3 (1 : Int32)) k0 2 ((tms (tms μ k0 1 (μ k1 1)) k0 3 (1 : Int32)) k1 2)) (Nat.lt_succ_self _) (by first | decide | omega) Zr.rf⟩
set_option maxHeartbeats 2000000 in
theorem z_X6_put (k0 : Nat) (hk0 : kd k0 = 6) (μ : TMem) (a1 : Int32) (a2 : Int32) (hv : k0 + 1 ≠ 43 ∨ rng a2) {Q : TMem → Prop} (h : ∀ μ9 : TMem, Zr 0 μ μ9 → Q μ9) : wp_X6_put k0 μ a1 a2 Q := by
  show (a1 < 0 → (Q μ)) ∧ (¬ a1 < 0 → (((nI (tl (k0 + 1))) ≤ a1 → (Q μ)) ∧ (¬ (nI (tl (k0 + 1))) ≤ a1 → (vp_in a1 (tl (k0 + 1)) ∧ (Q (tms μ (k0 + 1) a1.toNatClampNeg a2))))))
  refine ⟨fun c22 => ?_, fun c23 => ?_⟩
  · exact h _ (Zr.rf)
  · refine ⟨fun c24 => ?_, fun c25 => ?_⟩
    · exact h _ (Zr.rf)
    · have hv26 : vp_in a1 (tl (k0 + 1)) := (by first | exact vp_a (by assumption) (by assumption) (tl_s _) | exact vp_b (by assumption) (by assumption) (tl_s _) | exact vp_a (n := 4) (by assumption) (by assumption) (by decide) | exact vp_b (n := 4) (by assumption) (by assumption) (by decide) | exact vp_c (by assumption) (by assumption))
      refine ⟨hv26, ?_⟩
      exact h _ (Zr.st (Zr.rf) (by rw [show kd (k0 + 1) = 9 from (ka_6 hk0)] <;> rfl) hv)
set_option maxHeartbeats 2000000 in
theorem z_X3_numberOf (k2 : Nat) (hk2 : kd k2 = 5) (μ : TMem) (a1 : Int32) {Q : Int32 → TMem → Prop} (h : ∀ (r : Int32) (μ9 : TMem), Zr 2 μ μ9 → Q r μ9) : wp_X3_numberOf k2 μ a1 Q := by
  show wp_X6_find 16 μ a1 (μ k2 1) (fun (r1 : Int32) => (¬ r1 = (-1 : Int32) → (Q r1 μ)) ∧ (r1 = (-1 : Int32) → (((μ k2 1) < (32 : Int32) → (wp_X6_put 16 μ (μ k2 1) a1 (fun (μ6 : TMem) => Q (((tms μ6 k2 1 ((μ6 k2 1) + (1 : Int32))) k2 1) - (1 : Int32)) (tms μ6 k2 1 ((μ6 k2 1) + (1 : Int32)))))) ∧ (¬ (μ k2 1) < (32 : Int32) → (Q r1 μ)))))
  refine f_X6_find 16 rfl μ a1 (μ k2 1) (fun r1 => ?_)
  refine ⟨fun c40 => ?_, fun c41 => ?_⟩
  · exact h _ _ (Zr.rf)
  · refine ⟨fun c42 => ?_, fun c43 => ?_⟩
    · refine z_X6_put 16 rfl μ (μ k2 1) a1 (Or.inl (by decide)) (fun μ6 hf44 => ?_)
      exact h _ _ (Zr.st (Zr.trans (Zr.rf) (Zr.up (by decide) hf44)) (by rw [show kd k2 = 5 from hk2] <;> rfl) (Or.inl (ne43 (K := 5) hk2 (by decide))))
    · exact h _ _ (Zr.rf)
set_option maxHeartbeats 2000000 in
theorem zl_wpl_X3_makeOneWay_78 (μ0 : TMem) (k1 : Nat) (hk1 : kd k1 = 2) (k2 : Nat) (hk2 : kd k2 = 5) (v15 : Int32) (v16 : Int32) {K122 : TMem → Prop} {Q : Int32 → TMem → Prop} (hK122 : ∀ (u0 : TMem), Zr 2 μ0 u0 → K122 u0) (h : ∀ (r : Int32) (μ9 : TMem), isB r → Zr 2 μ0 μ9 → Q r μ9) : ∀ (n : Nat) (v14 : Int32) (μ17 : TMem), (((3 : Int32)).toInt - (v14).toInt).toNat < n → 0 ≤ (v14).toInt → Zr 2 μ0 μ17 → wpl_X3_makeOneWay_78 k1 k2 v15 v16 K122 Q n v14 μ17 := by
  intro n
  induction n with
  | zero => intro v14 μ17 hm; exact absurd hm (Nat.not_lt_zero _)
  | succ n ih =>
    intro v14 μ17 hm hi hF
    show ((3 : Int32) ≤ v14 → (K122 μ17)) ∧ (¬ (3 : Int32) ≤ v14 → (wp_X2_reach k1 μ17 v15 v14 (fun (r19 : Int32) => wp_X3_numberOf k2 μ17 r19 (fun (r23 : Int32) (μ22 : TMem) => (¬ r23 = (-1 : Int32) → (wp_X7_put k2 μ22 v16 v14 r23 (fun (μ25 : TMem) => wpl_X3_makeOneWay_78 k1 k2 v15 v16 K122 Q n (v14 + (1 : Int32)) μ25))) ∧ (r23 = (-1 : Int32) → (Q (0 : Int32) μ22))))))
    refine ⟨fun c_ex => ?_, fun c_in => ?_⟩
    · exact hK122 μ17 hF
    have c_lt : ¬ ((3 : Int32)) ≤ v14 := c_in
    refine f_X2_reach k1 hk1 μ17 v15 v14 (fun r19 => ?_)
    refine z_X3_numberOf k2 hk2 μ17 r19 (fun r23 μ22 hf45 => ?_)
    refine ⟨fun c46 => ?_, fun c47 => ?_⟩
    · refine z_X7_put k2 ⟨Or.inr hk2, kd5' hk2⟩ μ22 v16 v14 r23 (fun μ25 hf48 => ?_)
      exact ih (v14 + (1 : Int32)) μ25 (lt_m c_lt (by omega)) (lt_p (by assumption) c_lt) (Zr.trans (Zr.trans hF (Zr.up (by decide) hf45)) (Zr.up (by decide) hf48))
    · exact h _ _ (by first | assumption | exact Or.inl rfl | exact Or.inr rfl | exact isB_or (by assumption) (by first | assumption | exact Or.inl rfl | exact Or.inr rfl)) (Zr.trans hF (Zr.up (by decide) hf45))
set_option maxHeartbeats 2000000 in
theorem zl_wpl_X3_makeOneWay_24 (μ0 : TMem) (k1 : Nat) (hk1 : kd k1 = 2) (k2 : Nat) (hk2 : kd k2 = 5) {Q : Int32 → TMem → Prop} (h : ∀ (r : Int32) (μ9 : TMem), isB r → Zr 2 μ0 μ9 → Q r μ9) : ∀ (n : Nat) (v3 : Int32) (μ4 : TMem), (((32 : Int32)).toInt - (v3).toInt).toNat < n → 0 ≤ (v3).toInt → Zr 2 μ0 μ4 → wpl_X3_makeOneWay_24 k1 k2 Q n v3 μ4 := by
  intro n
  induction n with
  | zero => intro v3 μ4 hm; exact absurd hm (Nat.not_lt_zero _)
  | succ n ih =>
    intro v3 μ4 hm hi hF
    show ((32 : Int32) ≤ v3 → (Q (1 : Int32) μ4)) ∧ (¬ (32 : Int32) ≤ v3 → (((μ4 k2 1) ≤ v3 → (Q (1 : Int32) μ4)) ∧ (¬ (μ4 k2 1) ≤ v3 → (wp_X6_at 16 μ4 v3 (fun (r7 : Int32) => ∀ J10 : Int32 → Prop, (∀ (j11 : Int32), (wp_X9_withOrWithout (μ4 k2 2) v3 j11 (fun (r12 : Int32) => ∃ n12x, wpl_X3_makeOneWay_78 k1 k2 r7 v3 (fun (μ27 : TMem) => wpl_X3_makeOneWay_24 k1 k2 Q n (v3 + (1 : Int32)) μ27) Q n12x (0 : Int32) (tms μ4 k2 2 r12))) → J10 j11) → (((r7 &&& (μ4 k1 2)) = 0 → (J10 (0 : Int32))) ∧ (¬ (r7 &&& (μ4 k1 2)) = 0 → (J10 (1 : Int32)))))))))
    refine ⟨fun c_ex => ?_, fun c_in => ?_⟩
    · exact h _ _ (by first | assumption | exact Or.inl rfl | exact Or.inr rfl | exact isB_or (by assumption) (by first | assumption | exact Or.inl rfl | exact Or.inr rfl)) hF
    have c_lt : ¬ ((32 : Int32)) ≤ v3 := c_in
    refine ⟨fun c49 => ?_, fun c50 => ?_⟩
    · exact h _ _ (by first | assumption | exact Or.inl rfl | exact Or.inr rfl | exact isB_or (by assumption) (by first | assumption | exact Or.inl rfl | exact Or.inr rfl)) hF
    · refine f_X6_at 16 rfl μ4 v3 (fun r7 => ?_)
      intro J10 hJ10
      refine ⟨fun c51 => ?_, fun c52 => ?_⟩
      · refine hJ10 (0 : Int32) ?_
        refine f_X9_withOrWithout (μ4 k2 2) v3 (0 : Int32) (fun r12 => ?_)
        refine ⟨_, zl_wpl_X3_makeOneWay_78 (tms μ4 k2 2 r12) k1 hk1 k2 hk2 r7 v3 ?_ (fun r9 μ9 b9 f9 => h r9 μ9 b9 (Zr.trans (Zr.st hF (by rw [show kd k2 = 5 from hk2] <;> rfl) (Or.inl (ne43 (K := 5) hk2 (by decide)))) (Zr.up (by decide) f9))) _ (0 : Int32) (tms μ4 k2 2 r12) (Nat.lt_succ_self _) (by first | decide | omega) Zr.rf⟩
        · intro μ27 hf53
          exact ih (v3 + (1 : Int32)) μ27 (lt_m c_lt (by omega)) (lt_p (by assumption) c_lt) (Zr.trans (Zr.st hF (by rw [show kd k2 = 5 from hk2] <;> rfl) (Or.inl (ne43 (K := 5) hk2 (by decide)))) (Zr.up (by decide) hf53))
      · refine hJ10 (1 : Int32) ?_
        refine f_X9_withOrWithout (μ4 k2 2) v3 (1 : Int32) (fun r12 => ?_)
        refine ⟨_, zl_wpl_X3_makeOneWay_78 (tms μ4 k2 2 r12) k1 hk1 k2 hk2 r7 v3 ?_ (fun r9 μ9 b9 f9 => h r9 μ9 b9 (Zr.trans (Zr.st hF (by rw [show kd k2 = 5 from hk2] <;> rfl) (Or.inl (ne43 (K := 5) hk2 (by decide)))) (Zr.up (by decide) f9))) _ (0 : Int32) (tms μ4 k2 2 r12) (Nat.lt_succ_self _) (by first | decide | omega) Zr.rf⟩
        · intro μ27 hf54
          exact ih (v3 + (1 : Int32)) μ27 (lt_m c_lt (by omega)) (lt_p (by assumption) c_lt) (Zr.trans (Zr.st hF (by rw [show kd k2 = 5 from hk2] <;> rfl) (Or.inl (ne43 (K := 5) hk2 (by decide)))) (Zr.up (by decide) hf54))
set_option maxHeartbeats 2000000 in
theorem z_X3_makeOneWay (k1 : Nat) (hk1 : kd k1 = 2) (k2 : Nat) (hk2 : kd k2 = 5) (μ : TMem)  {Q : Int32 → TMem → Prop} (h : ∀ (r : Int32) (μ9 : TMem), isB r → Zr 2 μ μ9 → Q r μ9) : wp_X3_makeOneWay k1 k2 μ Q := by
  show wp_X6_put 16 μ (0 : Int32) (μ k1 3) (fun (μ1 : TMem) => ∃ n1x, wpl_X3_makeOneWay_24 k1 k2 Q n1x (0 : Int32) (tms (tms μ1 k2 1 (1 : Int32)) k2 2 (0 : Int32)))
  refine z_X6_put 16 rfl μ (0 : Int32) (μ k1 3) (Or.inl (by decide)) (fun μ1 hf55 => ?_)
  refine ⟨_, zl_wpl_X3_makeOneWay_24 (tms (tms μ1 k2 1 (1 : Int32)) k2 2 (0 : Int32)) k1 hk1 k2 hk2 (fun r9 μ9 b9 f9 => h r9 μ9 b9 (Zr.trans (Zr.st (Zr.st (Zr.trans (Zr.rf) (Zr.up (by decide) hf55)) (by rw [show kd k2 = 5 from hk2] <;> rfl) (Or.inl (ne43 (K := 5) hk2 (by decide)))) (by rw [show kd k2 = 5 from hk2] <;> rfl) (Or.inl (ne43 (K := 5) hk2 (by decide)))) (Zr.up (by decide) f9))) _ (0 : Int32) (tms (tms μ1 k2 1 (1 : Int32)) k2 2 (0 : Int32)) (Nat.lt_succ_self _) (by first | decide | omega) Zr.rf⟩
set_option maxHeartbeats 2000000 in
theorem zl_wpl_X6_fill_2 (μ0 : TMem) (k0 : Nat) (hk0 : kd k0 = 6) (v3 : Int32) {Q : TMem → Prop} (h : ∀ μ9 : TMem, Zr 0 μ0 μ9 → Q μ9) (hv : k0 + 1 ≠ 43) : ∀ (n : Nat) (v2 : Int32) (μ4 : TMem), (((nI (tl (k0 + 1)))).toInt - (v2).toInt).toNat < n → 0 ≤ (v2).toInt → Zr 0 μ0 μ4 → wpl_X6_fill_2 k0 v3 Q n v2 μ4 := by
  intro n
  induction n with
  | zero => intro v2 μ4 hm; exact absurd hm (Nat.not_lt_zero _)
  | succ n ih =>
    intro v2 μ4 hm hi hF
    show ((nI (tl (k0 + 1))) ≤ v2 → (Q μ4)) ∧ (¬ (nI (tl (k0 + 1))) ≤ v2 → (vp_in v2 (tl (k0 + 1)) ∧ (wpl_X6_fill_2 k0 v3 Q n (v2 + (1 : Int32)) (tms μ4 (k0 + 1) v2.toNatClampNeg v3))))
    refine ⟨fun c_ex => ?_, fun c_in => ?_⟩
    · exact h _ hF
    have c_lt : ¬ ((nI (tl (k0 + 1)))) ≤ v2 := c_in
    have hv56 : vp_in v2 (tl (k0 + 1)) := (by first | exact vp_a (by assumption) (by assumption) (tl_s _) | exact vp_b (by assumption) (by assumption) (tl_s _) | exact vp_a (n := 4) (by assumption) (by assumption) (by decide) | exact vp_b (n := 4) (by assumption) (by assumption) (by decide) | exact vp_c (by assumption) (by assumption))
    refine ⟨hv56, ?_⟩
    exact ih (v2 + (1 : Int32)) (tms μ4 (k0 + 1) v2.toNatClampNeg v3) (lt_m c_lt (by omega)) (lt_p (by assumption) c_lt) (Zr.st hF (by rw [show kd (k0 + 1) = 9 from (ka_6 hk0)] <;> rfl) (Or.inl hv))
set_option maxHeartbeats 2000000 in
theorem z_X6_fill (k0 : Nat) (hk0 : kd k0 = 6) (μ : TMem) (a1 : Int32) (hv : k0 + 1 ≠ 43) {Q : TMem → Prop} (h : ∀ μ9 : TMem, Zr 0 μ μ9 → Q μ9) : wp_X6_fill k0 μ a1 Q := by
  show ∃ n0x, wpl_X6_fill_2 k0 a1 Q n0x (0 : Int32) μ
  refine ⟨_, zl_wpl_X6_fill_2 μ k0 hk0 a1 (fun μ9 f9 => h μ9 (Zr.trans (Zr.rf) (Zr.up (by decide) f9))) hv _ (0 : Int32) μ (Nat.lt_succ_self _) (by first | decide | omega) Zr.rf⟩
set_option maxHeartbeats 2000000 in
theorem z_X4_add (μ : TMem) (a1 : Int32) (a2 : Int32) (a3 : Int32) (a4 : Int32) (hv : rng a4) {Q : TMem → Prop} (h : ∀ μ9 : TMem, Zr 1 μ μ9 → Q μ9) : wp_X4_add μ a1 a2 a3 a4 Q := by
  show wp_X6_put 36 μ (μ 35 8) a1 (fun (μ1 : TMem) => wp_X6_put 38 μ1 (μ1 35 8) a2 (fun (μ2 : TMem) => wp_X6_put 40 μ2 (μ2 35 8) a3 (fun (μ3 : TMem) => wp_X6_put 42 μ3 (μ3 35 8) a4 (fun (μ4 : TMem) => wp_X6_put 46 μ4 ((a1 * (32 : Int32)) + a2) (μ4 35 8) (fun (μ5 : TMem) => (¬ (μ5 35 9) = (-1 : Int32) → (Q (tms μ5 35 8 ((μ5 35 8) + (1 : Int32))))) ∧ ((μ5 35 9) = (-1 : Int32) → (wp_X4_isGoal μ5 (μ5 35 8) (3 : Int32) (fun (r7 : Int32) => (r7 = 0 → (Q (tms μ5 35 8 ((μ5 35 8) + (1 : Int32))))) ∧ (¬ r7 = 0 → (Q (tms (tms μ5 35 9 (μ5 35 8)) 35 8 (((tms μ5 35 9 (μ5 35 8)) 35 8) + (1 : Int32)))))))))))))
  refine z_X6_put 36 rfl μ (μ 35 8) a1 (Or.inl (by decide)) (fun μ1 hf79 => ?_)
  refine z_X6_put 38 rfl μ1 (μ1 35 8) a2 (Or.inl (by decide)) (fun μ2 hf80 => ?_)
  refine z_X6_put 40 rfl μ2 (μ2 35 8) a3 (Or.inl (by decide)) (fun μ3 hf81 => ?_)
  refine z_X6_put 42 rfl μ3 (μ3 35 8) a4 (Or.inr hv) (fun μ4 hf82 => ?_)
  refine z_X6_put 46 rfl μ4 ((a1 * (32 : Int32)) + a2) (μ4 35 8) (Or.inl (by decide)) (fun μ5 hf83 => ?_)
  refine ⟨fun c84 => ?_, fun c85 => ?_⟩
  · exact h _ (Zr.st (Zr.trans (Zr.trans (Zr.trans (Zr.trans (Zr.trans (Zr.rf) (Zr.up (by decide) hf79)) (Zr.up (by decide) hf80)) (Zr.up (by decide) hf81)) (Zr.up (by decide) hf82)) (Zr.up (by decide) hf83)) (by rw [show kd 35 = 4 from rfl] <;> rfl) (Or.inl (ne43 (K := 4) rfl (by decide))))
  · refine f_X4_isGoal μ5 (μ5 35 8) (3 : Int32) (fun r7 b86 => ?_)
    refine ⟨fun c87 => ?_, fun c88 => ?_⟩
    · exact h _ (Zr.st (Zr.trans (Zr.trans (Zr.trans (Zr.trans (Zr.trans (Zr.rf) (Zr.up (by decide) hf79)) (Zr.up (by decide) hf80)) (Zr.up (by decide) hf81)) (Zr.up (by decide) hf82)) (Zr.up (by decide) hf83)) (by rw [show kd 35 = 4 from rfl] <;> rfl) (Or.inl (ne43 (K := 4) rfl (by decide))))
    · exact h _ (Zr.st (Zr.st (Zr.trans (Zr.trans (Zr.trans (Zr.trans (Zr.trans (Zr.rf) (Zr.up (by decide) hf79)) (Zr.up (by decide) hf80)) (Zr.up (by decide) hf81)) (Zr.up (by decide) hf82)) (Zr.up (by decide) hf83)) (by rw [show kd 35 = 4 from rfl] <;> rfl) (Or.inl (ne43 (K := 4) rfl (by decide)))) (by rw [show kd 35 = 4 from rfl] <;> rfl) (Or.inl (ne43 (K := 4) rfl (by decide))))
set_option maxHeartbeats 2000000 in
theorem zl_wpl_X4_meet_63 (μ0 : TMem) (k1 : Nat) (hk1 : kd k1 = 5) (k2 : Nat) (hk2 : kd k2 = 5) (v12 : Int32) (v13 : Int32) (v14 : Int32) {K194 : TMem → Prop} {Q : Int32 → TMem → Prop} (hK194 : ∀ (u0 : TMem), Zr 1 μ0 u0 → K194 u0) (h : ∀ (r : Int32) (μ9 : TMem), isB r → Zr 1 μ0 μ9 → Q r μ9) : ∀ (n : Nat) (v11 : Int32) (μ15 : TMem), (((3 : Int32)).toInt - (v11).toInt).toNat < n → 0 ≤ (v11).toInt → Zr 1 μ0 μ15 → wpl_X4_meet_63 k1 k2 v12 v13 v14 K194 Q n v11 μ15 := by
  intro n
  induction n with
  | zero => intro v11 μ15 hm; exact absurd hm (Nat.not_lt_zero _)
  | succ n ih =>
    intro v11 μ15 hm hi hF
    show ((3 : Int32) ≤ v11 → (K194 μ15)) ∧ (¬ (3 : Int32) ≤ v11 → (((μ15 35 9) = (-1 : Int32) → (wp_X6_at 36 μ15 v12 (fun (r18 : Int32) => wp_X7_at k1 μ15 r18 v11 (fun (r21 : Int32) => wp_X6_at 38 μ15 v12 (fun (r24 : Int32) => wp_X7_at k2 μ15 r24 v11 (fun (r27 : Int32) => wp_X6_at 46 μ15 ((r21 * (32 : Int32)) + r27) (fun (r30 : Int32) => (¬ r30 = (-1 : Int32) → (wp_X6_at 46 μ15 ((r21 * (32 : Int32)) + r27) (fun (r34 : Int32) => wp_X6_put 44 μ15 ((v12 * (3 : Int32)) + v11) r34 (fun (μ37 : TMem) => wpl_X4_meet_63 k1 k2 v12 v13 v14 K194 Q n (v11 + (1 : Int32)) μ37)))) ∧ (r30 = (-1 : Int32) → (((μ15 35 8) < v13 → (wp_X4_add μ15 r21 r27 v12 v11 (fun (μ39 : TMem) => wp_X6_at 46 μ39 ((r21 * (32 : Int32)) + r27) (fun (r40 : Int32) => wp_X6_put 44 μ39 ((v12 * (3 : Int32)) + v11) r40 (fun (μ43 : TMem) => wpl_X4_meet_63 k1 k2 v12 v13 v14 K194 Q n (v11 + (1 : Int32)) μ43))))) ∧ (¬ (μ15 35 8) < v13 → (Q (0 : Int32) μ15))))))))))) ∧ (¬ (μ15 35 9) = (-1 : Int32) → ((¬ v14 = 0 → (wp_X6_at 36 μ15 v12 (fun (r45 : Int32) => wp_X7_at k1 μ15 r45 v11 (fun (r48 : Int32) => wp_X6_at 38 μ15 v12 (fun (r51 : Int32) => wp_X7_at k2 μ15 r51 v11 (fun (r54 : Int32) => wp_X6_at 46 μ15 ((r48 * (32 : Int32)) + r54) (fun (r57 : Int32) => (¬ r57 = (-1 : Int32) → (wp_X6_at 46 μ15 ((r48 * (32 : Int32)) + r54) (fun (r61 : Int32) => wp_X6_put 44 μ15 ((v12 * (3 : Int32)) + v11) r61 (fun (μ64 : TMem) => wpl_X4_meet_63 k1 k2 v12 v13 v14 K194 Q n (v11 + (1 : Int32)) μ64)))) ∧ (r57 = (-1 : Int32) → (((μ15 35 8) < v13 → (wp_X4_add μ15 r48 r54 v12 v11 (fun (μ66 : TMem) => wp_X6_at 46 μ66 ((r48 * (32 : Int32)) + r54) (fun (r67 : Int32) => wp_X6_put 44 μ66 ((v12 * (3 : Int32)) + v11) r67 (fun (μ70 : TMem) => wpl_X4_meet_63 k1 k2 v12 v13 v14 K194 Q n (v11 + (1 : Int32)) μ70))))) ∧ (¬ (μ15 35 8) < v13 → (Q (0 : Int32) μ15))))))))))) ∧ (v14 = 0 → (Q (1 : Int32) μ15))))))
    refine ⟨fun c_ex => ?_, fun c_in => ?_⟩
    · exact hK194 μ15 hF
    have c_lt : ¬ ((3 : Int32)) ≤ v11 := c_in
    refine ⟨fun c89 => ?_, fun c90 => ?_⟩
    · refine f_X6_at 36 rfl μ15 v12 (fun r18 => ?_)
      refine f_X7_at k1 (Or.inr hk1) μ15 r18 v11 (fun r21 => ?_)
      refine f_X6_at 38 rfl μ15 v12 (fun r24 => ?_)
      refine f_X7_at k2 (Or.inr hk2) μ15 r24 v11 (fun r27 => ?_)
      refine f_X6_at 46 rfl μ15 ((r21 * (32 : Int32)) + r27) (fun r30 => ?_)
      refine ⟨fun c91 => ?_, fun c92 => ?_⟩
      · refine f_X6_at 46 rfl μ15 ((r21 * (32 : Int32)) + r27) (fun r34 => ?_)
        refine z_X6_put 44 rfl μ15 ((v12 * (3 : Int32)) + v11) r34 (Or.inl (by decide)) (fun μ37 hf93 => ?_)
        exact ih (v11 + (1 : Int32)) μ37 (lt_m c_lt (by omega)) (lt_p (by assumption) c_lt) (Zr.trans hF (Zr.up (by decide) hf93))
      · refine ⟨fun c94 => ?_, fun c95 => ?_⟩
        · refine z_X4_add μ15 r21 r27 v12 v11 (rng3 hi c_lt) (fun μ39 hf96 => ?_)
          refine f_X6_at 46 rfl μ39 ((r21 * (32 : Int32)) + r27) (fun r40 => ?_)
          refine z_X6_put 44 rfl μ39 ((v12 * (3 : Int32)) + v11) r40 (Or.inl (by decide)) (fun μ43 hf97 => ?_)
          exact ih (v11 + (1 : Int32)) μ43 (lt_m c_lt (by omega)) (lt_p (by assumption) c_lt) (Zr.trans (Zr.trans hF (Zr.up (by decide) hf96)) (Zr.up (by decide) hf97))
        · exact h _ _ (by first | assumption | exact Or.inl rfl | exact Or.inr rfl | exact isB_or (by assumption) (by first | assumption | exact Or.inl rfl | exact Or.inr rfl)) hF
    · refine ⟨fun c98 => ?_, fun c99 => ?_⟩
      · refine f_X6_at 36 rfl μ15 v12 (fun r45 => ?_)
        refine f_X7_at k1 (Or.inr hk1) μ15 r45 v11 (fun r48 => ?_)
        refine f_X6_at 38 rfl μ15 v12 (fun r51 => ?_)
        refine f_X7_at k2 (Or.inr hk2) μ15 r51 v11 (fun r54 => ?_)
        refine f_X6_at 46 rfl μ15 ((r48 * (32 : Int32)) + r54) (fun r57 => ?_)
        refine ⟨fun c100 => ?_, fun c101 => ?_⟩
        · refine f_X6_at 46 rfl μ15 ((r48 * (32 : Int32)) + r54) (fun r61 => ?_)
          refine z_X6_put 44 rfl μ15 ((v12 * (3 : Int32)) + v11) r61 (Or.inl (by decide)) (fun μ64 hf102 => ?_)
          exact ih (v11 + (1 : Int32)) μ64 (lt_m c_lt (by omega)) (lt_p (by assumption) c_lt) (Zr.trans hF (Zr.up (by decide) hf102))
        · refine ⟨fun c103 => ?_, fun c104 => ?_⟩
          · refine z_X4_add μ15 r48 r54 v12 v11 (rng3 hi c_lt) (fun μ66 hf105 => ?_)
            refine f_X6_at 46 rfl μ66 ((r48 * (32 : Int32)) + r54) (fun r67 => ?_)
            refine z_X6_put 44 rfl μ66 ((v12 * (3 : Int32)) + v11) r67 (Or.inl (by decide)) (fun μ70 hf106 => ?_)
            exact ih (v11 + (1 : Int32)) μ70 (lt_m c_lt (by omega)) (lt_p (by assumption) c_lt) (Zr.trans (Zr.trans hF (Zr.up (by decide) hf105)) (Zr.up (by decide) hf106))
          · exact h _ _ (by first | assumption | exact Or.inl rfl | exact Or.inr rfl | exact isB_or (by assumption) (by first | assumption | exact Or.inl rfl | exact Or.inr rfl)) hF
      · exact h _ _ (by first | assumption | exact Or.inl rfl | exact Or.inr rfl | exact isB_or (by assumption) (by first | assumption | exact Or.inl rfl | exact Or.inr rfl)) hF
set_option maxHeartbeats 2000000 in
theorem zl_wpl_X4_meet_45 (μ0 : TMem) (k1 : Nat) (hk1 : kd k1 = 5) (k2 : Nat) (hk2 : kd k2 = 5) (v5 : Int32) (v6 : Int32) {Q : Int32 → TMem → Prop} (h : ∀ (r : Int32) (μ9 : TMem), isB r → Zr 1 μ0 μ9 → Q r μ9) : ∀ (n : Nat) (v4 : Int32) (μ7 : TMem), ((v5).toInt - (v4).toInt).toNat < n → 0 ≤ (v4).toInt → Zr 1 μ0 μ7 → wpl_X4_meet_45 k1 k2 v5 v6 Q n v4 μ7 := by
  intro n
  induction n with
  | zero => intro v4 μ7 hm; exact absurd hm (Nat.not_lt_zero _)
  | succ n ih =>
    intro v4 μ7 hm hi hF
    show (v5 ≤ v4 → (Q (1 : Int32) μ7)) ∧ (¬ v5 ≤ v4 → (((μ7 35 8) ≤ v4 → (Q (1 : Int32) μ7)) ∧ (¬ (μ7 35 8) ≤ v4 → (∃ n9x, wpl_X4_meet_63 k1 k2 v4 v5 v6 (fun (μ72 : TMem) => wpl_X4_meet_45 k1 k2 v5 v6 Q n (v4 + (1 : Int32)) μ72) Q n9x (0 : Int32) μ7))))
    refine ⟨fun c_ex => ?_, fun c_in => ?_⟩
    · exact h _ _ (by first | assumption | exact Or.inl rfl | exact Or.inr rfl | exact isB_or (by assumption) (by first | assumption | exact Or.inl rfl | exact Or.inr rfl)) hF
    have c_lt : ¬ (v5) ≤ v4 := c_in
    refine ⟨fun c107 => ?_, fun c108 => ?_⟩
    · exact h _ _ (by first | assumption | exact Or.inl rfl | exact Or.inr rfl | exact isB_or (by assumption) (by first | assumption | exact Or.inl rfl | exact Or.inr rfl)) hF
    · refine ⟨_, zl_wpl_X4_meet_63 μ7 k1 hk1 k2 hk2 v4 v5 v6 ?_ (fun r9 μ9 b9 f9 => h r9 μ9 b9 (Zr.trans hF (Zr.up (by decide) f9))) _ (0 : Int32) μ7 (Nat.lt_succ_self _) (by first | decide | omega) Zr.rf⟩
      · intro μ72 hf109
        exact ih (v4 + (1 : Int32)) μ72 (lt_m c_lt (by omega)) (lt_p (by assumption) c_lt) (Zr.trans hF (Zr.up (by decide) hf109))
set_option maxHeartbeats 2000000 in
theorem z_X4_meet (k1 : Nat) (hk1 : kd k1 = 5) (k2 : Nat) (hk2 : kd k2 = 5) (μ : TMem) (a3 : Int32) (a4 : Int32) {Q : Int32 → TMem → Prop} (h : ∀ (r : Int32) (μ9 : TMem), isB r → Zr 1 μ μ9 → Q r μ9) : wp_X4_meet k1 k2 μ a3 a4 Q := by
  show wp_X6_fill 46 μ (-1 : Int32) (fun (μ1 : TMem) => wp_X4_add (tms (tms (tms (tms μ1 35 6 (μ1 k1 2)) 35 7 ((tms μ1 35 6 (μ1 k1 2)) k2 2)) 35 8 (0 : Int32)) 35 9 (-1 : Int32)) (0 : Int32) (0 : Int32) (-1 : Int32) (-1 : Int32) (fun (μ2 : TMem) => ∃ n2x, wpl_X4_meet_45 k1 k2 a3 a4 Q n2x (0 : Int32) μ2))
  refine z_X6_fill 46 rfl μ (-1 : Int32) (by decide) (fun μ1 hf110 => ?_)
  refine z_X4_add (tms (tms (tms (tms μ1 35 6 (μ1 k1 2)) 35 7 ((tms μ1 35 6 (μ1 k1 2)) k2 2)) 35 8 (0 : Int32)) 35 9 (-1 : Int32)) (0 : Int32) (0 : Int32) (-1 : Int32) (-1 : Int32) ⟨by decide, by decide⟩ (fun μ2 hf111 => ?_)
  refine ⟨_, zl_wpl_X4_meet_45 μ2 k1 hk1 k2 hk2 a3 a4 (fun r9 μ9 b9 f9 => h r9 μ9 b9 (Zr.trans (Zr.trans (Zr.st (Zr.st (Zr.st (Zr.st (Zr.trans (Zr.rf) (Zr.up (by decide) hf110)) (by rw [show kd 35 = 4 from rfl] <;> rfl) (Or.inl (ne43 (K := 4) rfl (by decide)))) (by rw [show kd 35 = 4 from rfl] <;> rfl) (Or.inl (ne43 (K := 4) rfl (by decide)))) (by rw [show kd 35 = 4 from rfl] <;> rfl) (Or.inl (ne43 (K := 4) rfl (by decide)))) (by rw [show kd 35 = 4 from rfl] <;> rfl) (Or.inl (ne43 (K := 4) rfl (by decide)))) (Zr.up (by decide) hf111)) (Zr.up (by decide) f9))) _ (0 : Int32) μ2 (Nat.lt_succ_self _) (by first | decide | omega) Zr.rf⟩
set_option maxHeartbeats 2000000 in
theorem z_X9_meetPairs (k1 : Nat) (hk1 : kd k1 = 2) (k2 : Nat) (hk2 : kd k2 = 2) (μ : TMem) (a3 : Int32) (a4 : Int32) {Q : Int32 → TMem → Prop} (h : ∀ (r : Int32) (μ9 : TMem), isB r → Zr 2 μ μ9 → Q r μ9) : wp_X9_meetPairs k1 k2 μ a3 a4 Q := by
  show wp_X3_makeOneWay k1 51 μ (fun (r2 : Int32) (μ1 : TMem) => (r2 = 0 → (Q (0 : Int32) μ1)) ∧ (¬ r2 = 0 → (wp_X3_makeOneWay k2 53 μ1 (fun (r5 : Int32) (μ4 : TMem) => (r5 = 0 → (Q (0 : Int32) μ4)) ∧ (¬ r5 = 0 → (wp_X4_meet 51 53 μ4 a3 a4 (fun (r8 : Int32) (μ7 : TMem) => (r8 = 0 → (Q (0 : Int32) μ7)) ∧ (¬ r8 = 0 → (Q (1 : Int32) μ7)))))))))
  refine z_X3_makeOneWay k1 hk1 51 rfl μ (fun r2 μ1 b112 hf113 => ?_)
  refine ⟨fun c114 => ?_, fun c115 => ?_⟩
  · exact h _ _ (by first | assumption | exact Or.inl rfl | exact Or.inr rfl | exact isB_or (by assumption) (by first | assumption | exact Or.inl rfl | exact Or.inr rfl)) (Zr.trans (Zr.rf) (Zr.up (by decide) hf113))
  · refine z_X3_makeOneWay k2 hk2 53 rfl μ1 (fun r5 μ4 b116 hf117 => ?_)
    refine ⟨fun c118 => ?_, fun c119 => ?_⟩
    · exact h _ _ (by first | assumption | exact Or.inl rfl | exact Or.inr rfl | exact isB_or (by assumption) (by first | assumption | exact Or.inl rfl | exact Or.inr rfl)) (Zr.trans (Zr.trans (Zr.rf) (Zr.up (by decide) hf113)) (Zr.up (by decide) hf117))
    · refine z_X4_meet 51 rfl 53 rfl μ4 a3 a4 (fun r8 μ7 b120 hf121 => ?_)
      refine ⟨fun c122 => ?_, fun c123 => ?_⟩
      · exact h _ _ (by first | assumption | exact Or.inl rfl | exact Or.inr rfl | exact isB_or (by assumption) (by first | assumption | exact Or.inl rfl | exact Or.inr rfl)) (Zr.trans (Zr.trans (Zr.trans (Zr.rf) (Zr.up (by decide) hf113)) (Zr.up (by decide) hf117)) (Zr.up (by decide) hf121))
      · exact h _ _ (by first | assumption | exact Or.inl rfl | exact Or.inr rfl | exact isB_or (by assumption) (by first | assumption | exact Or.inl rfl | exact Or.inr rfl)) (Zr.trans (Zr.trans (Zr.trans (Zr.rf) (Zr.up (by decide) hf113)) (Zr.up (by decide) hf117)) (Zr.up (by decide) hf121))
set_option maxHeartbeats 2000000 in
theorem zl_wpl_X5_becomePairs_44 (μ0 : TMem) (k0 : Nat) (hk0 : kd k0 = 5) (v12 : Int32) (v13 : Int32) {K70 : TMem → Prop} (hK70 : ∀ (u0 : TMem), Zr 0 μ0 u0 → K70 u0) : ∀ (n : Nat) (v11 : Int32) (μ14 : TMem), (((3 : Int32)).toInt - (v11).toInt).toNat < n → 0 ≤ (v11).toInt → Zr 0 μ0 μ14 → wpl_X5_becomePairs_44 k0 v12 v13 K70 n v11 μ14 := by
  intro n
  induction n with
  | zero => intro v11 μ14 hm; exact absurd hm (Nat.not_lt_zero _)
  | succ n ih =>
    intro v11 μ14 hm hi hF
    show ((3 : Int32) ≤ v11 → (K70 μ14)) ∧ (¬ (3 : Int32) ≤ v11 → (wp_X4_target μ14 v12 v11 (fun (r16 : Int32) => wp_X7_put k0 μ14 v12 v11 r16 (fun (μ19 : TMem) => wpl_X5_becomePairs_44 k0 v12 v13 K70 n (v11 + (1 : Int32)) μ19))))
    refine ⟨fun c_ex => ?_, fun c_in => ?_⟩
    · exact hK70 μ14 hF
    have c_lt : ¬ ((3 : Int32)) ≤ v11 := c_in
    refine f_X4_target μ14 v12 v11 (fun r16 => ?_)
    refine z_X7_put k0 ⟨Or.inr hk0, kd5' hk0⟩ μ14 v12 v11 r16 (fun μ19 hf124 => ?_)
    exact ih (v11 + (1 : Int32)) μ19 (lt_m c_lt (by omega)) (lt_p (by assumption) c_lt) (Zr.trans hF (Zr.up (by decide) hf124))
set_option maxHeartbeats 2000000 in
theorem zl_wpl_X5_becomePairs_15 (μ0 : TMem) (k0 : Nat) (hk0 : kd k0 = 5) (v3 : Int32) {Q : TMem → Prop} (h : ∀ μ9 : TMem, Zr 1 μ0 μ9 → Q μ9) : ∀ (n : Nat) (v2 : Int32) (μ4 : TMem), (((μ0 k0 1)).toInt - (v2).toInt).toNat < n → 0 ≤ (v2).toInt → Zr 1 μ0 μ4 → wpl_X5_becomePairs_15 k0 v3 Q n v2 μ4 := by
  intro n
  induction n with
  | zero => intro v2 μ4 hm; exact absurd hm (Nat.not_lt_zero _)
  | succ n ih =>
    intro v2 μ4 hm hi hF
    show ((μ4 k0 1) ≤ v2 → (Q μ4)) ∧ (¬ (μ4 k0 1) ≤ v2 → (wp_X4_isGoal μ4 v2 v3 (fun (r6 : Int32) => wp_X9_withOrWithout (μ4 k0 2) v2 r6 (fun (r9 : Int32) => ∃ n9x, wpl_X5_becomePairs_44 k0 v2 v3 (fun (μ21 : TMem) => wpl_X5_becomePairs_15 k0 v3 Q n (v2 + (1 : Int32)) μ21) n9x (0 : Int32) (tms μ4 k0 2 r9)))))
    refine ⟨fun c_ex => ?_, fun c_in => ?_⟩
    · exact h _ hF
    have e_k0_1 : μ4 k0 1 = μ0 k0 1 := hF.1.1 k0 1 (by rw [show kd k0 = 5 from hk0] <;> rfl)
    have c_lt : ¬ ((μ0 k0 1)) ≤ v2 := by
      rw [e_k0_1] at c_in
      exact c_in
    refine f_X4_isGoal μ4 v2 v3 (fun r6 b125 => ?_)
    refine f_X9_withOrWithout (μ4 k0 2) v2 r6 (fun r9 => ?_)
    refine ⟨_, zl_wpl_X5_becomePairs_44 (tms μ4 k0 2 r9) k0 hk0 v2 v3 ?_ _ (0 : Int32) (tms μ4 k0 2 r9) (Nat.lt_succ_self _) (by first | decide | omega) Zr.rf⟩
    · intro μ21 hf126
      exact ih (v2 + (1 : Int32)) μ21 (lt_m c_lt (by omega)) (lt_p (by assumption) c_lt) (Zr.trans (Zr.st hF (by rw [show kd k0 = 5 from hk0] <;> rfl) (Or.inl (ne43 (K := 5) hk0 (by decide)))) (Zr.up (by decide) hf126))
set_option maxHeartbeats 2000000 in
theorem z_X5_becomePairs (k0 : Nat) (hk0 : kd k0 = 5) (μ : TMem) (a2 : Int32) {Q : TMem → Prop} (h : ∀ μ9 : TMem, Zr 2 μ μ9 → Q μ9) : wp_X5_becomePairs k0 μ a2 Q := by
  show ∃ n0x, wpl_X5_becomePairs_15 k0 a2 Q n0x (0 : Int32) (tms (tms μ k0 1 (μ 35 8)) k0 2 (0 : Int32))
  refine ⟨_, zl_wpl_X5_becomePairs_15 (tms (tms μ k0 1 (μ 35 8)) k0 2 (0 : Int32)) k0 hk0 a2 (fun μ9 f9 => h μ9 (Zr.trans (Zr.st (Zr.st (Zr.rf) (by rw [show kd k0 = 5 from hk0] <;> rfl) (Or.inl (ne43 (K := 5) hk0 (by decide)))) (by rw [show kd k0 = 5 from hk0] <;> rfl) (Or.inl (ne43 (K := 5) hk0 (by decide)))) (Zr.up (by decide) f9))) _ (0 : Int32) (tms (tms μ k0 1 (μ 35 8)) k0 2 (0 : Int32)) (Nat.lt_succ_self _) (by first | decide | omega) Zr.rf⟩
set_option maxHeartbeats 2000000 in
theorem zl_wpl_X1_partOnce_2 (μ0 : TMem) (k1 : Nat) (hk1 : kd k1 = 5) {K30 : TMem → Prop} (hK30 : ∀ (u0 : TMem), Zr 0 μ0 u0 → K30 u0) : ∀ (n : Nat) (v2 : Int32) (μ3 : TMem), (((μ0 k1 1)).toInt - (v2).toInt).toNat < n → 0 ≤ (v2).toInt → Zr 0 μ0 μ3 → wpl_X1_partOnce_2 k1 K30 n v2 μ3 := by
  intro n
  induction n with
  | zero => intro v2 μ3 hm; exact absurd hm (Nat.not_lt_zero _)
  | succ n ih =>
    intro v2 μ3 hm hi hF
    show ((μ3 k1 1) ≤ v2 → (K30 μ3)) ∧ (¬ (μ3 k1 1) ≤ v2 → (wp_X1_codeOf k1 μ3 v2 (fun (r5 : Int32) => wp_X6_put 25 μ3 v2 r5 (fun (μ8 : TMem) => wpl_X1_partOnce_2 k1 K30 n (v2 + (1 : Int32)) μ8))))
    refine ⟨fun c_ex => ?_, fun c_in => ?_⟩
    · exact hK30 μ3 hF
    have e_k1_1 : μ3 k1 1 = μ0 k1 1 := hF.1.1 k1 1 (by rw [show kd k1 = 5 from hk1] <;> rfl)
    have c_lt : ¬ ((μ0 k1 1)) ≤ v2 := by
      rw [e_k1_1] at c_in
      exact c_in
    refine f_X1_codeOf k1 hk1 μ3 v2 (fun r5 => ?_)
    refine z_X6_put 25 rfl μ3 v2 r5 (Or.inl (by decide)) (fun μ8 hf132 => ?_)
    exact ih (v2 + (1 : Int32)) μ8 (lt_m c_lt (by omega)) (lt_p (by assumption) c_lt) (Zr.trans hF (Zr.up (by decide) hf132))
set_option maxHeartbeats 2000000 in
theorem zl_wpl_X1_partOnce_34 (μ0 : TMem) (k1 : Nat) (hk1 : kd k1 = 5) {Q : Int32 → TMem → Prop} (h : ∀ (r : Int32) (μ9 : TMem), isB r → Zr 0 μ0 μ9 → Q r μ9) : ∀ (n : Nat) (v12 : Int32) (v13 : Int32) (μ14 : TMem), (((μ0 k1 1)).toInt - (v12).toInt).toNat < n → 0 ≤ (v12).toInt → isB v13 → Zr 0 μ0 μ14 → wpl_X1_partOnce_34 k1 Q n v12 v13 μ14 := by
  intro n
  induction n with
  | zero => intro v12 v13 μ14 hm; exact absurd hm (Nat.not_lt_zero _)
  | succ n ih =>
    intro v12 v13 μ14 hm hi bv13 hF
    show ((μ14 k1 1) ≤ v12 → (isB v13 ∧ Q v13 μ14)) ∧ (¬ (μ14 k1 1) ≤ v12 → (wp_X6_at 25 μ14 v12 (fun (r17 : Int32) => wp_X6_find 25 μ14 r17 (μ14 k1 1) (fun (r20 : Int32) => wp_X6_at 23 μ14 v12 (fun (r23 : Int32) => ∀ J26 : Int32 → Prop, (∀ (j27 : Int32), (wp_X6_put 23 μ14 v12 r20 (fun (μ28 : TMem) => wpl_X1_partOnce_34 k1 Q n (v12 + (1 : Int32)) (v13 ||| j27) μ28)) → J26 j27) → ((r20 = r23 → (J26 (0 : Int32))) ∧ (¬ r20 = r23 → (J26 (1 : Int32)))))))))
    refine ⟨fun c_ex => ?_, fun c_in => ?_⟩
    · refine ⟨(by first | assumption | exact Or.inl rfl | exact Or.inr rfl | exact isB_or (by assumption) (by first | assumption | exact Or.inl rfl | exact Or.inr rfl)), ?_⟩
      exact h _ _ (by first | assumption | exact Or.inl rfl | exact Or.inr rfl | exact isB_or (by assumption) (by first | assumption | exact Or.inl rfl | exact Or.inr rfl)) hF
    have e_k1_1 : μ14 k1 1 = μ0 k1 1 := hF.1.1 k1 1 (by rw [show kd k1 = 5 from hk1] <;> rfl)
    have c_lt : ¬ ((μ0 k1 1)) ≤ v12 := by
      rw [e_k1_1] at c_in
      exact c_in
    refine f_X6_at 25 rfl μ14 v12 (fun r17 => ?_)
    refine f_X6_find 25 rfl μ14 r17 (μ14 k1 1) (fun r20 => ?_)
    refine f_X6_at 23 rfl μ14 v12 (fun r23 => ?_)
    intro J26 hJ26
    refine ⟨fun c133 => ?_, fun c134 => ?_⟩
    · refine hJ26 (0 : Int32) ?_
      refine z_X6_put 23 rfl μ14 v12 r20 (Or.inl (by decide)) (fun μ28 hf135 => ?_)
      exact ih (v12 + (1 : Int32)) (v13 ||| (0 : Int32)) μ28 (lt_m c_lt (by omega)) (lt_p (by assumption) c_lt) (by first | assumption | exact Or.inl rfl | exact Or.inr rfl | exact isB_or (by assumption) (by first | assumption | exact Or.inl rfl | exact Or.inr rfl)) (Zr.trans hF (Zr.up (by decide) hf135))
    · refine hJ26 (1 : Int32) ?_
      refine z_X6_put 23 rfl μ14 v12 r20 (Or.inl (by decide)) (fun μ28 hf136 => ?_)
      exact ih (v12 + (1 : Int32)) (v13 ||| (1 : Int32)) μ28 (lt_m c_lt (by omega)) (lt_p (by assumption) c_lt) (by first | assumption | exact Or.inl rfl | exact Or.inr rfl | exact isB_or (by assumption) (by first | assumption | exact Or.inl rfl | exact Or.inr rfl)) (Zr.trans hF (Zr.up (by decide) hf136))
set_option maxHeartbeats 2000000 in
theorem z_X1_partOnce (k1 : Nat) (hk1 : kd k1 = 5) (μ : TMem)  {Q : Int32 → TMem → Prop} (h : ∀ (r : Int32) (μ9 : TMem), isB r → Zr 0 μ μ9 → Q r μ9) : wp_X1_partOnce k1 μ Q := by
  show ∃ n0x, wpl_X1_partOnce_2 k1 (fun (μ10 : TMem) => ∃ n10x, wpl_X1_partOnce_34 k1 Q n10x (0 : Int32) (0 : Int32) μ10) n0x (0 : Int32) μ
  refine ⟨_, zl_wpl_X1_partOnce_2 μ k1 hk1 ?_ _ (0 : Int32) μ (Nat.lt_succ_self _) (by first | decide | omega) Zr.rf⟩
  · intro μ10 hf137
    refine ⟨_, zl_wpl_X1_partOnce_34 μ10 k1 hk1 (fun r9 μ9 b9 f9 => h r9 μ9 b9 (Zr.trans (Zr.trans (Zr.rf) (Zr.up (by decide) hf137)) (Zr.up (by decide) f9))) _ (0 : Int32) (0 : Int32) μ10 (Nat.lt_succ_self _) (by first | decide | omega) (by first | assumption | exact Or.inl rfl | exact Or.inr rfl | exact isB_or (by assumption) (by first | assumption | exact Or.inl rfl | exact Or.inr rfl)) Zr.rf⟩
set_option maxHeartbeats 2000000 in
theorem zl_wpl_X1_findByParting_2 (μ0 : TMem) (k1 : Nat) (hk1 : kd k1 = 5) {K29 : TMem → Prop} (hK29 : ∀ (u0 : TMem), Zr 0 μ0 u0 → K29 u0) : ∀ (n : Nat) (v2 : Int32) (μ3 : TMem), (((μ0 k1 1)).toInt - (v2).toInt).toNat < n → 0 ≤ (v2).toInt → Zr 0 μ0 μ3 → wpl_X1_findByParting_2 k1 K29 n v2 μ3 := by
  intro n
  induction n with
  | zero => intro v2 μ3 hm; exact absurd hm (Nat.not_lt_zero _)
  | succ n ih =>
    intro v2 μ3 hm hi hF
    show ((μ3 k1 1) ≤ v2 → (K29 μ3)) ∧ (¬ (μ3 k1 1) ≤ v2 → (wp_X1_firstOfGoalness k1 μ3 v2 (fun (r5 : Int32) => wp_X6_put 23 μ3 v2 r5 (fun (μ8 : TMem) => wpl_X1_findByParting_2 k1 K29 n (v2 + (1 : Int32)) μ8))))
    refine ⟨fun c_ex => ?_, fun c_in => ?_⟩
    · exact hK29 μ3 hF
    have e_k1_1 : μ3 k1 1 = μ0 k1 1 := hF.1.1 k1 1 (by rw [show kd k1 = 5 from hk1] <;> rfl)
    have c_lt : ¬ ((μ0 k1 1)) ≤ v2 := by
      rw [e_k1_1] at c_in
      exact c_in
    refine f_X1_firstOfGoalness k1 hk1 μ3 v2 (fun r5 => ?_)
    refine z_X6_put 23 rfl μ3 v2 r5 (Or.inl (by decide)) (fun μ8 hf138 => ?_)
    exact ih (v2 + (1 : Int32)) μ8 (lt_m c_lt (by omega)) (lt_p (by assumption) c_lt) (Zr.trans hF (Zr.up (by decide) hf138))
set_option maxHeartbeats 2000000 in
theorem zl_wpl_X1_findByParting_33 (μ0 : TMem) (k1 : Nat) (hk1 : kd k1 = 5) {Q : TMem → Prop} (h : ∀ μ9 : TMem, Zr 0 μ0 μ9 → Q μ9) : ∀ (n : Nat) (v12 : Int32) (v13 : Int32) (μ14 : TMem), (((32 : Int32)).toInt - (v12).toInt).toNat < n → 0 ≤ (v12).toInt → Zr 0 μ0 μ14 → wpl_X1_findByParting_33 k1 Q n v12 v13 μ14 := by
  intro n
  induction n with
  | zero => intro v12 v13 μ14 hm; exact absurd hm (Nat.not_lt_zero _)
  | succ n ih =>
    intro v12 v13 μ14 hm hi hF
    show ((32 : Int32) ≤ v12 → (Q μ14)) ∧ (¬ (32 : Int32) ≤ v12 → ((v13 = 0 → (Q μ14)) ∧ (¬ v13 = 0 → (wp_X1_partOnce k1 μ14 (fun (r18 : Int32) (μ17 : TMem) => wpl_X1_findByParting_33 k1 Q n (v12 + (1 : Int32)) r18 μ17)))))
    refine ⟨fun c_ex => ?_, fun c_in => ?_⟩
    · exact h _ hF
    have c_lt : ¬ ((32 : Int32)) ≤ v12 := c_in
    refine ⟨fun c139 => ?_, fun c140 => ?_⟩
    · exact h _ hF
    · refine z_X1_partOnce k1 hk1 μ14 (fun r18 μ17 b141 hf142 => ?_)
      exact ih (v12 + (1 : Int32)) r18 μ17 (lt_m c_lt (by omega)) (lt_p (by assumption) c_lt) (Zr.trans hF (Zr.up (by decide) hf142))
set_option maxHeartbeats 2000000 in
theorem z_X1_findByParting (k1 : Nat) (hk1 : kd k1 = 5) (μ : TMem)  {Q : TMem → Prop} (h : ∀ μ9 : TMem, Zr 0 μ μ9 → Q μ9) : wp_X1_findByParting k1 μ Q := by
  show ∃ n0x, wpl_X1_findByParting_2 k1 (fun (μ10 : TMem) => ∃ n10x, wpl_X1_findByParting_33 k1 Q n10x (0 : Int32) (1 : Int32) μ10) n0x (0 : Int32) μ
  refine ⟨_, zl_wpl_X1_findByParting_2 μ k1 hk1 ?_ _ (0 : Int32) μ (Nat.lt_succ_self _) (by first | decide | omega) Zr.rf⟩
  · intro μ10 hf143
    refine ⟨_, zl_wpl_X1_findByParting_33 μ10 k1 hk1 (fun μ9 f9 => h μ9 (Zr.trans (Zr.trans (Zr.rf) (Zr.up (by decide) hf143)) (Zr.up (by decide) f9))) _ (0 : Int32) (1 : Int32) μ10 (Nat.lt_succ_self _) (by first | decide | omega) Zr.rf⟩
set_option maxHeartbeats 2000000 in
theorem z_X3_groupNumber (k2 : Nat) (hk2 : kd k2 = 5) (μ : TMem) (a1 : Int32) {Q : Int32 → TMem → Prop} (h : ∀ (r : Int32) (μ9 : TMem), Zr 2 μ μ9 → Q r μ9) : wp_X3_groupNumber k2 μ a1 Q := by
  show wp_X1_partOf μ a1 (fun (r1 : Int32) => wp_X6_at 20 μ r1 (fun (r4 : Int32) => ∀ J7 : TMem → Prop, (∀ (μ8 : TMem), (wp_X6_at 20 μ8 r1 (fun (r9 : Int32) => Q r9 μ8)) → J7 μ8) → ((¬ r4 = (-1 : Int32) → (wp_X6_at 20 μ r1 (fun (r13 : Int32) => Q r13 μ))) ∧ (r4 = (-1 : Int32) → (wp_X6_put 20 μ r1 (μ k2 1) (fun (μ16 : TMem) => wp_X6_put 18 μ16 (μ16 k2 1) a1 (fun (μ17 : TMem) => J7 (tms μ17 k2 1 ((μ17 k2 1) + (1 : Int32))))))))))
  refine f_X1_partOf μ a1 (fun r1 => ?_)
  refine f_X6_at 20 rfl μ r1 (fun r4 => ?_)
  intro J7 hJ7
  refine ⟨fun c144 => ?_, fun c145 => ?_⟩
  · refine f_X6_at 20 rfl μ r1 (fun r13 => ?_)
    exact h _ _ (Zr.rf)
  · refine z_X6_put 20 rfl μ r1 (μ k2 1) (Or.inl (by decide)) (fun μ16 hf146 => ?_)
    refine z_X6_put 18 rfl μ16 (μ16 k2 1) a1 (Or.inl (by decide)) (fun μ17 hf147 => ?_)
    refine hJ7 (tms μ17 k2 1 ((μ17 k2 1) + (1 : Int32))) ?_
    refine f_X6_at 20 rfl (tms μ17 k2 1 ((μ17 k2 1) + (1 : Int32))) r1 (fun r9 => ?_)
    exact h _ _ (Zr.st (Zr.trans (Zr.trans (Zr.rf) (Zr.up (by decide) hf146)) (Zr.up (by decide) hf147)) (by rw [show kd k2 = 5 from hk2] <;> rfl) (Or.inl (ne43 (K := 5) hk2 (by decide))))
set_option maxHeartbeats 2000000 in
theorem zl_wpl_X3_makeGroups_90 (μ0 : TMem) (k1 : Nat) (hk1 : kd k1 = 5) (k2 : Nat) (hk2 : kd k2 = 5) (v21 : Int32) (v22 : Int32) {K122 : TMem → Prop} (hK122 : ∀ (u0 : TMem), Zr 2 μ0 u0 → K122 u0) : ∀ (n : Nat) (v20 : Int32) (μ23 : TMem), (((3 : Int32)).toInt - (v20).toInt).toNat < n → 0 ≤ (v20).toInt → Zr 2 μ0 μ23 → wpl_X3_makeGroups_90 k1 k2 v21 v22 K122 n v20 μ23 := by
  intro n
  induction n with
  | zero => intro v20 μ23 hm; exact absurd hm (Nat.not_lt_zero _)
  | succ n ih =>
    intro v20 μ23 hm hi hF
    show ((3 : Int32) ≤ v20 → (K122 μ23)) ∧ (¬ (3 : Int32) ≤ v20 → (wp_X7_at k1 μ23 v21 v20 (fun (r25 : Int32) => wp_X3_groupNumber k2 μ23 r25 (fun (r29 : Int32) (μ28 : TMem) => wp_X7_put k2 μ28 v22 v20 r29 (fun (μ30 : TMem) => wpl_X3_makeGroups_90 k1 k2 v21 v22 K122 n (v20 + (1 : Int32)) μ30)))))
    refine ⟨fun c_ex => ?_, fun c_in => ?_⟩
    · exact hK122 μ23 hF
    have c_lt : ¬ ((3 : Int32)) ≤ v20 := c_in
    refine f_X7_at k1 (Or.inr hk1) μ23 v21 v20 (fun r25 => ?_)
    refine z_X3_groupNumber k2 hk2 μ23 r25 (fun r29 μ28 hf148 => ?_)
    refine z_X7_put k2 ⟨Or.inr hk2, kd5' hk2⟩ μ28 v22 v20 r29 (fun μ30 hf149 => ?_)
    exact ih (v20 + (1 : Int32)) μ30 (lt_m c_lt (by omega)) (lt_p (by assumption) c_lt) (Zr.trans (Zr.trans hF (Zr.up (by decide) hf148)) (Zr.up (by decide) hf149))
set_option maxHeartbeats 2000000 in
theorem zl_wpl_X3_makeGroups_45 (μ0 : TMem) (k1 : Nat) (hk1 : kd k1 = 5) (k2 : Nat) (hk2 : kd k2 = 5) {Q : TMem → Prop} (h : ∀ μ9 : TMem, Zr 2 μ0 μ9 → Q μ9) : ∀ (n : Nat) (v8 : Int32) (μ9 : TMem), (((32 : Int32)).toInt - (v8).toInt).toNat < n → 0 ≤ (v8).toInt → Zr 2 μ0 μ9 → wpl_X3_makeGroups_45 k1 k2 Q n v8 μ9 := by
  intro n
  induction n with
  | zero => intro v8 μ9 hm; exact absurd hm (Nat.not_lt_zero _)
  | succ n ih =>
    intro v8 μ9 hm hi hF
    show ((32 : Int32) ≤ v8 → (Q μ9)) ∧ (¬ (32 : Int32) ≤ v8 → (((μ9 k2 1) ≤ v8 → (Q μ9)) ∧ (¬ (μ9 k2 1) ≤ v8 → (wp_X6_at 18 μ9 v8 (fun (r12 : Int32) => wp_X5_isGoal k1 μ9 r12 (fun (r15 : Int32) => wp_X9_withOrWithout (μ9 k2 2) v8 r15 (fun (r18 : Int32) => ∃ n18x, wpl_X3_makeGroups_90 k1 k2 r12 v8 (fun (μ32 : TMem) => wpl_X3_makeGroups_45 k1 k2 Q n (v8 + (1 : Int32)) μ32) n18x (0 : Int32) (tms μ9 k2 2 r18))))))))
    refine ⟨fun c_ex => ?_, fun c_in => ?_⟩
    · exact h _ hF
    have c_lt : ¬ ((32 : Int32)) ≤ v8 := c_in
    refine ⟨fun c150 => ?_, fun c151 => ?_⟩
    · exact h _ hF
    · refine f_X6_at 18 rfl μ9 v8 (fun r12 => ?_)
      refine f_X5_isGoal k1 hk1 μ9 r12 (fun r15 b152 => ?_)
      refine f_X9_withOrWithout (μ9 k2 2) v8 r15 (fun r18 => ?_)
      refine ⟨_, zl_wpl_X3_makeGroups_90 (tms μ9 k2 2 r18) k1 hk1 k2 hk2 r12 v8 ?_ _ (0 : Int32) (tms μ9 k2 2 r18) (Nat.lt_succ_self _) (by first | decide | omega) Zr.rf⟩
      · intro μ32 hf153
        exact ih (v8 + (1 : Int32)) μ32 (lt_m c_lt (by omega)) (lt_p (by assumption) c_lt) (Zr.trans (Zr.st hF (by rw [show kd k2 = 5 from hk2] <;> rfl) (Or.inl (ne43 (K := 5) hk2 (by decide)))) (Zr.up (by decide) hf153))
set_option maxHeartbeats 2000000 in
theorem z_X3_makeGroups (k1 : Nat) (hk1 : kd k1 = 5) (k2 : Nat) (hk2 : kd k2 = 5) (μ : TMem)  {Q : TMem → Prop} (h : ∀ μ9 : TMem, Zr 2 μ μ9 → Q μ9) : wp_X3_makeGroups k1 k2 μ Q := by
  show wp_X6_fill 20 μ (-1 : Int32) (fun (μ1 : TMem) => wp_X1_partOf μ1 (0 : Int32) (fun (r2 : Int32) => wp_X6_put 20 μ1 r2 (0 : Int32) (fun (μ5 : TMem) => wp_X6_put 18 μ5 (0 : Int32) (0 : Int32) (fun (μ6 : TMem) => ∃ n6x, wpl_X3_makeGroups_45 k1 k2 Q n6x (0 : Int32) (tms (tms μ6 k2 1 (1 : Int32)) k2 2 (0 : Int32))))))
  refine z_X6_fill 20 rfl μ (-1 : Int32) (by decide) (fun μ1 hf154 => ?_)
  refine f_X1_partOf μ1 (0 : Int32) (fun r2 => ?_)
  refine z_X6_put 20 rfl μ1 r2 (0 : Int32) (Or.inl (by decide)) (fun μ5 hf155 => ?_)
  refine z_X6_put 18 rfl μ5 (0 : Int32) (0 : Int32) (Or.inl (by decide)) (fun μ6 hf156 => ?_)
  refine ⟨_, zl_wpl_X3_makeGroups_45 (tms (tms μ6 k2 1 (1 : Int32)) k2 2 (0 : Int32)) k1 hk1 k2 hk2 (fun μ9 f9 => h μ9 (Zr.trans (Zr.st (Zr.st (Zr.trans (Zr.trans (Zr.trans (Zr.rf) (Zr.up (by decide) hf154)) (Zr.up (by decide) hf155)) (Zr.up (by decide) hf156)) (by rw [show kd k2 = 5 from hk2] <;> rfl) (Or.inl (ne43 (K := 5) hk2 (by decide)))) (by rw [show kd k2 = 5 from hk2] <;> rfl) (Or.inl (ne43 (K := 5) hk2 (by decide)))) (Zr.up (by decide) f9))) _ (0 : Int32) (tms (tms μ6 k2 1 (1 : Int32)) k2 2 (0 : Int32)) (Nat.lt_succ_self _) (by first | decide | omega) Zr.rf⟩
set_option maxHeartbeats 2000000 in
theorem z_X3_lessen (k1 : Nat) (hk1 : kd k1 = 5) (k2 : Nat) (hk2 : kd k2 = 5) (μ : TMem)  {Q : TMem → Prop} (h : ∀ μ9 : TMem, Zr 2 μ μ9 → Q μ9) : wp_X3_lessen k1 k2 μ Q := by
  show wp_X1_findByParting k1 μ (fun (μ1 : TMem) => wp_X3_makeGroups k1 k2 μ1 (fun (μ2 : TMem) => Q μ2))
  refine z_X1_findByParting k1 hk1 μ (fun μ1 hf157 => ?_)
  refine z_X3_makeGroups k1 hk1 k2 hk2 μ1 (fun μ2 hf158 => ?_)
  exact h _ (Zr.trans (Zr.trans (Zr.rf) (Zr.up (by decide) hf157)) (Zr.up (by decide) hf158))
set_option maxHeartbeats 2000000 in
theorem z_X9_putTogether (k1 : Nat) (hk1 : kd k1 = 2) (k2 : Nat) (hk2 : kd k2 = 2) (μ : TMem) (a3 : Int32) {Q : Int32 → TMem → Prop} (h : ∀ (r : Int32) (μ9 : TMem), isB r → Zr 2 μ μ9 → Q r μ9) : wp_X9_putTogether k1 k2 μ a3 Q := by
  show wp_X9_meetPairs k1 k2 μ (32 : Int32) (1 : Int32) (fun (r2 : Int32) (μ1 : TMem) => (¬ r2 = 0 → (wp_X5_becomePairs 55 μ1 a3 (fun (μ4 : TMem) => wp_X3_lessen 55 57 μ4 (fun (μ5 : TMem) => Q (1 : Int32) μ5)))) ∧ (r2 = 0 → (Q (0 : Int32) μ1)))
  refine z_X9_meetPairs k1 hk1 k2 hk2 μ (32 : Int32) (1 : Int32) (fun r2 μ1 b159 hf160 => ?_)
  refine ⟨fun c161 => ?_, fun c162 => ?_⟩
  · refine z_X5_becomePairs 55 rfl μ1 a3 (fun μ4 hf163 => ?_)
    refine z_X3_lessen 55 rfl 57 rfl μ4 (fun μ5 hf164 => ?_)
    exact h _ _ (by first | assumption | exact Or.inl rfl | exact Or.inr rfl | exact isB_or (by assumption) (by first | assumption | exact Or.inl rfl | exact Or.inr rfl)) (Zr.trans (Zr.trans (Zr.trans (Zr.rf) (Zr.up (by decide) hf160)) (Zr.up (by decide) hf163)) (Zr.up (by decide) hf164))
  · exact h _ _ (by first | assumption | exact Or.inl rfl | exact Or.inr rfl | exact isB_or (by assumption) (by first | assumption | exact Or.inl rfl | exact Or.inr rfl)) (Zr.trans (Zr.rf) (Zr.up (by decide) hf160))
set_option maxHeartbeats 2000000 in
theorem zl_wpl_X1_tellFurther_15 (μ0 : TMem) (k1 : Nat) (hk1 : kd k1 = 5) (v9 : Int32) {K99 : Int32 → TMem → Prop} (hK99 : ∀ (u0 : Int32) (u1 : TMem), isB u0 → Zr 0 μ0 u1 → K99 u0 u1) : ∀ (n : Nat) (v8 : Int32) (v10 : Int32) (μ11 : TMem), ((v9).toInt - (v8).toInt).toNat < n → 0 ≤ (v8).toInt → isB v10 → Zr 0 μ0 μ11 → wpl_X1_tellFurther_15 k1 v9 K99 n v8 v10 μ11 := by
  intro n
  induction n with
  | zero => intro v8 v10 μ11 hm; exact absurd hm (Nat.not_lt_zero _)
  | succ n ih =>
    intro v8 v10 μ11 hm hi bv10 hF
    show (v9 ≤ v8 → (K99 v10 μ11)) ∧ (¬ v9 ≤ v8 → (wp_X6_at 27 μ11 v9 (fun (r13 : Int32) => wp_X9_isIn r13 v8 (fun (r16 : Int32) => (¬ r16 = 0 → (wpl_X1_tellFurther_15 k1 v9 K99 n (v8 + (1 : Int32)) v10 μ11)) ∧ (r16 = 0 → (wp_X1_isLeadingToUnlike k1 μ11 v9 v8 (fun (r18 : Int32) => (r18 = 0 → (wpl_X1_tellFurther_15 k1 v9 K99 n (v8 + (1 : Int32)) v10 μ11)) ∧ (¬ r18 = 0 → (wp_X6_at 27 μ11 v9 (fun (r22 : Int32) => wp_X6_put 27 μ11 v9 (r22 ||| ((1 : Int32) <<< (v8 &&& 31))) (fun (μ25 : TMem) => wp_X6_at 27 μ25 v8 (fun (r26 : Int32) => wp_X6_put 27 μ25 v8 (r26 ||| ((1 : Int32) <<< (v9 &&& 31))) (fun (μ29 : TMem) => wpl_X1_tellFurther_15 k1 v9 K99 n (v8 + (1 : Int32)) (1 : Int32) μ29)))))))))))))
    refine ⟨fun c_ex => ?_, fun c_in => ?_⟩
    · exact hK99 v10 μ11 (by first | assumption | exact Or.inl rfl | exact Or.inr rfl | exact isB_or (by assumption) (by first | assumption | exact Or.inl rfl | exact Or.inr rfl)) hF
    have c_lt : ¬ (v9) ≤ v8 := c_in
    refine f_X6_at 27 rfl μ11 v9 (fun r13 => ?_)
    refine f_X9_isIn r13 v8 (fun r16 b185 => ?_)
    refine ⟨fun c186 => ?_, fun c187 => ?_⟩
    · exact ih (v8 + (1 : Int32)) v10 μ11 (lt_m c_lt (by omega)) (lt_p (by assumption) c_lt) (by first | assumption | exact Or.inl rfl | exact Or.inr rfl | exact isB_or (by assumption) (by first | assumption | exact Or.inl rfl | exact Or.inr rfl)) hF
    · refine f_X1_isLeadingToUnlike k1 hk1 μ11 v9 v8 (fun r18 b188 => ?_)
      refine ⟨fun c189 => ?_, fun c190 => ?_⟩
      · exact ih (v8 + (1 : Int32)) v10 μ11 (lt_m c_lt (by omega)) (lt_p (by assumption) c_lt) (by first | assumption | exact Or.inl rfl | exact Or.inr rfl | exact isB_or (by assumption) (by first | assumption | exact Or.inl rfl | exact Or.inr rfl)) hF
      · refine f_X6_at 27 rfl μ11 v9 (fun r22 => ?_)
        refine z_X6_put 27 rfl μ11 v9 (r22 ||| ((1 : Int32) <<< (v8 &&& 31))) (Or.inl (by decide)) (fun μ25 hf191 => ?_)
        refine f_X6_at 27 rfl μ25 v8 (fun r26 => ?_)
        refine z_X6_put 27 rfl μ25 v8 (r26 ||| ((1 : Int32) <<< (v9 &&& 31))) (Or.inl (by decide)) (fun μ29 hf192 => ?_)
        exact ih (v8 + (1 : Int32)) (1 : Int32) μ29 (lt_m c_lt (by omega)) (lt_p (by assumption) c_lt) (by first | assumption | exact Or.inl rfl | exact Or.inr rfl | exact isB_or (by assumption) (by first | assumption | exact Or.inl rfl | exact Or.inr rfl)) (Zr.trans (Zr.trans hF (Zr.up (by decide) hf191)) (Zr.up (by decide) hf192))
set_option maxHeartbeats 2000000 in
theorem zl_wpl_X1_tellFurther_4 (μ0 : TMem) (k1 : Nat) (hk1 : kd k1 = 5) {Q : Int32 → TMem → Prop} (h : ∀ (r : Int32) (μ9 : TMem), isB r → Zr 0 μ0 μ9 → Q r μ9) : ∀ (n : Nat) (v2 : Int32) (v3 : Int32) (μ4 : TMem), (((μ0 k1 1)).toInt - (v2).toInt).toNat < n → 0 ≤ (v2).toInt → isB v3 → Zr 0 μ0 μ4 → wpl_X1_tellFurther_4 k1 Q n v2 v3 μ4 := by
  intro n
  induction n with
  | zero => intro v2 v3 μ4 hm; exact absurd hm (Nat.not_lt_zero _)
  | succ n ih =>
    intro v2 v3 μ4 hm hi bv3 hF
    show ((μ4 k1 1) ≤ v2 → (isB v3 ∧ Q v3 μ4)) ∧ (¬ (μ4 k1 1) ≤ v2 → (∃ n6x, wpl_X1_tellFurther_15 k1 v2 (fun (u31 : Int32) (μ32 : TMem) => wpl_X1_tellFurther_4 k1 Q n (v2 + (1 : Int32)) u31 μ32) n6x (0 : Int32) v3 μ4))
    refine ⟨fun c_ex => ?_, fun c_in => ?_⟩
    · refine ⟨(by first | assumption | exact Or.inl rfl | exact Or.inr rfl | exact isB_or (by assumption) (by first | assumption | exact Or.inl rfl | exact Or.inr rfl)), ?_⟩
      exact h _ _ (by first | assumption | exact Or.inl rfl | exact Or.inr rfl | exact isB_or (by assumption) (by first | assumption | exact Or.inl rfl | exact Or.inr rfl)) hF
    have e_k1_1 : μ4 k1 1 = μ0 k1 1 := hF.1.1 k1 1 (by rw [show kd k1 = 5 from hk1] <;> rfl)
    have c_lt : ¬ ((μ0 k1 1)) ≤ v2 := by
      rw [e_k1_1] at c_in
      exact c_in
    refine ⟨_, zl_wpl_X1_tellFurther_15 μ4 k1 hk1 v2 ?_ _ (0 : Int32) v3 μ4 (Nat.lt_succ_self _) (by first | decide | omega) (by first | assumption | exact Or.inl rfl | exact Or.inr rfl | exact isB_or (by assumption) (by first | assumption | exact Or.inl rfl | exact Or.inr rfl)) Zr.rf⟩
    · intro u31 μ32 b193 hf194
      exact ih (v2 + (1 : Int32)) u31 μ32 (lt_m c_lt (by omega)) (lt_p (by assumption) c_lt) (by first | assumption | exact Or.inl rfl | exact Or.inr rfl | exact isB_or (by assumption) (by first | assumption | exact Or.inl rfl | exact Or.inr rfl)) (Zr.trans hF (Zr.up (by decide) hf194))
set_option maxHeartbeats 2000000 in
theorem z_X1_tellFurther (k1 : Nat) (hk1 : kd k1 = 5) (μ : TMem)  {Q : Int32 → TMem → Prop} (h : ∀ (r : Int32) (μ9 : TMem), isB r → Zr 0 μ μ9 → Q r μ9) : wp_X1_tellFurther k1 μ Q := by
  show ∃ n0x, wpl_X1_tellFurther_4 k1 Q n0x (0 : Int32) (0 : Int32) μ
  refine ⟨_, zl_wpl_X1_tellFurther_4 μ k1 hk1 (fun r9 μ9 b9 f9 => h r9 μ9 b9 (Zr.trans (Zr.rf) (Zr.up (by decide) f9))) _ (0 : Int32) (0 : Int32) μ (Nat.lt_succ_self _) (by first | decide | omega) (by first | assumption | exact Or.inl rfl | exact Or.inr rfl | exact isB_or (by assumption) (by first | assumption | exact Or.inl rfl | exact Or.inr rfl)) Zr.rf⟩
set_option maxHeartbeats 2000000 in
theorem zl_wpl_X1_findByPairs_2 (μ0 : TMem) (k1 : Nat) (hk1 : kd k1 = 5) {K29 : TMem → Prop} (hK29 : ∀ (u0 : TMem), Zr 0 μ0 u0 → K29 u0) : ∀ (n : Nat) (v2 : Int32) (μ3 : TMem), (((μ0 k1 1)).toInt - (v2).toInt).toNat < n → 0 ≤ (v2).toInt → Zr 0 μ0 μ3 → wpl_X1_findByPairs_2 k1 K29 n v2 μ3 := by
  intro n
  induction n with
  | zero => intro v2 μ3 hm; exact absurd hm (Nat.not_lt_zero _)
  | succ n ih =>
    intro v2 μ3 hm hi hF
    show ((μ3 k1 1) ≤ v2 → (K29 μ3)) ∧ (¬ (μ3 k1 1) ≤ v2 → (wp_X1_ofOtherGoalness k1 μ3 v2 (fun (r5 : Int32) => wp_X6_put 27 μ3 v2 r5 (fun (μ8 : TMem) => wpl_X1_findByPairs_2 k1 K29 n (v2 + (1 : Int32)) μ8))))
    refine ⟨fun c_ex => ?_, fun c_in => ?_⟩
    · exact hK29 μ3 hF
    have e_k1_1 : μ3 k1 1 = μ0 k1 1 := hF.1.1 k1 1 (by rw [show kd k1 = 5 from hk1] <;> rfl)
    have c_lt : ¬ ((μ0 k1 1)) ≤ v2 := by
      rw [e_k1_1] at c_in
      exact c_in
    refine f_X1_ofOtherGoalness k1 hk1 μ3 v2 (fun r5 => ?_)
    refine z_X6_put 27 rfl μ3 v2 r5 (Or.inl (by decide)) (fun μ8 hf198 => ?_)
    exact ih (v2 + (1 : Int32)) μ8 (lt_m c_lt (by omega)) (lt_p (by assumption) c_lt) (Zr.trans hF (Zr.up (by decide) hf198))
set_option maxHeartbeats 2000000 in
theorem zl_wpl_X1_findByPairs_33 (μ0 : TMem) (k1 : Nat) (hk1 : kd k1 = 5) {K56 : TMem → Prop} (hK56 : ∀ (u0 : TMem), Zr 0 μ0 u0 → K56 u0) : ∀ (n : Nat) (v12 : Int32) (v13 : Int32) (μ14 : TMem), (((1024 : Int32)).toInt - (v12).toInt).toNat < n → 0 ≤ (v12).toInt → Zr 0 μ0 μ14 → wpl_X1_findByPairs_33 k1 K56 n v12 v13 μ14 := by
  intro n
  induction n with
  | zero => intro v12 v13 μ14 hm; exact absurd hm (Nat.not_lt_zero _)
  | succ n ih =>
    intro v12 v13 μ14 hm hi hF
    show ((1024 : Int32) ≤ v12 → (K56 μ14)) ∧ (¬ (1024 : Int32) ≤ v12 → ((v13 = 0 → (K56 μ14)) ∧ (¬ v13 = 0 → (wp_X1_tellFurther k1 μ14 (fun (r18 : Int32) (μ17 : TMem) => wpl_X1_findByPairs_33 k1 K56 n (v12 + (1 : Int32)) r18 μ17)))))
    refine ⟨fun c_ex => ?_, fun c_in => ?_⟩
    · exact hK56 μ14 hF
    have c_lt : ¬ ((1024 : Int32)) ≤ v12 := c_in
    refine ⟨fun c199 => ?_, fun c200 => ?_⟩
    · exact hK56 μ14 hF
    · refine z_X1_tellFurther k1 hk1 μ14 (fun r18 μ17 b201 hf202 => ?_)
      exact ih (v12 + (1 : Int32)) r18 μ17 (lt_m c_lt (by omega)) (lt_p (by assumption) c_lt) (Zr.trans hF (Zr.up (by decide) hf202))
set_option maxHeartbeats 2000000 in
theorem zl_wpl_X1_findByPairs_58 (μ0 : TMem) (k1 : Nat) (hk1 : kd k1 = 5) {Q : TMem → Prop} (h : ∀ μ9 : TMem, Zr 0 μ0 μ9 → Q μ9) : ∀ (n : Nat) (v22 : Int32) (μ23 : TMem), (((μ0 k1 1)).toInt - (v22).toInt).toNat < n → 0 ≤ (v22).toInt → Zr 0 μ0 μ23 → wpl_X1_findByPairs_58 k1 Q n v22 μ23 := by
  intro n
  induction n with
  | zero => intro v22 μ23 hm; exact absurd hm (Nat.not_lt_zero _)
  | succ n ih =>
    intro v22 μ23 hm hi hF
    show ((μ23 k1 1) ≤ v22 → (Q μ23)) ∧ (¬ (μ23 k1 1) ≤ v22 → (wp_X1_firstNotUnlike μ23 v22 (fun (r25 : Int32) => wp_X6_put 23 μ23 v22 r25 (fun (μ28 : TMem) => wpl_X1_findByPairs_58 k1 Q n (v22 + (1 : Int32)) μ28))))
    refine ⟨fun c_ex => ?_, fun c_in => ?_⟩
    · exact h _ hF
    have e_k1_1 : μ23 k1 1 = μ0 k1 1 := hF.1.1 k1 1 (by rw [show kd k1 = 5 from hk1] <;> rfl)
    have c_lt : ¬ ((μ0 k1 1)) ≤ v22 := by
      rw [e_k1_1] at c_in
      exact c_in
    refine f_X1_firstNotUnlike μ23 v22 (fun r25 => ?_)
    refine z_X6_put 23 rfl μ23 v22 r25 (Or.inl (by decide)) (fun μ28 hf203 => ?_)
    exact ih (v22 + (1 : Int32)) μ28 (lt_m c_lt (by omega)) (lt_p (by assumption) c_lt) (Zr.trans hF (Zr.up (by decide) hf203))
set_option maxHeartbeats 2000000 in
theorem z_X1_findByPairs (k1 : Nat) (hk1 : kd k1 = 5) (μ : TMem)  {Q : TMem → Prop} (h : ∀ μ9 : TMem, Zr 0 μ μ9 → Q μ9) : wp_X1_findByPairs k1 μ Q := by
  show ∃ n0x, wpl_X1_findByPairs_2 k1 (fun (μ10 : TMem) => ∃ n10x, wpl_X1_findByPairs_33 k1 (fun (μ20 : TMem) => ∃ n20x, wpl_X1_findByPairs_58 k1 Q n20x (0 : Int32) μ20) n10x (0 : Int32) (1 : Int32) μ10) n0x (0 : Int32) μ
  refine ⟨_, zl_wpl_X1_findByPairs_2 μ k1 hk1 ?_ _ (0 : Int32) μ (Nat.lt_succ_self _) (by first | decide | omega) Zr.rf⟩
  · intro μ10 hf204
    refine ⟨_, zl_wpl_X1_findByPairs_33 μ10 k1 hk1 ?_ _ (0 : Int32) (1 : Int32) μ10 (Nat.lt_succ_self _) (by first | decide | omega) Zr.rf⟩
    · intro μ20 hf205
      refine ⟨_, zl_wpl_X1_findByPairs_58 μ20 k1 hk1 (fun μ9 f9 => h μ9 (Zr.trans (Zr.trans (Zr.trans (Zr.rf) (Zr.up (by decide) hf204)) (Zr.up (by decide) hf205)) (Zr.up (by decide) f9))) _ (0 : Int32) μ20 (Nat.lt_succ_self _) (by first | decide | omega) Zr.rf⟩
set_option maxHeartbeats 2000000 in
theorem zl_wpl_X2_becomeRound_36 (μ0 : TMem) (k0 : Nat) (hk0 : kd k0 = 2 ∧ 9 < k0) (k1 : Nat) (hk1 : kd k1 = 2) (v7 : Int32) {K59 : TMem → Prop} (hK59 : ∀ (u0 : TMem), Zr 0 μ0 u0 → K59 u0) : ∀ (n : Nat) (v6 : Int32) (μ8 : TMem), (((3 : Int32)).toInt - (v6).toInt).toNat < n → 0 ≤ (v6).toInt → Zr 0 μ0 μ8 → wpl_X2_becomeRound_36 k0 k1 v7 K59 n v6 μ8 := by
  intro n
  induction n with
  | zero => intro v6 μ8 hm; exact absurd hm (Nat.not_lt_zero _)
  | succ n ih =>
    intro v6 μ8 hm hi hF
    show ((3 : Int32) ≤ v6 → (K59 μ8)) ∧ (¬ (3 : Int32) ≤ v6 → (wp_X2_sources k1 μ8 v7 v6 (fun (r10 : Int32) => wp_X7_put k0 μ8 v7 v6 r10 (fun (μ13 : TMem) => wpl_X2_becomeRound_36 k0 k1 v7 K59 n (v6 + (1 : Int32)) μ13))))
    refine ⟨fun c_ex => ?_, fun c_in => ?_⟩
    · exact hK59 μ8 hF
    have c_lt : ¬ ((3 : Int32)) ≤ v6 := c_in
    refine f_X2_sources k1 hk1 μ8 v7 v6 (fun r10 => ?_)
    refine z_X7_put k0 ⟨Or.inl hk0.1, hk0.2⟩ μ8 v7 v6 r10 (fun μ13 hf242 => ?_)
    exact ih (v6 + (1 : Int32)) μ13 (lt_m c_lt (by omega)) (lt_p (by assumption) c_lt) (Zr.trans hF (Zr.up (by decide) hf242))
set_option maxHeartbeats 2000000 in
theorem zl_wpl_X2_becomeRound_26 (μ0 : TMem) (k0 : Nat) (hk0 : kd k0 = 2 ∧ 9 < k0) (k1 : Nat) (hk1 : kd k1 = 2) {Q : TMem → Prop} (h : ∀ μ9 : TMem, Zr 0 μ0 μ9 → Q μ9) : ∀ (n : Nat) (v2 : Int32) (μ3 : TMem), (((μ0 k0 1)).toInt - (v2).toInt).toNat < n → 0 ≤ (v2).toInt → Zr 0 μ0 μ3 → wpl_X2_becomeRound_26 k0 k1 Q n v2 μ3 := by
  intro n
  induction n with
  | zero => intro v2 μ3 hm; exact absurd hm (Nat.not_lt_zero _)
  | succ n ih =>
    intro v2 μ3 hm hi hF
    show ((μ3 k0 1) ≤ v2 → (Q μ3)) ∧ (¬ (μ3 k0 1) ≤ v2 → (∃ n4x, wpl_X2_becomeRound_36 k0 k1 v2 (fun (μ15 : TMem) => wpl_X2_becomeRound_26 k0 k1 Q n (v2 + (1 : Int32)) μ15) n4x (0 : Int32) μ3))
    refine ⟨fun c_ex => ?_, fun c_in => ?_⟩
    · exact h _ hF
    have e_k0_1 : μ3 k0 1 = μ0 k0 1 := hF.1.1 k0 1 (by rw [show kd k0 = 2 from hk0.1] <;> rfl)
    have c_lt : ¬ ((μ0 k0 1)) ≤ v2 := by
      rw [e_k0_1] at c_in
      exact c_in
    refine ⟨_, zl_wpl_X2_becomeRound_36 μ3 k0 hk0 k1 hk1 v2 ?_ _ (0 : Int32) μ3 (Nat.lt_succ_self _) (by first | decide | omega) Zr.rf⟩
    · intro μ15 hf243
      exact ih (v2 + (1 : Int32)) μ15 (lt_m c_lt (by omega)) (lt_p (by assumption) c_lt) (Zr.trans hF (Zr.up (by decide) hf243))
set_option maxHeartbeats 2000000 in
theorem z_X2_becomeRound (k0 : Nat) (hk0 : kd k0 = 2 ∧ 9 < k0) (k1 : Nat) (hk1 : kd k1 = 2) (μ : TMem)  {Q : TMem → Prop} (h : ∀ μ9 : TMem, Zr 2 μ μ9 → Q μ9) : wp_X2_becomeRound k0 k1 μ Q := by
  show ∃ n0x, wpl_X2_becomeRound_26 k0 k1 Q n0x (0 : Int32) (tms (tms (tms μ k0 1 (μ k1 1)) k0 3 ((tms μ k0 1 (μ k1 1)) k1 2)) k0 2 ((tms (tms μ k0 1 (μ k1 1)) k0 3 ((tms μ k0 1 (μ k1 1)) k1 2)) k1 3))
  refine ⟨_, zl_wpl_X2_becomeRound_26 (tms (tms (tms μ k0 1 (μ k1 1)) k0 3 ((tms μ k0 1 (μ k1 1)) k1 2)) k0 2 ((tms (tms μ k0 1 (μ k1 1)) k0 3 ((tms μ k0 1 (μ k1 1)) k1 2)) k1 3)) k0 hk0 k1 hk1 (fun μ9 f9 => h μ9 (Zr.trans (Zr.st (Zr.st (Zr.st (Zr.rf) (by rw [show kd k0 = 2 from hk0.1] <;> rfl) (Or.inl (ne43 (K := 2) hk0.1 (by decide)))) (by rw [show kd k0 = 2 from hk0.1] <;> rfl) (Or.inl (ne43 (K := 2) hk0.1 (by decide)))) (by rw [show kd k0 = 2 from hk0.1] <;> rfl) (Or.inl (ne43 (K := 2) hk0.1 (by decide)))) (Zr.up (by decide) f9))) _ (0 : Int32) (tms (tms (tms μ k0 1 (μ k1 1)) k0 3 ((tms μ k0 1 (μ k1 1)) k1 2)) k0 2 ((tms (tms μ k0 1 (μ k1 1)) k0 3 ((tms μ k0 1 (μ k1 1)) k1 2)) k1 3)) (Nat.lt_succ_self _) (by first | decide | omega) Zr.rf⟩
set_option maxHeartbeats 2000000 in
theorem z_X3_makeByTurning (k1 : Nat) (hk1 : kd k1 = 2) (k2 : Nat) (hk2 : kd k2 = 5) (μ : TMem)  {Q : Int32 → TMem → Prop} (h : ∀ (r : Int32) (μ9 : TMem), isB r → Zr 2 μ μ9 → Q r μ9) : wp_X3_makeByTurning k1 k2 μ Q := by
  show wp_X2_becomeRound 31 k1 μ (fun (μ1 : TMem) => wp_X3_makeOneWay 31 33 μ1 (fun (r3 : Int32) (μ2 : TMem) => (¬ r3 = 0 → (wp_X2_becomePlain 29 33 μ2 (fun (μ5 : TMem) => wp_X2_becomeRound 31 29 μ5 (fun (μ6 : TMem) => wp_X3_makeOneWay 31 k2 μ6 (fun (r8 : Int32) (μ7 : TMem) => isB r8 ∧ Q r8 μ7))))) ∧ (r3 = 0 → (Q (0 : Int32) μ2))))
  refine z_X2_becomeRound 31 ⟨rfl, by decide⟩ k1 hk1 μ (fun μ1 hf253 => ?_)
  refine z_X3_makeOneWay 31 rfl 33 rfl μ1 (fun r3 μ2 b254 hf255 => ?_)
  refine ⟨fun c256 => ?_, fun c257 => ?_⟩
  · refine z_X2_becomePlain 29 ⟨rfl, by decide⟩ 33 rfl μ2 (fun μ5 hf258 => ?_)
    refine z_X2_becomeRound 31 ⟨rfl, by decide⟩ 29 rfl μ5 (fun μ6 hf259 => ?_)
    refine z_X3_makeOneWay 31 rfl k2 hk2 μ6 (fun r8 μ7 b260 hf261 => ?_)
    refine ⟨(by first | assumption | exact Or.inl rfl | exact Or.inr rfl | exact isB_or (by assumption) (by first | assumption | exact Or.inl rfl | exact Or.inr rfl)), ?_⟩
    exact h _ _ (by first | assumption | exact Or.inl rfl | exact Or.inr rfl | exact isB_or (by assumption) (by first | assumption | exact Or.inl rfl | exact Or.inr rfl)) (Zr.trans (Zr.trans (Zr.trans (Zr.trans (Zr.trans (Zr.rf) (Zr.up (by decide) hf253)) (Zr.up (by decide) hf255)) (Zr.up (by decide) hf258)) (Zr.up (by decide) hf259)) (Zr.up (by decide) hf261))
  · exact h _ _ (by first | assumption | exact Or.inl rfl | exact Or.inr rfl | exact isB_or (by assumption) (by first | assumption | exact Or.inl rfl | exact Or.inr rfl)) (Zr.trans (Zr.trans (Zr.rf) (Zr.up (by decide) hf253)) (Zr.up (by decide) hf255))
set_option maxHeartbeats 2000000 in
theorem z_X3_makeBy (k2 : Nat) (hk2 : kd k2 = 2) (k3 : Nat) (hk3 : kd k3 = 5) (μ : TMem) (a1 : Int32) {Q : Int32 → TMem → Prop} (h : ∀ (r : Int32) (μ9 : TMem), isB r → Zr 2 μ μ9 → Q r μ9) : wp_X3_makeBy k2 k3 μ a1 Q := by
  show (¬ a1 = (3 : Int32) → ((¬ a1 = (2 : Int32) → (wp_X3_makeOneWay k2 33 μ (fun (r4 : Int32) (μ3 : TMem) => (¬ r4 = 0 → (∀ J6 : TMem → Prop, (∀ (μ7 : TMem), (wp_X3_makeGroups 33 k3 μ7 (fun (μ8 : TMem) => Q (1 : Int32) μ8)) → J6 μ7) → ((¬ a1 = (1 : Int32) → (wp_X1_findByParting 33 μ3 (fun (μ10 : TMem) => J6 μ10))) ∧ (a1 = (1 : Int32) → (wp_X1_findByPairs 33 μ3 (fun (μ11 : TMem) => J6 μ11)))))) ∧ (r4 = 0 → (Q (0 : Int32) μ3))))) ∧ (a1 = (2 : Int32) → (wp_X3_makeByTurning k2 k3 μ (fun (r13 : Int32) (μ12 : TMem) => isB r13 ∧ Q r13 μ12))))) ∧ (a1 = (3 : Int32) → (wp_X3_makeOneWay k2 k3 μ (fun (r16 : Int32) (μ15 : TMem) => isB r16 ∧ Q r16 μ15)))
  refine ⟨fun c262 => ?_, fun c263 => ?_⟩
  · refine ⟨fun c264 => ?_, fun c265 => ?_⟩
    · refine z_X3_makeOneWay k2 hk2 33 rfl μ (fun r4 μ3 b266 hf267 => ?_)
      refine ⟨fun c268 => ?_, fun c269 => ?_⟩
      · intro J6 hJ6
        refine ⟨fun c270 => ?_, fun c271 => ?_⟩
        · refine z_X1_findByParting 33 rfl μ3 (fun μ10 hf272 => ?_)
          refine hJ6 μ10 ?_
          refine z_X3_makeGroups 33 rfl k3 hk3 μ10 (fun μ8 hf273 => ?_)
          exact h _ _ (by first | assumption | exact Or.inl rfl | exact Or.inr rfl | exact isB_or (by assumption) (by first | assumption | exact Or.inl rfl | exact Or.inr rfl)) (Zr.trans (Zr.trans (Zr.trans (Zr.rf) (Zr.up (by decide) hf267)) (Zr.up (by decide) hf272)) (Zr.up (by decide) hf273))
        · refine z_X1_findByPairs 33 rfl μ3 (fun μ11 hf274 => ?_)
          refine hJ6 μ11 ?_
          refine z_X3_makeGroups 33 rfl k3 hk3 μ11 (fun μ8 hf275 => ?_)
          exact h _ _ (by first | assumption | exact Or.inl rfl | exact Or.inr rfl | exact isB_or (by assumption) (by first | assumption | exact Or.inl rfl | exact Or.inr rfl)) (Zr.trans (Zr.trans (Zr.trans (Zr.rf) (Zr.up (by decide) hf267)) (Zr.up (by decide) hf274)) (Zr.up (by decide) hf275))
      · exact h _ _ (by first | assumption | exact Or.inl rfl | exact Or.inr rfl | exact isB_or (by assumption) (by first | assumption | exact Or.inl rfl | exact Or.inr rfl)) (Zr.trans (Zr.rf) (Zr.up (by decide) hf267))
    · refine z_X3_makeByTurning k2 hk2 k3 hk3 μ (fun r13 μ12 b276 hf277 => ?_)
      refine ⟨(by first | assumption | exact Or.inl rfl | exact Or.inr rfl | exact isB_or (by assumption) (by first | assumption | exact Or.inl rfl | exact Or.inr rfl)), ?_⟩
      exact h _ _ (by first | assumption | exact Or.inl rfl | exact Or.inr rfl | exact isB_or (by assumption) (by first | assumption | exact Or.inl rfl | exact Or.inr rfl)) (Zr.trans (Zr.rf) (Zr.up (by decide) hf277))
  · refine z_X3_makeOneWay k2 hk2 k3 hk3 μ (fun r16 μ15 b278 hf279 => ?_)
    refine ⟨(by first | assumption | exact Or.inl rfl | exact Or.inr rfl | exact isB_or (by assumption) (by first | assumption | exact Or.inl rfl | exact Or.inr rfl)), ?_⟩
    exact h _ _ (by first | assumption | exact Or.inl rfl | exact Or.inr rfl | exact isB_or (by assumption) (by first | assumption | exact Or.inl rfl | exact Or.inr rfl)) (Zr.trans (Zr.rf) (Zr.up (by decide) hf279))
set_option maxHeartbeats 2000000 in
theorem zl_wpl_X8_count_2 (μ0 : TMem) (k1 : Nat) (hk1 : kd k1 = 5) {K37 : TMem → Prop} (hK37 : ∀ (u0 : TMem), Zr 0 μ0 u0 → K37 u0) : ∀ (n : Nat) (v2 : Int32) (μ3 : TMem), (((μ0 k1 1)).toInt - (v2).toInt).toNat < n → 0 ≤ (v2).toInt → Zr 0 μ0 μ3 → wpl_X8_count_2 k1 K37 n v2 μ3 := by
  intro n
  induction n with
  | zero => intro v2 μ3 hm; exact absurd hm (Nat.not_lt_zero _)
  | succ n ih =>
    intro v2 μ3 hm hi hF
    show ((μ3 k1 1) ≤ v2 → (K37 μ3)) ∧ (¬ (μ3 k1 1) ≤ v2 → (wp_X5_isGoal k1 μ3 v2 (fun (r5 : Int32) => ∀ J8 : Int32 → Prop, (∀ (j9 : Int32), (wp_X6_put 49 μ3 v2 j9 (fun (μ10 : TMem) => wpl_X8_count_2 k1 K37 n (v2 + (1 : Int32)) μ10)) → J8 j9) → ((r5 = 0 → (J8 (0 : Int32))) ∧ (¬ r5 = 0 → (J8 (1 : Int32)))))))
    refine ⟨fun c_ex => ?_, fun c_in => ?_⟩
    · exact hK37 μ3 hF
    have e_k1_1 : μ3 k1 1 = μ0 k1 1 := hF.1.1 k1 1 (by rw [show kd k1 = 5 from hk1] <;> rfl)
    have c_lt : ¬ ((μ0 k1 1)) ≤ v2 := by
      rw [e_k1_1] at c_in
      exact c_in
    refine f_X5_isGoal k1 hk1 μ3 v2 (fun r5 b289 => ?_)
    intro J8 hJ8
    refine ⟨fun c290 => ?_, fun c291 => ?_⟩
    · refine hJ8 (0 : Int32) ?_
      refine z_X6_put 49 rfl μ3 v2 (0 : Int32) (Or.inl (by decide)) (fun μ10 hf292 => ?_)
      exact ih (v2 + (1 : Int32)) μ10 (lt_m c_lt (by omega)) (lt_p (by assumption) c_lt) (Zr.trans hF (Zr.up (by decide) hf292))
    · refine hJ8 (1 : Int32) ?_
      refine z_X6_put 49 rfl μ3 v2 (1 : Int32) (Or.inl (by decide)) (fun μ10 hf293 => ?_)
      exact ih (v2 + (1 : Int32)) μ10 (lt_m c_lt (by omega)) (lt_p (by assumption) c_lt) (Zr.trans hF (Zr.up (by decide) hf293))
set_option maxHeartbeats 2000000 in
theorem zl_wpl_X8_count_47 (μ0 : TMem) (k1 : Nat) (hk1 : kd k1 = 5) (v20 : Int32) {K83 : TMem → Prop} (hK83 : ∀ (u0 : TMem), Zr 0 μ0 u0 → K83 u0) : ∀ (n : Nat) (v19 : Int32) (μ21 : TMem), (((μ0 k1 1)).toInt - (v19).toInt).toNat < n → 0 ≤ (v19).toInt → Zr 0 μ0 μ21 → wpl_X8_count_47 k1 v20 K83 n v19 μ21 := by
  intro n
  induction n with
  | zero => intro v19 μ21 hm; exact absurd hm (Nat.not_lt_zero _)
  | succ n ih =>
    intro v19 μ21 hm hi hF
    show ((μ21 k1 1) ≤ v19 → (K83 μ21)) ∧ (¬ (μ21 k1 1) ≤ v19 → (wp_X8_sumOver k1 μ21 v19 (v20 - (1 : Int32)) (fun (r23 : Int32) => wp_X6_put 49 μ21 ((v20 * (32 : Int32)) + v19) r23 (fun (μ26 : TMem) => wpl_X8_count_47 k1 v20 K83 n (v19 + (1 : Int32)) μ26))))
    refine ⟨fun c_ex => ?_, fun c_in => ?_⟩
    · exact hK83 μ21 hF
    have e_k1_1 : μ21 k1 1 = μ0 k1 1 := hF.1.1 k1 1 (by rw [show kd k1 = 5 from hk1] <;> rfl)
    have c_lt : ¬ ((μ0 k1 1)) ≤ v19 := by
      rw [e_k1_1] at c_in
      exact c_in
    refine f_X8_sumOver k1 hk1 μ21 v19 (v20 - (1 : Int32)) (fun r23 => ?_)
    refine z_X6_put 49 rfl μ21 ((v20 * (32 : Int32)) + v19) r23 (Or.inl (by decide)) (fun μ26 hf294 => ?_)
    exact ih (v19 + (1 : Int32)) μ26 (lt_m c_lt (by omega)) (lt_p (by assumption) c_lt) (Zr.trans hF (Zr.up (by decide) hf294))
set_option maxHeartbeats 2000000 in
theorem zl_wpl_X8_count_39 (μ0 : TMem) (k1 : Nat) (hk1 : kd k1 = 5) {Q : TMem → Prop} (h : ∀ μ9 : TMem, Zr 0 μ0 μ9 → Q μ9) : ∀ (n : Nat) (v15 : Int32) (μ16 : TMem), (((12 : Int32)).toInt + 1 - (v15).toInt).toNat < n → 0 ≤ (v15).toInt → Zr 0 μ0 μ16 → wpl_X8_count_39 k1 Q n v15 μ16 := by
  intro n
  induction n with
  | zero => intro v15 μ16 hm; exact absurd hm (Nat.not_lt_zero _)
  | succ n ih =>
    intro v15 μ16 hm hi hF
    show ((12 : Int32) < v15 → (Q μ16)) ∧ (¬ (12 : Int32) < v15 → (∃ n17x, wpl_X8_count_47 k1 v15 (fun (μ28 : TMem) => wpl_X8_count_39 k1 Q n (v15 + (1 : Int32)) μ28) n17x (0 : Int32) μ16))
    refine ⟨fun c_ex => ?_, fun c_in => ?_⟩
    · exact h _ hF
    have c_lt : ¬ ((12 : Int32)) < v15 := c_in
    refine ⟨_, zl_wpl_X8_count_47 μ16 k1 hk1 v15 ?_ _ (0 : Int32) μ16 (Nat.lt_succ_self _) (by first | decide | omega) Zr.rf⟩
    · intro μ28 hf295
      exact ih (v15 + (1 : Int32)) μ28 (lt_ms c_lt (by decide) (by omega)) (lt_ps (by assumption) c_lt (by decide)) (Zr.trans hF (Zr.up (by decide) hf295))
set_option maxHeartbeats 2000000 in
theorem z_X8_count (k1 : Nat) (hk1 : kd k1 = 5) (μ : TMem)  {Q : TMem → Prop} (h : ∀ μ9 : TMem, Zr 0 μ μ9 → Q μ9) : wp_X8_count k1 μ Q := by
  show ∃ n0x, wpl_X8_count_2 k1 (fun (μ13 : TMem) => ∃ n13x, wpl_X8_count_39 k1 Q n13x (1 : Int32) μ13) n0x (0 : Int32) μ
  refine ⟨_, zl_wpl_X8_count_2 μ k1 hk1 ?_ _ (0 : Int32) μ (Nat.lt_succ_self _) (by first | decide | omega) Zr.rf⟩
  · intro μ13 hf296
    refine ⟨_, zl_wpl_X8_count_39 μ13 k1 hk1 (fun μ9 f9 => h μ9 (Zr.trans (Zr.trans (Zr.rf) (Zr.up (by decide) hf296)) (Zr.up (by decide) f9))) _ (1 : Int32) μ13 (Nat.lt_succ_self _) (by first | decide | omega) Zr.rf⟩
set_option maxHeartbeats 2000000 in
theorem z_X9_machineAt (μ : TMem) (a1 : Int32) {Q : Nat → TMem → Prop} {X : String → TMem → Prop} (h : ∀ (r : Nat) (μ9 : TMem), kd r = 2 → Zr 0 μ μ9 → Q r μ9) (hX : ∀ (E : String) (μ9 : TMem), E ∈ ex_I → Zr 0 μ μ9 → X E μ9) : wp_X9_machineAt μ a1 Q X := by
  show (a1 < 0 → (X "java/lang/IndexOutOfBoundsException" μ)) ∧ (¬ a1 < 0 → ((a1 < (4 : Int32) → (vp_in a1 4 ∧ (Q (2 + 2 * a1.toNatClampNeg) μ))) ∧ (¬ a1 < (4 : Int32) → (X "java/lang/IndexOutOfBoundsException" μ))))
  refine ⟨fun c297 => ?_, fun c298 => ?_⟩
  · exact hX _ _ (by decide) (Zr.rf)
  · refine ⟨fun c299 => ?_, fun c300 => ?_⟩
    · have hv301 : vp_in a1 4 := (by first | exact vp_a (by assumption) (by assumption) (tl_s _) | exact vp_b (by assumption) (by assumption) (tl_s _) | exact vp_a (n := 4) (by assumption) (by assumption) (by decide) | exact vp_b (n := 4) (by assumption) (by assumption) (by decide) | exact vp_c (by assumption) (by assumption))
      refine ⟨hv301, ?_⟩
      exact h _ _ (kd_ma _ (vp_lt (by assumption))) (Zr.rf)
    · exact hX _ _ (by decide) (Zr.rf)
set_option maxHeartbeats 2000000 in
theorem z_X9_checkRange (μ : TMem) (a0 : Int32) (a1 : Int32) (a2 : Int32) {Q : TMem → Prop} {X : String → TMem → Prop} (h : ∀ μ9 : TMem, Zr 0 μ μ9 → Q μ9) (hX : ∀ (E : String) (μ9 : TMem), E ∈ ex_A → Zr 0 μ μ9 → X E μ9) : wp_X9_checkRange μ a0 a1 a2 Q X := by
  show (a0 < a1 → (X "java/lang/IllegalArgumentException" μ)) ∧ (¬ a0 < a1 → ((a0 ≤ a2 → (Q μ)) ∧ (¬ a0 ≤ a2 → (X "java/lang/IllegalArgumentException" μ))))
  refine ⟨fun c302 => ?_, fun c303 => ?_⟩
  · exact hX _ _ (by decide) (Zr.rf)
  · refine ⟨fun c304 => ?_, fun c305 => ?_⟩
    · exact h _ (Zr.rf)
    · exact hX _ _ (by decide) (Zr.rf)
set_option maxHeartbeats 2000000 in
theorem z_X9_checkWord (μ : TMem) (a0 : Int32) (a1 : Int32) {Q : TMem → Prop} {X : String → TMem → Prop} (h : ∀ μ9 : TMem, Zr 0 μ μ9 → Q μ9) (hX : ∀ (E : String) (μ9 : TMem), E ∈ ex_A → Zr 0 μ μ9 → X E μ9) : wp_X9_checkWord μ a0 a1 Q X := by
  show wp_X9_checkRange μ a0 (0 : Int32) (12 : Int32) (fun (μ1 : TMem) => wp_X9_countCodes a0 (fun (r2 : Int32) => wp_X9_checkRange μ1 a1 (0 : Int32) (r2 - (1 : Int32)) (fun (μ3 : TMem) => Q μ3) X)) X
  refine z_X9_checkRange μ a0 (0 : Int32) (12 : Int32) (fun μ1 hf466 => ?_) (fun E9 μ9 e9 f9 => hX E9 μ9 e9 (Zr.trans (Zr.rf) (Zr.up (by decide) f9)))
  refine f_X9_countCodes a0 (fun r2 => ?_)
  refine z_X9_checkRange μ1 a1 (0 : Int32) (r2 - (1 : Int32)) (fun μ3 hf467 => ?_) (fun E9 μ9 e9 f9 => hX E9 μ9 e9 (Zr.trans (Zr.trans (Zr.rf) (Zr.up (by decide) hf466)) (Zr.up (by decide) f9)))
  exact h _ (Zr.trans (Zr.trans (Zr.rf) (Zr.up (by decide) hf466)) (Zr.up (by decide) hf467))
set_option maxHeartbeats 2000000 in
theorem z_X9_makeOrThrow (k2 : Nat) (hk2 : kd k2 = 2) (k3 : Nat) (hk3 : kd k3 = 5) (μ : TMem) (a1 : Int32) {Q : TMem → Prop} {X : String → TMem → Prop} (h : ∀ μ9 : TMem, Zr 2 μ μ9 → Q μ9) (hX : ∀ (E : String) (μ9 : TMem), E ∈ ex_S → Zr 2 μ μ9 → X E μ9) : wp_X9_makeOrThrow k2 k3 μ a1 Q X := by
  show wp_X3_makeBy k2 k3 μ a1 (fun (r2 : Int32) (μ1 : TMem) => (¬ r2 = 0 → (Q μ1)) ∧ (r2 = 0 → (X "java/lang/IllegalStateException" μ1)))
  refine z_X3_makeBy k2 hk2 k3 hk3 μ a1 (fun r2 μ1 b472 hf473 => ?_)
  refine ⟨fun c474 => ?_, fun c475 => ?_⟩
  · exact h _ (Zr.trans (Zr.rf) (Zr.up (by decide) hf473))
  · exact hX _ _ (by decide) (Zr.trans (Zr.rf) (Zr.up (by decide) hf473))
set_option maxHeartbeats 2000000 in
theorem z_X9_after (μ : TMem) (a1 : Int32) (a2 : Int32) (a3 : Int32) (a4 : Int32) {Q : Int32 → TMem → Prop} {X : String → TMem → Prop} (h : ∀ (r : Int32) (μ9 : TMem), Zr 2 μ μ9 → Q r μ9) (hX : ∀ (E : String) (μ9 : TMem), E ∈ ex_IAS → Zr 2 μ μ9 → X E μ9) : wp_X9_after μ a1 a2 a3 a4 Q X := by
  show wp_X9_machineAt μ a1 (fun (k2 : Nat) (μ1 : TMem) => wp_X9_checkWord μ1 a2 a3 (fun (μ3 : TMem) => wp_X9_checkRange μ3 a4 (0 : Int32) (2 : Int32) (fun (μ4 : TMem) => (¬ a4 = 0 → ((¬ a4 = (1 : Int32) → (wp_X9_makeOrThrow k2 57 μ4 (0 : Int32) (fun (μ7 : TMem) => wp_X5_stateAfter 57 μ7 a2 a3 (fun (r8 : Int32) => Q r8 μ7)) X)) ∧ (a4 = (1 : Int32) → (wp_X9_makeOrThrow k2 57 μ4 (3 : Int32) (fun (μ11 : TMem) => wp_X5_stateAfter 57 μ11 a2 a3 (fun (r12 : Int32) => Q r12 μ11)) X)))) ∧ (a4 = 0 → (wp_X2_statesAfter k2 μ4 a2 a3 (fun (r15 : Int32) => Q r15 μ4)))) X) X) X
  refine z_X9_machineAt μ a1 (fun k2 μ1 hk476 hf477 => ?_) (fun E9 μ9 e9 f9 => hX E9 μ9 (ex_sub (by decide) e9) (Zr.trans (Zr.rf) (Zr.up (by decide) f9)))
  refine z_X9_checkWord μ1 a2 a3 (fun μ3 hf478 => ?_) (fun E9 μ9 e9 f9 => hX E9 μ9 (ex_sub (by decide) e9) (Zr.trans (Zr.trans (Zr.rf) (Zr.up (by decide) hf477)) (Zr.up (by decide) f9)))
  refine z_X9_checkRange μ3 a4 (0 : Int32) (2 : Int32) (fun μ4 hf479 => ?_) (fun E9 μ9 e9 f9 => hX E9 μ9 (ex_sub (by decide) e9) (Zr.trans (Zr.trans (Zr.trans (Zr.rf) (Zr.up (by decide) hf477)) (Zr.up (by decide) hf478)) (Zr.up (by decide) f9)))
  refine ⟨fun c480 => ?_, fun c481 => ?_⟩
  · refine ⟨fun c482 => ?_, fun c483 => ?_⟩
    · refine z_X9_makeOrThrow k2 hk476 57 rfl μ4 (0 : Int32) (fun μ7 hf484 => ?_) (fun E9 μ9 e9 f9 => hX E9 μ9 (ex_sub (by decide) e9) (Zr.trans (Zr.trans (Zr.trans (Zr.trans (Zr.rf) (Zr.up (by decide) hf477)) (Zr.up (by decide) hf478)) (Zr.up (by decide) hf479)) (Zr.up (by decide) f9)))
      refine f_X5_stateAfter 57 rfl μ7 a2 a3 (fun r8 => ?_)
      exact h _ _ (Zr.trans (Zr.trans (Zr.trans (Zr.trans (Zr.rf) (Zr.up (by decide) hf477)) (Zr.up (by decide) hf478)) (Zr.up (by decide) hf479)) (Zr.up (by decide) hf484))
    · refine z_X9_makeOrThrow k2 hk476 57 rfl μ4 (3 : Int32) (fun μ11 hf485 => ?_) (fun E9 μ9 e9 f9 => hX E9 μ9 (ex_sub (by decide) e9) (Zr.trans (Zr.trans (Zr.trans (Zr.trans (Zr.rf) (Zr.up (by decide) hf477)) (Zr.up (by decide) hf478)) (Zr.up (by decide) hf479)) (Zr.up (by decide) f9)))
      refine f_X5_stateAfter 57 rfl μ11 a2 a3 (fun r12 => ?_)
      exact h _ _ (Zr.trans (Zr.trans (Zr.trans (Zr.trans (Zr.rf) (Zr.up (by decide) hf477)) (Zr.up (by decide) hf478)) (Zr.up (by decide) hf479)) (Zr.up (by decide) hf485))
  · refine f_X2_statesAfter k2 hk476 μ4 a2 a3 (fun r15 => ?_)
    exact h _ _ (Zr.trans (Zr.trans (Zr.trans (Zr.rf) (Zr.up (by decide) hf477)) (Zr.up (by decide) hf478)) (Zr.up (by decide) hf479))
set_option maxHeartbeats 2000000 in
theorem z_X9_size (μ : TMem) (a1 : Int32) (a2 : Int32) {Q : Int32 → TMem → Prop} {X : String → TMem → Prop} (h : ∀ (r : Int32) (μ9 : TMem), Zr 2 μ μ9 → Q r μ9) (hX : ∀ (E : String) (μ9 : TMem), E ∈ ex_IAS → Zr 2 μ μ9 → X E μ9) : wp_X9_size μ a1 a2 Q X := by
  show wp_X9_machineAt μ a1 (fun (k2 : Nat) (μ1 : TMem) => wp_X9_checkRange μ1 a2 (0 : Int32) (3 : Int32) (fun (μ3 : TMem) => wp_X9_makeOrThrow k2 57 μ3 a2 (fun (μ4 : TMem) => Q (μ4 57 1) μ4) X) X) X
  refine z_X9_machineAt μ a1 (fun k2 μ1 hk486 hf487 => ?_) (fun E9 μ9 e9 f9 => hX E9 μ9 (ex_sub (by decide) e9) (Zr.trans (Zr.rf) (Zr.up (by decide) f9)))
  refine z_X9_checkRange μ1 a2 (0 : Int32) (3 : Int32) (fun μ3 hf488 => ?_) (fun E9 μ9 e9 f9 => hX E9 μ9 (ex_sub (by decide) e9) (Zr.trans (Zr.trans (Zr.rf) (Zr.up (by decide) hf487)) (Zr.up (by decide) f9)))
  refine z_X9_makeOrThrow k2 hk486 57 rfl μ3 a2 (fun μ4 hf489 => ?_) (fun E9 μ9 e9 f9 => hX E9 μ9 (ex_sub (by decide) e9) (Zr.trans (Zr.trans (Zr.trans (Zr.rf) (Zr.up (by decide) hf487)) (Zr.up (by decide) hf488)) (Zr.up (by decide) f9)))
  exact h _ _ (Zr.trans (Zr.trans (Zr.trans (Zr.rf) (Zr.up (by decide) hf487)) (Zr.up (by decide) hf488)) (Zr.up (by decide) hf489))
set_option maxHeartbeats 2000000 in
theorem z_X9_kind (μ : TMem) (a1 : Int32) {Q : Int32 → TMem → Prop} {X : String → TMem → Prop} (h : ∀ (r : Int32) (μ9 : TMem), Zr 2 μ μ9 → Q r μ9) (hX : ∀ (E : String) (μ9 : TMem), E ∈ ex_IS → Zr 2 μ μ9 → X E μ9) : wp_X9_kind μ a1 Q X := by
  show wp_X9_machineAt μ a1 (fun (k2 : Nat) (μ1 : TMem) => wp_X9_makeOrThrow k2 57 μ1 (0 : Int32) (fun (μ3 : TMem) => (¬ (μ3 57 1) = (1 : Int32) → (wp_X5_isTakingLongOnes 57 μ3 (fun (r5 : Int32) => (r5 = 0 → (Q (2 : Int32) μ3)) ∧ (¬ r5 = 0 → (Q (3 : Int32) μ3))))) ∧ ((μ3 57 1) = (1 : Int32) → (wp_X5_isGoal 57 μ3 (0 : Int32) (fun (r9 : Int32) => (r9 = 0 → (Q (0 : Int32) μ3)) ∧ (¬ r9 = 0 → (Q (1 : Int32) μ3)))))) X) X
  refine z_X9_machineAt μ a1 (fun k2 μ1 hk490 hf491 => ?_) (fun E9 μ9 e9 f9 => hX E9 μ9 (ex_sub (by decide) e9) (Zr.trans (Zr.rf) (Zr.up (by decide) f9)))
  refine z_X9_makeOrThrow k2 hk490 57 rfl μ1 (0 : Int32) (fun μ3 hf492 => ?_) (fun E9 μ9 e9 f9 => hX E9 μ9 (ex_sub (by decide) e9) (Zr.trans (Zr.trans (Zr.rf) (Zr.up (by decide) hf491)) (Zr.up (by decide) f9)))
  refine ⟨fun c493 => ?_, fun c494 => ?_⟩
  · refine f_X5_isTakingLongOnes 57 rfl μ3 (fun r5 b495 => ?_)
    refine ⟨fun c496 => ?_, fun c497 => ?_⟩
    · exact h _ _ (Zr.trans (Zr.trans (Zr.rf) (Zr.up (by decide) hf491)) (Zr.up (by decide) hf492))
    · exact h _ _ (Zr.trans (Zr.trans (Zr.rf) (Zr.up (by decide) hf491)) (Zr.up (by decide) hf492))
  · refine f_X5_isGoal 57 rfl μ3 (0 : Int32) (fun r9 b498 => ?_)
    refine ⟨fun c499 => ?_, fun c500 => ?_⟩
    · exact h _ _ (Zr.trans (Zr.trans (Zr.rf) (Zr.up (by decide) hf491)) (Zr.up (by decide) hf492))
    · exact h _ _ (Zr.trans (Zr.trans (Zr.rf) (Zr.up (by decide) hf491)) (Zr.up (by decide) hf492))
set_option maxHeartbeats 2000000 in
theorem z_X9_many (μ : TMem) (a1 : Int32) (a2 : Int32) (a3 : Int32) {Q : Int32 → TMem → Prop} {X : String → TMem → Prop} (h : ∀ (r : Int32) (μ9 : TMem), Zr 2 μ μ9 → Q r μ9) (hX : ∀ (E : String) (μ9 : TMem), E ∈ ex_IAS → Zr 2 μ μ9 → X E μ9) : wp_X9_many μ a1 a2 a3 Q X := by
  show wp_X9_machineAt μ a1 (fun (k2 : Nat) (μ1 : TMem) => wp_X9_checkRange μ1 a3 (0 : Int32) (1 : Int32) (fun (μ3 : TMem) => (¬ a3 = (1 : Int32) → (wp_X9_checkRange μ3 a2 (0 : Int32) (12 : Int32) (fun (μ5 : TMem) => (¬ a3 = (1 : Int32) → (wp_X9_makeOrThrow k2 57 μ5 (0 : Int32) (fun (μ7 : TMem) => wp_X8_count 57 μ7 (fun (μ8 : TMem) => wp_X8_from μ8 (0 : Int32) a2 (fun (r9 : Int32) => Q r9 μ8))) X)) ∧ (a3 = (1 : Int32) → (wp_X2_countOneByOne k2 μ5 a2 (fun (r12 : Int32) => Q r12 μ5)))) X)) ∧ (a3 = (1 : Int32) → (wp_X9_checkRange μ3 a2 (0 : Int32) (5 : Int32) (fun (μ15 : TMem) => (¬ a3 = (1 : Int32) → (wp_X9_makeOrThrow k2 57 μ15 (0 : Int32) (fun (μ17 : TMem) => wp_X8_count 57 μ17 (fun (μ18 : TMem) => wp_X8_from μ18 (0 : Int32) a2 (fun (r19 : Int32) => Q r19 μ18))) X)) ∧ (a3 = (1 : Int32) → (wp_X2_countOneByOne k2 μ15 a2 (fun (r22 : Int32) => Q r22 μ15)))) X))) X) X
  refine z_X9_machineAt μ a1 (fun k2 μ1 hk501 hf502 => ?_) (fun E9 μ9 e9 f9 => hX E9 μ9 (ex_sub (by decide) e9) (Zr.trans (Zr.rf) (Zr.up (by decide) f9)))
  refine z_X9_checkRange μ1 a3 (0 : Int32) (1 : Int32) (fun μ3 hf503 => ?_) (fun E9 μ9 e9 f9 => hX E9 μ9 (ex_sub (by decide) e9) (Zr.trans (Zr.trans (Zr.rf) (Zr.up (by decide) hf502)) (Zr.up (by decide) f9)))
  refine ⟨fun c504 => ?_, fun c505 => ?_⟩
  · refine z_X9_checkRange μ3 a2 (0 : Int32) (12 : Int32) (fun μ5 hf506 => ?_) (fun E9 μ9 e9 f9 => hX E9 μ9 (ex_sub (by decide) e9) (Zr.trans (Zr.trans (Zr.trans (Zr.rf) (Zr.up (by decide) hf502)) (Zr.up (by decide) hf503)) (Zr.up (by decide) f9)))
    refine ⟨fun c507 => ?_, fun c508 => ?_⟩
    · refine z_X9_makeOrThrow k2 hk501 57 rfl μ5 (0 : Int32) (fun μ7 hf509 => ?_) (fun E9 μ9 e9 f9 => hX E9 μ9 (ex_sub (by decide) e9) (Zr.trans (Zr.trans (Zr.trans (Zr.trans (Zr.rf) (Zr.up (by decide) hf502)) (Zr.up (by decide) hf503)) (Zr.up (by decide) hf506)) (Zr.up (by decide) f9)))
      refine z_X8_count 57 rfl μ7 (fun μ8 hf510 => ?_)
      refine f_X8_from μ8 (0 : Int32) a2 (fun r9 => ?_)
      exact h _ _ (Zr.trans (Zr.trans (Zr.trans (Zr.trans (Zr.trans (Zr.rf) (Zr.up (by decide) hf502)) (Zr.up (by decide) hf503)) (Zr.up (by decide) hf506)) (Zr.up (by decide) hf509)) (Zr.up (by decide) hf510))
    · refine f_X2_countOneByOne k2 hk501 μ5 a2 (fun r12 => ?_)
      exact h _ _ (Zr.trans (Zr.trans (Zr.trans (Zr.rf) (Zr.up (by decide) hf502)) (Zr.up (by decide) hf503)) (Zr.up (by decide) hf506))
  · refine z_X9_checkRange μ3 a2 (0 : Int32) (5 : Int32) (fun μ15 hf511 => ?_) (fun E9 μ9 e9 f9 => hX E9 μ9 (ex_sub (by decide) e9) (Zr.trans (Zr.trans (Zr.trans (Zr.rf) (Zr.up (by decide) hf502)) (Zr.up (by decide) hf503)) (Zr.up (by decide) f9)))
    refine ⟨fun c512 => ?_, fun c513 => ?_⟩
    · refine z_X9_makeOrThrow k2 hk501 57 rfl μ15 (0 : Int32) (fun μ17 hf514 => ?_) (fun E9 μ9 e9 f9 => hX E9 μ9 (ex_sub (by decide) e9) (Zr.trans (Zr.trans (Zr.trans (Zr.trans (Zr.rf) (Zr.up (by decide) hf502)) (Zr.up (by decide) hf503)) (Zr.up (by decide) hf511)) (Zr.up (by decide) f9)))
      refine z_X8_count 57 rfl μ17 (fun μ18 hf515 => ?_)
      refine f_X8_from μ18 (0 : Int32) a2 (fun r19 => ?_)
      exact h _ _ (Zr.trans (Zr.trans (Zr.trans (Zr.trans (Zr.trans (Zr.rf) (Zr.up (by decide) hf502)) (Zr.up (by decide) hf503)) (Zr.up (by decide) hf511)) (Zr.up (by decide) hf514)) (Zr.up (by decide) hf515))
    · refine f_X2_countOneByOne k2 hk501 μ15 a2 (fun r22 => ?_)
      exact h _ _ (Zr.trans (Zr.trans (Zr.trans (Zr.rf) (Zr.up (by decide) hf502)) (Zr.up (by decide) hf503)) (Zr.up (by decide) hf511))
set_option maxHeartbeats 2000000 in
theorem z_X9_meetOrThrow (k1 : Nat) (hk1 : kd k1 = 2) (k2 : Nat) (hk2 : kd k2 = 2) (μ : TMem)  {Q : TMem → Prop} {X : String → TMem → Prop} (h : ∀ μ9 : TMem, Zr 2 μ μ9 → Q μ9) (hX : ∀ (E : String) (μ9 : TMem), E ∈ ex_S → Zr 2 μ μ9 → X E μ9) : wp_X9_meetOrThrow k1 k2 μ Q X := by
  show wp_X9_meetPairs k1 k2 μ (200 : Int32) (0 : Int32) (fun (r2 : Int32) (μ1 : TMem) => (¬ r2 = 0 → (Q μ1)) ∧ (r2 = 0 → (X "java/lang/IllegalStateException" μ1)))
  refine z_X9_meetPairs k1 hk1 k2 hk2 μ (200 : Int32) (0 : Int32) (fun r2 μ1 b516 hf517 => ?_)
  refine ⟨fun c518 => ?_, fun c519 => ?_⟩
  · exact h _ (Zr.trans (Zr.rf) (Zr.up (by decide) hf517))
  · exact hX _ _ (by decide) (Zr.trans (Zr.rf) (Zr.up (by decide) hf517))
set_option maxHeartbeats 2000000 in
theorem z_X9_isAlike (μ : TMem) (a1 : Int32) (a2 : Int32) (a3 : Int32) {Q : Int32 → TMem → Prop} {X : String → TMem → Prop} (h : ∀ (r : Int32) (μ9 : TMem), isB r → Zr 2 μ μ9 → Q r μ9) (hX : ∀ (E : String) (μ9 : TMem), E ∈ ex_IAS → Zr 2 μ μ9 → X E μ9) : wp_X9_isAlike μ a1 a2 a3 Q X := by
  show wp_X9_machineAt μ a1 (fun (k2 : Nat) (μ1 : TMem) => wp_X9_machineAt μ1 a2 (fun (k4 : Nat) (μ3 : TMem) => wp_X9_checkRange μ3 a3 (0 : Int32) (1 : Int32) (fun (μ5 : TMem) => (¬ a3 = 0 → (wp_X9_makeOrThrow k2 51 μ5 (0 : Int32) (fun (μ7 : TMem) => wp_X9_makeOrThrow k4 53 μ7 (0 : Int32) (fun (μ8 : TMem) => wp_X5_isSameAs 51 53 μ8 (fun (r9 : Int32) => isB r9 ∧ Q r9 μ8)) X) X)) ∧ (a3 = 0 → (wp_X9_meetOrThrow k2 k4 μ5 (fun (μ13 : TMem) => (¬ (μ13 35 9) = (-1 : Int32) → (Q (0 : Int32) μ13)) ∧ ((μ13 35 9) = (-1 : Int32) → (Q (1 : Int32) μ13))) X))) X) X) X
  refine z_X9_machineAt μ a1 (fun k2 μ1 hk520 hf521 => ?_) (fun E9 μ9 e9 f9 => hX E9 μ9 (ex_sub (by decide) e9) (Zr.trans (Zr.rf) (Zr.up (by decide) f9)))
  refine z_X9_machineAt μ1 a2 (fun k4 μ3 hk522 hf523 => ?_) (fun E9 μ9 e9 f9 => hX E9 μ9 (ex_sub (by decide) e9) (Zr.trans (Zr.trans (Zr.rf) (Zr.up (by decide) hf521)) (Zr.up (by decide) f9)))
  refine z_X9_checkRange μ3 a3 (0 : Int32) (1 : Int32) (fun μ5 hf524 => ?_) (fun E9 μ9 e9 f9 => hX E9 μ9 (ex_sub (by decide) e9) (Zr.trans (Zr.trans (Zr.trans (Zr.rf) (Zr.up (by decide) hf521)) (Zr.up (by decide) hf523)) (Zr.up (by decide) f9)))
  refine ⟨fun c525 => ?_, fun c526 => ?_⟩
  · refine z_X9_makeOrThrow k2 hk520 51 rfl μ5 (0 : Int32) (fun μ7 hf527 => ?_) (fun E9 μ9 e9 f9 => hX E9 μ9 (ex_sub (by decide) e9) (Zr.trans (Zr.trans (Zr.trans (Zr.trans (Zr.rf) (Zr.up (by decide) hf521)) (Zr.up (by decide) hf523)) (Zr.up (by decide) hf524)) (Zr.up (by decide) f9)))
    refine z_X9_makeOrThrow k4 hk522 53 rfl μ7 (0 : Int32) (fun μ8 hf528 => ?_) (fun E9 μ9 e9 f9 => hX E9 μ9 (ex_sub (by decide) e9) (Zr.trans (Zr.trans (Zr.trans (Zr.trans (Zr.trans (Zr.rf) (Zr.up (by decide) hf521)) (Zr.up (by decide) hf523)) (Zr.up (by decide) hf524)) (Zr.up (by decide) hf527)) (Zr.up (by decide) f9)))
    refine f_X5_isSameAs 51 rfl 53 rfl μ8 (fun r9 b529 => ?_)
    refine ⟨(by first | assumption | exact Or.inl rfl | exact Or.inr rfl | exact isB_or (by assumption) (by first | assumption | exact Or.inl rfl | exact Or.inr rfl)), ?_⟩
    exact h _ _ (by first | assumption | exact Or.inl rfl | exact Or.inr rfl | exact isB_or (by assumption) (by first | assumption | exact Or.inl rfl | exact Or.inr rfl)) (Zr.trans (Zr.trans (Zr.trans (Zr.trans (Zr.trans (Zr.rf) (Zr.up (by decide) hf521)) (Zr.up (by decide) hf523)) (Zr.up (by decide) hf524)) (Zr.up (by decide) hf527)) (Zr.up (by decide) hf528))
  · refine z_X9_meetOrThrow k2 hk520 k4 hk522 μ5 (fun μ13 hf530 => ?_) (fun E9 μ9 e9 f9 => hX E9 μ9 (ex_sub (by decide) e9) (Zr.trans (Zr.trans (Zr.trans (Zr.trans (Zr.rf) (Zr.up (by decide) hf521)) (Zr.up (by decide) hf523)) (Zr.up (by decide) hf524)) (Zr.up (by decide) f9)))
    refine ⟨fun c531 => ?_, fun c532 => ?_⟩
    · exact h _ _ (by first | assumption | exact Or.inl rfl | exact Or.inr rfl | exact isB_or (by assumption) (by first | assumption | exact Or.inl rfl | exact Or.inr rfl)) (Zr.trans (Zr.trans (Zr.trans (Zr.trans (Zr.rf) (Zr.up (by decide) hf521)) (Zr.up (by decide) hf523)) (Zr.up (by decide) hf524)) (Zr.up (by decide) hf530))
    · exact h _ _ (by first | assumption | exact Or.inl rfl | exact Or.inr rfl | exact isB_or (by assumption) (by first | assumption | exact Or.inl rfl | exact Or.inr rfl)) (Zr.trans (Zr.trans (Zr.trans (Zr.trans (Zr.rf) (Zr.up (by decide) hf521)) (Zr.up (by decide) hf523)) (Zr.up (by decide) hf524)) (Zr.up (by decide) hf530))
set_option maxHeartbeats 2000000 in
theorem z_X9_pairs (μ : TMem) (a1 : Int32) (a2 : Int32) {Q : Int32 → TMem → Prop} {X : String → TMem → Prop} (h : ∀ (r : Int32) (μ9 : TMem), Zr 2 μ μ9 → Q r μ9) (hX : ∀ (E : String) (μ9 : TMem), E ∈ ex_IS → Zr 2 μ μ9 → X E μ9) : wp_X9_pairs μ a1 a2 Q X := by
  show wp_X9_machineAt μ a1 (fun (k2 : Nat) (μ1 : TMem) => wp_X9_machineAt μ1 a2 (fun (k4 : Nat) (μ3 : TMem) => wp_X9_meetOrThrow k2 k4 μ3 (fun (μ5 : TMem) => Q (μ5 35 8) μ5) X) X) X
  refine z_X9_machineAt μ a1 (fun k2 μ1 hk533 hf534 => ?_) (fun E9 μ9 e9 f9 => hX E9 μ9 (ex_sub (by decide) e9) (Zr.trans (Zr.rf) (Zr.up (by decide) f9)))
  refine z_X9_machineAt μ1 a2 (fun k4 μ3 hk535 hf536 => ?_) (fun E9 μ9 e9 f9 => hX E9 μ9 (ex_sub (by decide) e9) (Zr.trans (Zr.trans (Zr.rf) (Zr.up (by decide) hf534)) (Zr.up (by decide) f9)))
  refine z_X9_meetOrThrow k2 hk533 k4 hk535 μ3 (fun μ5 hf537 => ?_) (fun E9 μ9 e9 f9 => hX E9 μ9 (ex_sub (by decide) e9) (Zr.trans (Zr.trans (Zr.trans (Zr.rf) (Zr.up (by decide) hf534)) (Zr.up (by decide) hf536)) (Zr.up (by decide) f9)))
  exact h _ _ (Zr.trans (Zr.trans (Zr.trans (Zr.rf) (Zr.up (by decide) hf534)) (Zr.up (by decide) hf536)) (Zr.up (by decide) hf537))
set_option maxHeartbeats 2000000 in
theorem z_X9_together (μ : TMem) (a1 : Int32) (a2 : Int32) (a3 : Int32) (a4 : Int32) {Q : Int32 → TMem → Prop} {X : String → TMem → Prop} (h : ∀ (r : Int32) (μ9 : TMem), Zr 2 μ μ9 → Q r μ9) (hX : ∀ (E : String) (μ9 : TMem), E ∈ ex_IAS → Zr 2 μ μ9 → X E μ9) : wp_X9_together μ a1 a2 a3 a4 Q X := by
  show wp_X9_machineAt μ a1 (fun (k2 : Nat) (μ1 : TMem) => wp_X9_machineAt μ1 a2 (fun (k4 : Nat) (μ3 : TMem) => wp_X9_checkRange μ3 a3 (0 : Int32) (3 : Int32) (fun (μ5 : TMem) => wp_X9_checkRange μ5 a4 (-1 : Int32) (12 : Int32) (fun (μ6 : TMem) => wp_X9_putTogether k2 k4 μ6 a3 (fun (r8 : Int32) (μ7 : TMem) => (¬ r8 = 0 → ((¬ a4 = (-1 : Int32) → (wp_X8_count 57 μ7 (fun (μ11 : TMem) => wp_X8_from μ11 (0 : Int32) a4 (fun (r12 : Int32) => Q r12 μ11)))) ∧ (a4 = (-1 : Int32) → (Q (μ7 57 1) μ7)))) ∧ (r8 = 0 → (X "java/lang/IllegalStateException" μ7)))) X) X) X) X
  refine z_X9_machineAt μ a1 (fun k2 μ1 hk538 hf539 => ?_) (fun E9 μ9 e9 f9 => hX E9 μ9 (ex_sub (by decide) e9) (Zr.trans (Zr.rf) (Zr.up (by decide) f9)))
  refine z_X9_machineAt μ1 a2 (fun k4 μ3 hk540 hf541 => ?_) (fun E9 μ9 e9 f9 => hX E9 μ9 (ex_sub (by decide) e9) (Zr.trans (Zr.trans (Zr.rf) (Zr.up (by decide) hf539)) (Zr.up (by decide) f9)))
  refine z_X9_checkRange μ3 a3 (0 : Int32) (3 : Int32) (fun μ5 hf542 => ?_) (fun E9 μ9 e9 f9 => hX E9 μ9 (ex_sub (by decide) e9) (Zr.trans (Zr.trans (Zr.trans (Zr.rf) (Zr.up (by decide) hf539)) (Zr.up (by decide) hf541)) (Zr.up (by decide) f9)))
  refine z_X9_checkRange μ5 a4 (-1 : Int32) (12 : Int32) (fun μ6 hf543 => ?_) (fun E9 μ9 e9 f9 => hX E9 μ9 (ex_sub (by decide) e9) (Zr.trans (Zr.trans (Zr.trans (Zr.trans (Zr.rf) (Zr.up (by decide) hf539)) (Zr.up (by decide) hf541)) (Zr.up (by decide) hf542)) (Zr.up (by decide) f9)))
  refine z_X9_putTogether k2 hk538 k4 hk540 μ6 a3 (fun r8 μ7 b544 hf545 => ?_)
  refine ⟨fun c546 => ?_, fun c547 => ?_⟩
  · refine ⟨fun c548 => ?_, fun c549 => ?_⟩
    · refine z_X8_count 57 rfl μ7 (fun μ11 hf550 => ?_)
      refine f_X8_from μ11 (0 : Int32) a4 (fun r12 => ?_)
      exact h _ _ (Zr.trans (Zr.trans (Zr.trans (Zr.trans (Zr.trans (Zr.trans (Zr.rf) (Zr.up (by decide) hf539)) (Zr.up (by decide) hf541)) (Zr.up (by decide) hf542)) (Zr.up (by decide) hf543)) (Zr.up (by decide) hf545)) (Zr.up (by decide) hf550))
    · exact h _ _ (Zr.trans (Zr.trans (Zr.trans (Zr.trans (Zr.trans (Zr.rf) (Zr.up (by decide) hf539)) (Zr.up (by decide) hf541)) (Zr.up (by decide) hf542)) (Zr.up (by decide) hf543)) (Zr.up (by decide) hf545))
  · exact hX _ _ (by decide) (Zr.trans (Zr.trans (Zr.trans (Zr.trans (Zr.trans (Zr.rf) (Zr.up (by decide) hf539)) (Zr.up (by decide) hf541)) (Zr.up (by decide) hf542)) (Zr.up (by decide) hf543)) (Zr.up (by decide) hf545))
set_option maxHeartbeats 2000000 in
theorem z_X9_isSound (μ : TMem)  {Q : Int32 → TMem → Prop} {X : String → TMem → Prop} (h : ∀ (r : Int32) (μ9 : TMem), isB r → Zr 2 μ μ9 → Q r μ9) (hX : ∀ (E : String) (μ9 : TMem), E ∈ ex_ → Zr 2 μ μ9 → X E μ9) : wp_X9_isSound μ Q X := by
  show wp_X9_machineAt μ (0 : Int32) (fun (k2 : Nat) (μ1 : TMem) => wp_X3_makeBy k2 57 μ1 (0 : Int32) (fun (r4 : Int32) (μ3 : TMem) => (¬ r4 = 0 → (wp_X3_makeBy k2 51 μ3 (1 : Int32) (fun (r7 : Int32) (μ6 : TMem) => (r7 = 0 → (Q (0 : Int32) μ6)) ∧ (¬ r7 = 0 → (wp_X5_isSameAs 51 57 μ6 (fun (r9 : Int32) => (¬ r9 = 0 → (wp_X3_makeBy k2 51 μ6 (2 : Int32) (fun (r14 : Int32) (μ13 : TMem) => (r14 = 0 → (wp_X2_becomePlain 12 57 μ13 (fun (μ16 : TMem) => wp_X3_makeBy 12 51 μ16 (0 : Int32) (fun (r18 : Int32) (μ17 : TMem) => (r18 = 0 → (Q (0 : Int32) μ17)) ∧ (¬ r18 = 0 → (wp_X5_isSameAs 51 57 μ17 (fun (r20 : Int32) => (¬ r20 = 0 → (wp_X9_isTakingTheSame k2 μ17 (fun (r24 : Int32) => isB r24 ∧ Q r24 μ17))) ∧ (r20 = 0 → (Q (0 : Int32) μ17))))))))) ∧ (¬ r14 = 0 → (wp_X5_isSameAs 51 57 μ13 (fun (r28 : Int32) => (¬ r28 = 0 → (wp_X2_becomePlain 12 57 μ13 (fun (μ32 : TMem) => wp_X3_makeBy 12 51 μ32 (0 : Int32) (fun (r34 : Int32) (μ33 : TMem) => (r34 = 0 → (Q (0 : Int32) μ33)) ∧ (¬ r34 = 0 → (wp_X5_isSameAs 51 57 μ33 (fun (r36 : Int32) => (¬ r36 = 0 → (wp_X9_isTakingTheSame k2 μ33 (fun (r40 : Int32) => isB r40 ∧ Q r40 μ33))) ∧ (r36 = 0 → (Q (0 : Int32) μ33))))))))) ∧ (r28 = 0 → (Q (0 : Int32) μ13)))))))) ∧ (r9 = 0 → (Q (0 : Int32) μ6)))))))) ∧ (r4 = 0 → (Q (1 : Int32) μ3)))) X
  refine z_machineAt0 μ (fun k2 μ1 hk556 hf557 => ?_)
  refine z_X3_makeBy k2 hk556 57 rfl μ1 (0 : Int32) (fun r4 μ3 b558 hf559 => ?_)
  refine ⟨fun c560 => ?_, fun c561 => ?_⟩
  · refine z_X3_makeBy k2 hk556 51 rfl μ3 (1 : Int32) (fun r7 μ6 b562 hf563 => ?_)
    refine ⟨fun c564 => ?_, fun c565 => ?_⟩
    · exact h _ _ (by first | assumption | exact Or.inl rfl | exact Or.inr rfl | exact isB_or (by assumption) (by first | assumption | exact Or.inl rfl | exact Or.inr rfl)) (Zr.trans (Zr.trans (Zr.trans (Zr.rf) (Zr.up (by decide) hf557)) (Zr.up (by decide) hf559)) (Zr.up (by decide) hf563))
    · refine f_X5_isSameAs 51 rfl 57 rfl μ6 (fun r9 b566 => ?_)
      refine ⟨fun c567 => ?_, fun c568 => ?_⟩
      · refine z_X3_makeBy k2 hk556 51 rfl μ6 (2 : Int32) (fun r14 μ13 b569 hf570 => ?_)
        refine ⟨fun c571 => ?_, fun c572 => ?_⟩
        · refine z_X2_becomePlain 12 ⟨rfl, by decide⟩ 57 rfl μ13 (fun μ16 hf573 => ?_)
          refine z_X3_makeBy 12 rfl 51 rfl μ16 (0 : Int32) (fun r18 μ17 b574 hf575 => ?_)
          refine ⟨fun c576 => ?_, fun c577 => ?_⟩
          · exact h _ _ (by first | assumption | exact Or.inl rfl | exact Or.inr rfl | exact isB_or (by assumption) (by first | assumption | exact Or.inl rfl | exact Or.inr rfl)) (Zr.trans (Zr.trans (Zr.trans (Zr.trans (Zr.trans (Zr.trans (Zr.rf) (Zr.up (by decide) hf557)) (Zr.up (by decide) hf559)) (Zr.up (by decide) hf563)) (Zr.up (by decide) hf570)) (Zr.up (by decide) hf573)) (Zr.up (by decide) hf575))
          · refine f_X5_isSameAs 51 rfl 57 rfl μ17 (fun r20 b578 => ?_)
            refine ⟨fun c579 => ?_, fun c580 => ?_⟩
            · refine f_X9_isTakingTheSame k2 hk556 μ17 (fun r24 b581 => ?_)
              refine ⟨(by first | assumption | exact Or.inl rfl | exact Or.inr rfl | exact isB_or (by assumption) (by first | assumption | exact Or.inl rfl | exact Or.inr rfl)), ?_⟩
              exact h _ _ (by first | assumption | exact Or.inl rfl | exact Or.inr rfl | exact isB_or (by assumption) (by first | assumption | exact Or.inl rfl | exact Or.inr rfl)) (Zr.trans (Zr.trans (Zr.trans (Zr.trans (Zr.trans (Zr.trans (Zr.rf) (Zr.up (by decide) hf557)) (Zr.up (by decide) hf559)) (Zr.up (by decide) hf563)) (Zr.up (by decide) hf570)) (Zr.up (by decide) hf573)) (Zr.up (by decide) hf575))
            · exact h _ _ (by first | assumption | exact Or.inl rfl | exact Or.inr rfl | exact isB_or (by assumption) (by first | assumption | exact Or.inl rfl | exact Or.inr rfl)) (Zr.trans (Zr.trans (Zr.trans (Zr.trans (Zr.trans (Zr.trans (Zr.rf) (Zr.up (by decide) hf557)) (Zr.up (by decide) hf559)) (Zr.up (by decide) hf563)) (Zr.up (by decide) hf570)) (Zr.up (by decide) hf573)) (Zr.up (by decide) hf575))
        · refine f_X5_isSameAs 51 rfl 57 rfl μ13 (fun r28 b582 => ?_)
          refine ⟨fun c583 => ?_, fun c584 => ?_⟩
          · refine z_X2_becomePlain 12 ⟨rfl, by decide⟩ 57 rfl μ13 (fun μ32 hf585 => ?_)
            refine z_X3_makeBy 12 rfl 51 rfl μ32 (0 : Int32) (fun r34 μ33 b586 hf587 => ?_)
            refine ⟨fun c588 => ?_, fun c589 => ?_⟩
            · exact h _ _ (by first | assumption | exact Or.inl rfl | exact Or.inr rfl | exact isB_or (by assumption) (by first | assumption | exact Or.inl rfl | exact Or.inr rfl)) (Zr.trans (Zr.trans (Zr.trans (Zr.trans (Zr.trans (Zr.trans (Zr.rf) (Zr.up (by decide) hf557)) (Zr.up (by decide) hf559)) (Zr.up (by decide) hf563)) (Zr.up (by decide) hf570)) (Zr.up (by decide) hf585)) (Zr.up (by decide) hf587))
            · refine f_X5_isSameAs 51 rfl 57 rfl μ33 (fun r36 b590 => ?_)
              refine ⟨fun c591 => ?_, fun c592 => ?_⟩
              · refine f_X9_isTakingTheSame k2 hk556 μ33 (fun r40 b593 => ?_)
                refine ⟨(by first | assumption | exact Or.inl rfl | exact Or.inr rfl | exact isB_or (by assumption) (by first | assumption | exact Or.inl rfl | exact Or.inr rfl)), ?_⟩
                exact h _ _ (by first | assumption | exact Or.inl rfl | exact Or.inr rfl | exact isB_or (by assumption) (by first | assumption | exact Or.inl rfl | exact Or.inr rfl)) (Zr.trans (Zr.trans (Zr.trans (Zr.trans (Zr.trans (Zr.trans (Zr.rf) (Zr.up (by decide) hf557)) (Zr.up (by decide) hf559)) (Zr.up (by decide) hf563)) (Zr.up (by decide) hf570)) (Zr.up (by decide) hf585)) (Zr.up (by decide) hf587))
              · exact h _ _ (by first | assumption | exact Or.inl rfl | exact Or.inr rfl | exact isB_or (by assumption) (by first | assumption | exact Or.inl rfl | exact Or.inr rfl)) (Zr.trans (Zr.trans (Zr.trans (Zr.trans (Zr.trans (Zr.trans (Zr.rf) (Zr.up (by decide) hf557)) (Zr.up (by decide) hf559)) (Zr.up (by decide) hf563)) (Zr.up (by decide) hf570)) (Zr.up (by decide) hf585)) (Zr.up (by decide) hf587))
          · exact h _ _ (by first | assumption | exact Or.inl rfl | exact Or.inr rfl | exact isB_or (by assumption) (by first | assumption | exact Or.inl rfl | exact Or.inr rfl)) (Zr.trans (Zr.trans (Zr.trans (Zr.trans (Zr.rf) (Zr.up (by decide) hf557)) (Zr.up (by decide) hf559)) (Zr.up (by decide) hf563)) (Zr.up (by decide) hf570))
      · exact h _ _ (by first | assumption | exact Or.inl rfl | exact Or.inr rfl | exact isB_or (by assumption) (by first | assumption | exact Or.inl rfl | exact Or.inr rfl)) (Zr.trans (Zr.trans (Zr.trans (Zr.rf) (Zr.up (by decide) hf557)) (Zr.up (by decide) hf559)) (Zr.up (by decide) hf563))
  · exact h _ _ (by first | assumption | exact Or.inl rfl | exact Or.inr rfl | exact isB_or (by assumption) (by first | assumption | exact Or.inl rfl | exact Or.inr rfl)) (Zr.trans (Zr.trans (Zr.rf) (Zr.up (by decide) hf557)) (Zr.up (by decide) hf559))
set_option maxHeartbeats 2000000 in
theorem z_X9_digest (μ : TMem)  {Q : Int64 → TMem → Prop} {X : String → TMem → Prop} (h : ∀ (r : Int64) (μ9 : TMem), Zr 2 μ μ9 → Q r μ9) (hX : ∀ (E : String) (μ9 : TMem), E ∈ ex_ → Zr 2 μ μ9 → X E μ9) : wp_X9_digest μ Q X := by
  show ∃ n0x, wpl_X9_digest_6 μ (fun (u10 : Int64) => wp_X9_isSound μ (fun (r12 : Int32) (μ11 : TMem) => (r12 = 0 → (Q ((((((((u10 * (31 : Int64)) + (μ 0 11).toInt64) * (31 : Int64)) + (μ 0 12).toInt64) * (31 : Int64)) + (μ 0 13).toInt64) * (31 : Int64)) + (0 : Int32).toInt64) μ11)) ∧ (¬ r12 = 0 → (Q ((((((((u10 * (31 : Int64)) + (μ 0 11).toInt64) * (31 : Int64)) + (μ 0 12).toInt64) * (31 : Int64)) + (μ 0 13).toInt64) * (31 : Int64)) + (1 : Int32).toInt64) μ11))) X) n0x (0 : Int32) (8025 : Int64)
  refine ⟨_, fl_wpl_X9_digest_6 μ ?_ _ (0 : Int32) (8025 : Int64) (Nat.lt_succ_self _) (by first | decide | omega)⟩
  · intro u10
    refine z_X9_isSound μ (fun r12 μ11 b595 hf596 => ?_) (fun E9 μ9 e9 f9 => hX E9 μ9 e9 (Zr.trans (Zr.rf) (Zr.up (by decide) f9)))
    refine ⟨fun c597 => ?_, fun c598 => ?_⟩
    · exact h _ _ (Zr.trans (Zr.rf) (Zr.up (by decide) hf596))
    · exact h _ _ (Zr.trans (Zr.rf) (Zr.up (by decide) hf596))
theorem y_numberOf (k2 : Nat) (hk2 : kd k2 = 5) (μ : TMem) (a1 : Int32) {Q : Int32 → TMem → Prop} (hS : (μ k2 1).toInt ≤ 32) (h : ∀ (r : Int32) (μ9 : TMem), Zr 2 μ μ9 → (μ9 k2 1).toInt ≤ 32 → Q r μ9) : wp_X3_numberOf k2 μ a1 Q := by
  unfold wp_X3_numberOf
  refine f_X6_find 16 rfl μ a1 (μ k2 1) (fun r1 => ⟨fun _ => h _ _ Zr.rf hS, fun _ => ⟨fun c => ?_, fun _ => h _ _ Zr.rf hS⟩⟩)
  refine z_X6_put 16 rfl μ (μ k2 1) a1 (Or.inl (by decide)) (fun μ6 f6 => h _ _ (zt2 (zu2 f6) hk2) ?_)
  rw [tms_at, zk5 hk2 f6]
  have c1 := l_lt.mp c
  rw [show (32 : Int32).toInt = 32 from rfl] at c1
  have := inc_b (x := μ k2 1) (b := 31) (by omega) (by omega)
  omega
theorem y_makeOneWay_78 (μ0 : TMem) (k1 : Nat) (hk1 : kd k1 = 2) (k2 : Nat) (hk2 : kd k2 = 5) (v15 : Int32) (v16 : Int32) {K122 : TMem → Prop} {Q : Int32 → TMem → Prop} (hK122 : ∀ (u0 : TMem), Zr 2 μ0 u0 → (u0 k2 1).toInt ≤ 32 → K122 u0) (h : ∀ (r : Int32) (μ9 : TMem), isB r → Zr 2 μ0 μ9 → (μ9 k2 1).toInt ≤ 32 → Q r μ9) : ∀ (n : Nat) (v14 : Int32) (μ17 : TMem), (((3 : Int32)).toInt - (v14).toInt).toNat < n → 0 ≤ (v14).toInt → Zr 2 μ0 μ17 → (μ17 k2 1).toInt ≤ 32 → wpl_X3_makeOneWay_78 k1 k2 v15 v16 K122 Q n v14 μ17 := by
  intro n
  induction n with
  | zero => intro v14 μ17 hm; exact absurd hm (Nat.not_lt_zero _)
  | succ n ih =>
    intro v14 μ17 hm hi hF hS
    refine ⟨fun c_ex => hK122 μ17 hF hS, fun c_lt => ?_⟩
    refine f_X2_reach k1 hk1 μ17 v15 v14 (fun r19 => ?_)
    refine y_numberOf k2 hk2 μ17 r19 hS (fun r23 μ22 f22 hS2 => ?_)
    refine ⟨fun _ => ?_, fun _ => h _ _ (Or.inl rfl) (hF.trans f22) hS2⟩
    refine z_X7_put k2 ⟨Or.inr hk2, kd5' hk2⟩ μ22 v16 v14 r23 (fun μ25 f25 => ?_)
    exact ih (v14 + (1 : Int32)) μ25 (lt_m c_lt (by omega)) (lt_p hi c_lt) ((hF.trans f22).trans (zu2 f25)) (by rw [zk5 hk2 f25]; exact hS2)
theorem y_makeOneWay_24 (μ0 : TMem) (k1 : Nat) (hk1 : kd k1 = 2) (k2 : Nat) (hk2 : kd k2 = 5) {Q : Int32 → TMem → Prop} (h : ∀ (r : Int32) (μ9 : TMem), isB r → Zr 2 μ0 μ9 → (μ9 k2 1).toInt ≤ 32 → Q r μ9) : ∀ (n : Nat) (v3 : Int32) (μ4 : TMem), (((32 : Int32)).toInt - (v3).toInt).toNat < n → 0 ≤ (v3).toInt → Zr 2 μ0 μ4 → (μ4 k2 1).toInt ≤ 32 → wpl_X3_makeOneWay_24 k1 k2 Q n v3 μ4 := by
  intro n
  induction n with
  | zero => intro v3 μ4 hm; exact absurd hm (Nat.not_lt_zero _)
  | succ n ih =>
    intro v3 μ4 hm hi hF hS
    refine ⟨fun c_ex => h _ _ (Or.inr rfl) hF hS, fun c_lt => ⟨fun _ => h _ _ (Or.inr rfl) hF hS, fun _ => ?_⟩⟩
    refine f_X6_at 16 rfl μ4 v3 (fun r7 => ?_)
    have key : ∀ j11 : Int32, wp_X9_withOrWithout (μ4 k2 2) v3 j11 (fun (r12 : Int32) => ∃ n12x, wpl_X3_makeOneWay_78 k1 k2 r7 v3 (fun (μ27 : TMem) => wpl_X3_makeOneWay_24 k1 k2 Q n (v3 + (1 : Int32)) μ27) Q n12x (0 : Int32) (tms μ4 k2 2 r12)) := fun j11 => by
      refine f_X9_withOrWithout (μ4 k2 2) v3 j11 (fun r12 => ?_)
      have hS3 : ((tms μ4 k2 2 r12) k2 1).toInt ≤ 32 := by rw [tms_o (by decide)]; exact hS
      exact ⟨_, y_makeOneWay_78 μ0 k1 hk1 k2 hk2 r7 v3 (fun μ27 f27 hS27 => ih (v3 + (1 : Int32)) μ27 (lt_m c_lt (by omega)) (lt_p hi c_lt) f27 hS27) h _ (0 : Int32) _ (Nat.lt_succ_self _) (by decide) (zt2 hF hk2) hS3⟩
    intro J10 hJ10
    exact ⟨fun _ => hJ10 _ (key _), fun _ => hJ10 _ (key _)⟩
theorem y_makeOneWay (k1 : Nat) (hk1 : kd k1 = 2) (k2 : Nat) (hk2 : kd k2 = 5) (μ : TMem) {Q : Int32 → TMem → Prop} (h : ∀ (r : Int32) (μ9 : TMem), isB r → Zr 2 μ μ9 → (μ9 k2 1).toInt ≤ 32 → Q r μ9) : wp_X3_makeOneWay k1 k2 μ Q := by
  refine z_X6_put 16 rfl μ (0 : Int32) (μ k1 3) (Or.inl (by decide)) (fun μ1 f1 => ?_)
  exact ⟨_, y_makeOneWay_24 μ k1 hk1 k2 hk2 h _ (0 : Int32) _ (Nat.lt_succ_self _) (by decide) (zt2 (zt2 (zu2 f1) hk2) hk2) (by rw [tms_o (by decide), tms_at]; decide)⟩
theorem y_groupNumber (k2 : Nat) (hk2 : kd k2 = 5) (μ : TMem) (a1 : Int32) {Q : Int32 → TMem → Prop} {b : Int} (hb : 0 ≤ b) (hb2 : b < 1000) (hS : (μ k2 1).toInt ≤ b) (h : ∀ (r : Int32) (μ9 : TMem), Zr 2 μ μ9 → (μ9 k2 1).toInt ≤ b + 1 → Q r μ9) : wp_X3_groupNumber k2 μ a1 Q := by
  unfold wp_X3_groupNumber
  refine f_X1_partOf μ a1 (fun r1 => ?_)
  refine f_X6_at 20 rfl μ r1 (fun r4 => ?_)
  intro J7 hJ7
  refine ⟨fun _ => ?_, fun _ => ?_⟩
  · exact f_X6_at 20 rfl μ r1 (fun r13 => h _ _ Zr.rf (by omega))
  · refine z_X6_put 20 rfl μ r1 (μ k2 1) (Or.inl (by decide)) (fun μ16 f16 => ?_)
    refine z_X6_put 18 rfl μ16 (μ16 k2 1) a1 (Or.inl (by decide)) (fun μ17 f17 => ?_)
    refine hJ7 _ ?_
    refine f_X6_at 20 rfl _ r1 (fun r9 => h _ _ (zt2 (zu2 (f16.trans f17)) hk2) ?_)
    rw [tms_at, zk5 hk2 (f16.trans f17)]
    exact inc_b hS (by omega)
theorem y_makeGroups_90 (μ0 : TMem) (k1 : Nat) (hk1 : kd k1 = 5) (k2 : Nat) (hk2 : kd k2 = 5) (v21 : Int32) (v22 : Int32) (b : Int) (hb : 0 ≤ b) (hb2 : b < 500) {K122 : TMem → Prop} (hK122 : ∀ (u0 : TMem), Zr 2 μ0 u0 → (u0 k2 1).toInt ≤ b + 3 → K122 u0) : ∀ (n : Nat) (v20 : Int32) (μ23 : TMem), (((3 : Int32)).toInt - (v20).toInt).toNat < n → 0 ≤ (v20).toInt → v20.toInt ≤ 3 → Zr 2 μ0 μ23 → (μ23 k2 1).toInt ≤ b + v20.toInt → wpl_X3_makeGroups_90 k1 k2 v21 v22 K122 n v20 μ23 := by
  intro n
  induction n with
  | zero => intro v20 μ23 hm; exact absurd hm (Nat.not_lt_zero _)
  | succ n ih =>
    intro v20 μ23 hm hi h3 hF hS
    refine ⟨fun c_ex => hK122 μ23 hF (by omega), fun c_lt => ?_⟩
    have c1 := nle c_lt
    have e1 := inc_i c_lt
    rw [show (3 : Int32).toInt = 3 from rfl] at c1
    refine f_X7_at k1 (Or.inr hk1) μ23 v21 v20 (fun r25 => ?_)
    refine y_groupNumber k2 hk2 μ23 r25 (b := b + v20.toInt) (by omega) (by omega) hS (fun r29 μ28 f28 hS2 => ?_)
    refine z_X7_put k2 ⟨Or.inr hk2, kd5' hk2⟩ μ28 v22 v20 r29 (fun μ30 f30 => ?_)
    exact ih (v20 + (1 : Int32)) μ30 (lt_m c_lt (by omega)) (lt_p hi c_lt) (by omega) ((hF.trans f28).trans (zu2 f30)) (by rw [zk5 hk2 f30]; omega)
theorem y_makeGroups_45 (μ0 : TMem) (k1 : Nat) (hk1 : kd k1 = 5) (k2 : Nat) (hk2 : kd k2 = 5) {Q : TMem → Prop} (h : ∀ μ9 : TMem, Zr 2 μ0 μ9 → (μ9 k2 1).toInt ≤ 97 → Q μ9) : ∀ (n : Nat) (v8 : Int32) (μ9 : TMem), (((32 : Int32)).toInt - (v8).toInt).toNat < n → 0 ≤ (v8).toInt → v8.toInt ≤ 32 → Zr 2 μ0 μ9 → (μ9 k2 1).toInt ≤ 1 + 3 * v8.toInt → wpl_X3_makeGroups_45 k1 k2 Q n v8 μ9 := by
  intro n
  induction n with
  | zero => intro v8 μ9 hm; exact absurd hm (Nat.not_lt_zero _)
  | succ n ih =>
    intro v8 μ9 hm hi h32 hF hS
    refine ⟨fun c_ex => h _ hF (by omega), fun c_lt => ⟨fun _ => h _ hF (by omega), fun _ => ?_⟩⟩
    have c1 := nle c_lt
    have e1 := inc_i c_lt
    rw [show (32 : Int32).toInt = 32 from rfl] at c1
    refine f_X6_at 18 rfl μ9 v8 (fun r12 => ?_)
    refine f_X5_isGoal k1 hk1 μ9 r12 (fun r15 b152 => ?_)
    refine f_X9_withOrWithout (μ9 k2 2) v8 r15 (fun r18 => ?_)
    have hS3 : ((tms μ9 k2 2 r18) k2 1).toInt ≤ 1 + 3 * v8.toInt + (0 : Int32).toInt := by rw [tms_o (by decide), ii_0]; omega
    exact ⟨_, y_makeGroups_90 μ0 k1 hk1 k2 hk2 r12 v8 (1 + 3 * v8.toInt) (by omega) (by omega) (fun μ32 f32 hS32 => ih (v8 + (1 : Int32)) μ32 (lt_m c_lt (by omega)) (lt_p hi c_lt) (by omega) f32 (by omega)) _ (0 : Int32) _ (Nat.lt_succ_self _) (by decide) (by decide) (zt2 hF hk2) hS3⟩
theorem y_makeGroups (k1 : Nat) (hk1 : kd k1 = 5) (k2 : Nat) (hk2 : kd k2 = 5) (μ : TMem) {Q : TMem → Prop} (h : ∀ μ9 : TMem, Zr 2 μ μ9 → (μ9 k2 1).toInt ≤ 97 → Q μ9) : wp_X3_makeGroups k1 k2 μ Q := by
  refine z_X6_fill 20 rfl μ (-1 : Int32) (by decide) (fun μ1 f1 => ?_)
  refine f_X1_partOf μ1 (0 : Int32) (fun r2 => ?_)
  refine z_X6_put 20 rfl μ1 r2 (0 : Int32) (Or.inl (by decide)) (fun μ5 f5 => ?_)
  refine z_X6_put 18 rfl μ5 (0 : Int32) (0 : Int32) (Or.inl (by decide)) (fun μ6 f6 => ?_)
  exact ⟨_, y_makeGroups_45 μ k1 hk1 k2 hk2 h _ (0 : Int32) _ (Nat.lt_succ_self _) (by decide) (by decide) (zt2 (zt2 (zu2 ((f1.trans f5).trans f6)) hk2) hk2) (by rw [tms_o (by decide), tms_at]; decide)⟩
theorem y_makeByTurning (k1 : Nat) (hk1 : kd k1 = 2) (k2 : Nat) (hk2 : kd k2 = 5) (μ : TMem) {Q : Int32 → TMem → Prop} (h : ∀ (r : Int32) (μ9 : TMem), isB r → Zr 2 μ μ9 → (r ≠ 0 → (μ9 k2 1).toInt ≤ 97) → Q r μ9) : wp_X3_makeByTurning k1 k2 μ Q := by
  refine z_X2_becomeRound 31 ⟨rfl, by decide⟩ k1 hk1 μ (fun μ1 f1 => ?_)
  refine z_X3_makeOneWay 31 rfl 33 rfl μ1 (fun r3 μ2 b2 f2 => ⟨fun _ => ?_, fun _ => h _ _ (Or.inl rfl) (f1.trans f2) (fun z => absurd rfl z)⟩)
  refine z_X2_becomePlain 29 ⟨rfl, by decide⟩ 33 rfl μ2 (fun μ5 f5 => ?_)
  refine z_X2_becomeRound 31 ⟨rfl, by decide⟩ 29 rfl μ5 (fun μ6 f6 => ?_)
  exact y_makeOneWay 31 rfl k2 hk2 μ6 (fun r8 μ7 b8 f7 hS => ⟨b8, h _ _ b8 ((((f1.trans f2).trans f5).trans f6).trans f7) (fun _ => by omega)⟩)
theorem y_makeBy (k2 : Nat) (hk2 : kd k2 = 2) (k3 : Nat) (hk3 : kd k3 = 5) (μ : TMem) (a1 : Int32) {Q : Int32 → TMem → Prop} (h : ∀ (r : Int32) (μ9 : TMem), isB r → Zr 2 μ μ9 → (r ≠ 0 → (μ9 k3 1).toInt ≤ 97) → Q r μ9) : wp_X3_makeBy k2 k3 μ a1 Q := by
  refine ⟨fun _ => ⟨fun _ => ?_, fun _ => ?_⟩, fun _ => ?_⟩
  · refine z_X3_makeOneWay k2 hk2 33 rfl μ (fun r4 μ3 b4 f3 => ⟨fun _ => ?_, fun _ => h _ _ (Or.inl rfl) f3 (fun z => absurd rfl z)⟩)
    intro J6 hJ6
    refine ⟨fun _ => ?_, fun _ => ?_⟩
    · refine z_X1_findByParting 33 rfl μ3 (fun μ10 f10 => hJ6 μ10 ?_)
      exact y_makeGroups 33 rfl k3 hk3 μ10 (fun μ8 f8 hS => h _ _ (Or.inr rfl) ((f3.trans (zu2 f10)).trans f8) (fun _ => hS))
    · refine z_X1_findByPairs 33 rfl μ3 (fun μ10 f10 => hJ6 μ10 ?_)
      exact y_makeGroups 33 rfl k3 hk3 μ10 (fun μ8 f8 hS => h _ _ (Or.inr rfl) ((f3.trans (zu2 f10)).trans f8) (fun _ => hS))
  · exact y_makeByTurning k2 hk2 k3 hk3 μ (fun r μ9 b9 f9 hS => ⟨b9, h _ _ b9 f9 hS⟩)
  · exact y_makeOneWay k2 hk2 k3 hk3 μ (fun r μ9 b9 f9 hS => ⟨b9, h _ _ b9 f9 (fun _ => by omega)⟩)
theorem y_makeOrThrow (k2 : Nat) (hk2 : kd k2 = 2) (k3 : Nat) (hk3 : kd k3 = 5) (μ : TMem) (a1 : Int32) {Q : TMem → Prop} {X : String → TMem → Prop} (h : ∀ μ9 : TMem, Zr 2 μ μ9 → (μ9 k3 1).toInt ≤ 97 → Q μ9) (hX : ∀ (E : String) (μ9 : TMem), E ∈ ex_S → Zr 2 μ μ9 → X E μ9) : wp_X9_makeOrThrow k2 k3 μ a1 Q X :=
  y_makeBy k2 hk2 k3 hk3 μ a1 (fun r μ9 b9 f9 hS => ⟨fun c => h _ f9 (hS c), fun _ => hX _ _ (by decide) f9⟩)
theorem z_X9_text (μ : TMem) (a1 : Int32) (a2 : Int32) {Q : TMem → Prop} {X : String → TMem → Prop} (h : ∀ μ9 : TMem, Zr 2 μ μ9 → Q μ9) (hX : ∀ (E : String) (μ9 : TMem), E ∈ ex_IAS → Zr 2 μ μ9 → X E μ9) : wp_X9_text μ a1 a2 Q X := by
  refine z_X9_machineAt μ a1 (fun k2 μ1 hk2 f1 => ?_) (fun E μ9 e9 f9 => hX E μ9 (ex_sub (by decide) e9) (zu2 f9))
  refine z_X9_checkRange μ1 a2 (0 : Int32) (3 : Int32) (fun μ3 f3 => ?_) (fun E μ9 e9 f9 => hX E μ9 (ex_sub (by decide) e9) (zu2 (f1.trans f9)))
  exact y_makeOrThrow k2 hk2 57 rfl μ3 a2 (fun μ4 f4 hS => ⟨by omega, h _ ((zu2 (f1.trans f3)).trans f4)⟩) (fun E μ9 e9 f9 => hX E μ9 (ex_sub (by decide) e9) ((zu2 (f1.trans f3)).trans f9))
theorem z_X9_word (μ : TMem) (a1 : Int32) (a2 : Int32) {Q : TMem → Prop} {X : String → TMem → Prop} (h : ∀ μ9 : TMem, Zr 2 μ μ9 → Q μ9) (hX : ∀ (E : String) (μ9 : TMem), E ∈ ex_IAS → Zr 2 μ μ9 → X E μ9) : wp_X9_word μ a1 a2 Q X := by
  refine z_X9_machineAt μ a1 (fun k2 μ1 hk2 f1 => ?_) (fun E μ9 e9 f9 => hX E μ9 (ex_sub (by decide) e9) (zu2 f9))
  refine ⟨fun _ => ?_, fun _ => hX _ _ (by decide) (zu2 f1)⟩
  refine z_X9_makeOrThrow k2 hk2 57 rfl μ1 (0 : Int32) (fun μ4 f4 => ?_) (fun E μ9 e9 f9 => hX E μ9 (ex_sub (by decide) e9) ((zu2 f1).trans f9))
  exact z_X8_count 57 rfl μ4 (fun μ5 f5 => h _ (((zu2 f1).trans f4).trans (f5.up (by decide))))
theorem z_X9_apart (μ : TMem) (a1 : Int32) (a2 : Int32) {Q : TMem → Prop} {X : String → TMem → Prop} (hG : GB μ) (h : ∀ μ9 : TMem, Zr 2 μ μ9 → Q μ9) (hX : ∀ (E : String) (μ9 : TMem), E ∈ ex_IS → Zr 2 μ μ9 → X E μ9) : wp_X9_apart μ a1 a2 Q X := by
  refine z_X9_machineAt μ a1 (fun k2 μ1 hk2 f1 => ?_) (fun E μ9 e9 f9 => hX E μ9 (ex_sub (by decide) e9) (zu2 f9))
  refine z_X9_machineAt μ1 a2 (fun k4 μ3 hk4 f3 => ?_) (fun E μ9 e9 f9 => hX E μ9 (ex_sub (by decide) e9) (zu2 (f1.trans f9)))
  refine z_X9_meetOrThrow k2 hk2 k4 hk4 μ3 (fun μ5 f5 => ?_) (fun E μ9 e9 f9 => hX E μ9 (ex_sub (by decide) e9) ((zu2 (f1.trans f3)).trans f9))
  have f9 := (zu2 (f1.trans f3)).trans f5
  exact ⟨fun _ => ⟨f9.1.2 hG, h _ f9⟩, fun _ => h _ f9⟩
end ZFR
end
/-! part 9saq.sim -/
section
section SIMS
variable {μ ν : TMem} {S : Nat → AM} {a r k t : Int32} {a1 a2 a3 a4 a5 : Int32} {m : Nat} {A : AM}
theorem aC_AV {n : Nat} (h1 : 1 ≤ n) (h7 : n ≤ 7) : AV (aC n) := ⟨h1, h7, by show nn 1 < 2 ^ n; rw [show nn 1 = 1 from by decide]; exact Nat.one_lt_two_pow (by omega), by show nn 0 < 2 ^ n; rw [nn_0]; exact Nat.two_pow_pos n, fun j _ => by show nn 0 < 2 ^ n; rw [nn_0]; exact Nat.two_pow_pos n, fun _ _ => rfl⟩
theorem wW_lt {x b : Int32} {u n : Nat} (hx : nn x < 2 ^ n) (hu : u < n) (hn : n ≤ 7) : nn (wW x u b) < 2 ^ n := by
  rw [wW]
  split
  · rw [nn_and]; exact Nat.lt_of_le_of_lt Nat.and_le_left hx
  · rw [nn_or, nn_two u (by omega)]
    exact Nat.or_lt_two_pow hx (Nat.pow_lt_pow_right (by decide) hu)
theorem aI_AV {i : Nat} {v : Int32} (hv : AV A) (hi : i < 3 * A.1) (h : nn v < 2 ^ A.1) : AV (aI A i v) := by
  obtain ⟨h1, h2, h3, h4, h5, h6⟩ := hv
  refine ⟨h1, h2, h3, h4, fun j hj => ?_, fun j hj => ?_⟩
  · show nn (if j = i then v else A.2.2.2 j) < 2 ^ A.1
    split
    · exact h
    · exact h5 j hj
  · have hj' : 3 * A.1 ≤ j := hj
    show (if j = i then v else A.2.2.2 j) = 0
    rw [if_neg (by omega)]
    exact h6 j hj
theorem aK_AV {g x : Int32} (hv : AV A) (h : nn x < 2 ^ A.1) : AV (aK A g x) := by
  obtain ⟨h1, h2, h3, h4, h5, h6⟩ := hv
  rw [aK]
  split
  · exact ⟨h1, h2, h, h4, h5, h6⟩
  · exact ⟨h1, h2, h3, h, h5, h6⟩
theorem aKv_lt {g : Int32} (hv : AV A) : nn (aKv A g) < 2 ^ A.1 := by
  obtain ⟨h1, h2, h3, h4, h5, h6⟩ := hv
  rw [aKv]
  split <;> assumption
theorem aT_AV (hv : AV A) : AV (aT A) := by
  obtain ⟨v1, v7, vs, vg, vc, vz⟩ := hv
  exact ⟨v1, v7, vg, vs, fun j hj => by
    have hj' : j < 3 * A.1 := hj
    show nn (if j < 3 * A.1 then SRg A.2.2.2 (j / 3) (j % 3) A.1 else 0) < 2 ^ A.1
    rw [if_pos hj']; exact SRg_lt (by omega), fun j hj => by
    have hj' : 3 * A.1 ≤ j := hj
    show (if j < 3 * A.1 then SRg A.2.2.2 (j / 3) (j % 3) A.1 else 0) = 0
    rw [if_neg (by omega)]⟩
theorem grow_AV (hv : AV A) (h7 : A.1 < 7) : AV (A.1 + 1, A.2) := by
  obtain ⟨v1, v7, vs, vg, vc, vz⟩ := hv
  have hp : 2 ^ A.1 ≤ 2 ^ (A.1 + 1) := Nat.pow_le_pow_right (by decide) (by omega)
  refine ⟨by show 1 ≤ A.1 + 1; omega, by show A.1 + 1 ≤ 7; omega, Nat.lt_of_lt_of_le vs hp, Nat.lt_of_lt_of_le vg hp, fun j hj => ?_, fun j hj => vz j (by have hj' : 3 * (A.1 + 1) ≤ j := hj; omega)⟩
  show nn (A.2.2.2 j) < 2 ^ (A.1 + 1)
  by_cases e : j < 3 * A.1
  · exact Nat.lt_of_lt_of_le (vc j e) hp
  · rw [vz j (by omega), nn_0]; exact Nat.two_pow_pos _
theorem aP_AV {o : Option DF} {D : DF} (h : SM7 o D) : AV (aP D) := by
  obtain ⟨_, h7, h1, hT⟩ := h
  refine ⟨h1, h7, by show nn 1 < 2 ^ D.1; rw [show nn 1 = 1 from by decide]; exact Nat.one_lt_two_pow (by omega), s_lt2 (fun i hi => ?_), fun j hj => ?_, fun j hj => ?_⟩
  · have hi' : D.1 ≤ i := hi
    show (nn (gmk D.2.2 D.1)).testBit i = false
    by_cases e : i < 32
    · rw [gmk_bit D.1 (by omega) i, decide_eq_false (by omega)]; rfl
    · exact s_big (nn_lt _) (by omega)
  · have hj' : j < 3 * D.1 := hj
    show nn (if j < 3 * D.1 then (1 : Int32) <<< (nI (D.2.1 j) &&& 31) else 0) < 2 ^ D.1
    have := hT j hj'
    rw [if_pos hj', nn_two _ (by omega)]
    exact Nat.pow_lt_pow_right (by decide) this
  · have hj' : 3 * D.1 ≤ j := hj
    show (if j < 3 * D.1 then (1 : Int32) <<< (nI (D.2.1 j) &&& 31) else 0) = 0
    rw [if_neg (by omega)]
/-- both memories hold the same machines and numbers -/
def SIM (μ ν : TMem) : Prop := ∃ (S : Nat → AM) (a r k t : Int32), AVs S ∧ CSt μ S a r k ∧ RSt ν S a r k t
theorem SIM.ri (h : SIM μ ν) : RI ν := by
  obtain ⟨S, a, r, k, t, hv, hc, hr⟩ := h
  exact hr.ri hv
theorem SIM.gb (h : SIM μ ν) : GB μ := by
  obtain ⟨S, a, r, k, t, hv, hc, hr⟩ := h
  exact hc.2.2.2.2
theorem RSt.thn (h : RSt ν S a r k t) : ν 0 7 = t := h.2.2.2.2
theorem IN_nI {n : Nat} {lo hi : Int} (h1 : lo ≤ n) (h2 : (n : Int) ≤ hi) (h : n < 2 ^ 31) : IN (nI n) lo hi := by
  rw [IN, nI_toInt h]; exact ⟨h1, h2⟩
theorem nI_injS {x : Int32} {m n : Nat} (h : x = nI m) (h' : x = nI n) (hm : m < 2 ^ 31) (hn : n < 2 ^ 31) : m = n := (nI_eq hm hn).mp (h.symm.trans h')
abbrev PP := Int32 → Int64 → TMem → Int32 → TMem → Prop
/-- what must be shown of a call: both memories alike again, both answers the same, or both thrown -/
abbrev HPP (P : PP) : Prop := ∀ (k : Int32) (nv : Int64) (μ9 : TMem) (b : Int32) (ν9 : TMem), SIM μ9 ν9 → ν9 0 7 = k → (k = 0 → nv = b.toInt64) → P k nv μ9 b ν9
abbrev IOBn := "java/lang/IndexOutOfBoundsException"
abbrev IAEn := "java/lang/IllegalArgumentException"
abbrev ISEn := "java/lang/IllegalStateException"
variable {P : PP}
theorem ph_ok {S' : Nat → AM} {a' r' k' : Int32} {μ9 ν9 : TMem} {b : Int32} (hP : HPP P) (hv : AVs S') (hc : CSt μ9 S' a' r' k') (hr : RSt ν9 S' a' r' k' 0) : P 0 b.toInt64 μ9 b ν9 := hP _ _ _ _ _ ⟨S', a', r', k', 0, hv, hc, hr⟩ hr.thn (fun _ => rfl)
theorem ph_x {S' : Nat → AM} {a' r' k' z : Int32} {μ9 ν9 : TMem} {b : Int32} {nv : Int64} (hP : HPP P) (hv : AVs S') (hc : CSt μ9 S' a' r' k') (hr : RSt ν9 S' a' r' k' z) (hz : z ≠ 0) : P z nv μ9 b ν9 := hP _ _ _ _ _ ⟨S', a', r', k', z, hv, hc, hr⟩ hr.thn (fun e => absurd e hz)
theorem gs_begin (hP : HPP P) (h : SIM μ ν) (nv : Int64) : wp_X9_begin μ a1 a2 (fun r μ9 => wp_X11_begin ν a1 a2 (fun b ν9 => P 0 r.toInt64 μ9 b ν9)) (fun E μ9 => (E = IOBn ∧ wp_X11_begin ν a1 a2 (fun b ν9 => P 1 nv μ9 b ν9)) ∨ (E = IAEn ∧ wp_X11_begin ν a1 a2 (fun b ν9 => P 2 nv μ9 b ν9))) := by
  obtain ⟨S, a, r, k, t, hv, hc, hr⟩ := h
  have ok : ∀ {m n}, m < 4 → a1 = nI m → a2 = nI n → 1 ≤ n → n ≤ 7 → M1 a1 ∧ IN a2 1 7 := fun hm e e2 n1 n7 => ⟨e ▸ M1_nI hm, e2 ▸ IN_nI (by omega) (by omega) (by omega)⟩
  refine ee_begin hc hv (fun m n hm e e2 n1 n7 μ9 c9 => ?_) (fun z => Or.inl ⟨rfl, ?_⟩) (fun w z => Or.inr ⟨rfl, ?_⟩)
  · refine rr_begin hr hv (fun m' n' hm' e' e2' n1' n7' ν9 r9 => ?_) (fun z => absurd (ok hm e e2 n1 n7).1 z) (fun _ z => absurd (ok hm e e2 n1 n7).2 z)
    cases nI_injS e e' (by omega) (by omega)
    cases nI_injS e2 e2' (by omega) (by omega)
    exact ph_ok hP (hv.up (aC_AV n1 n7)) c9 r9
  · exact rr_begin hr hv (fun m' n' hm' e' e2' n1' n7' ν9 r9 => absurd (ok hm' e' e2' n1' n7').1 z) (fun _ b ν9 r9 => ph_x hP hv hc r9 (by decide)) (fun w => absurd w z)
  · exact rr_begin hr hv (fun m' n' hm' e' e2' n1' n7' ν9 r9 => absurd (ok hm' e' e2' n1' n7').2 z) (fun w' => absurd w w') (fun _ _ b ν9 r9 => ph_x hP hv hc r9 (by decide))
theorem ARG.ok {f s u : Nat} (h : ARG S a1 a2 a3 a4 m f s u) (hv : AVs S) : ARS S a1 a2 a4 ∧ IN a3 0 2 := by
  obtain ⟨hm, e1, e2, e4, e3, hf, hu, hs⟩ := h
  have := (hv m hm).2.1
  exact ⟨⟨m, hm, e1, e2 ▸ STn_nI hf (by omega), e4 ▸ STn_nI hu (by omega)⟩, e3 ▸ IN_nI (by omega) (by omega) (by omega)⟩
theorem ARG.uq {m' f s u f' s' u' : Nat} (h : ARG S a1 a2 a3 a4 m f s u) (h' : ARG S a1 a2 a3 a4 m' f' s' u') (hv : AVs S) : m' = m ∧ f' = f ∧ s' = s ∧ u' = u := by
  obtain ⟨hm, e1, e2, e4, e3, hf, hu, hs⟩ := h
  obtain ⟨hm', e1', e2', e4', e3', hf', hu', hs'⟩ := h'
  have := (hv m hm).2.1
  have := (hv m' hm').2.1
  exact ⟨nI_injS e1' e1 (by omega) (by omega), nI_injS e2' e2 (by omega) (by omega), nI_injS e3' e3 (by omega) (by omega), nI_injS e4' e4 (by omega) (by omega)⟩
theorem gs_arrow (hP : HPP P) (h : SIM μ ν) (nv : Int64) : wp_X9_arrow μ a1 a2 a3 a4 a5 (fun r μ9 => wp_X11_arrow ν a1 a2 a3 a4 a5 (fun b ν9 => P 0 r.toInt64 μ9 b ν9)) (fun E μ9 => (E = IOBn ∧ wp_X11_arrow ν a1 a2 a3 a4 a5 (fun b ν9 => P 1 nv μ9 b ν9)) ∨ (E = IAEn ∧ wp_X11_arrow ν a1 a2 a3 a4 a5 (fun b ν9 => P 2 nv μ9 b ν9))) := by
  obtain ⟨S, a, r, k, t, hv, hc, hr⟩ := h
  refine ee_arrow hc hv (fun m f s u g μ9 c9 => ?_) (fun z => Or.inl ⟨rfl, ?_⟩) (fun w z => Or.inr ⟨rfl, ?_⟩)
  · refine rr_arrow hr hv (fun m' f' s' u' g' ν9 r9 => ?_) (fun z => absurd (g.ok hv).1 z) (fun _ z => absurd (g.ok hv).2 z)
    obtain ⟨rfl, rfl, rfl, rfl⟩ := g.uq g' hv
    obtain ⟨hm, _, _, _, _, hf, hu, hs⟩ := g
    exact ph_ok hP (hv.up (aI_AV (hv _ hm) (by omega) (wW_lt ((hv _ hm).2.2.2.2.1 _ (by omega)) hu (hv _ hm).2.1))) c9 r9
  · exact rr_arrow hr hv (fun m' f' s' u' g' ν9 r9 => absurd (g'.ok hv).1 z) (fun _ b ν9 r9 => ph_x hP hv hc r9 (by decide)) (fun w => absurd w z)
  · exact rr_arrow hr hv (fun m' f' s' u' g' ν9 r9 => absurd (g'.ok hv).2 z) (fun w' => absurd w w') (fun _ _ b ν9 r9 => ph_x hP hv hc r9 (by decide))
theorem gs_lead (hP : HPP P) (h : SIM μ ν) (nv : Int64) : wp_X9_lead μ a1 a2 a3 a4 (fun r μ9 => wp_X11_lead ν a1 a2 a3 a4 (fun b ν9 => P 0 r.toInt64 μ9 b ν9)) (fun E μ9 => (E = IOBn ∧ wp_X11_lead ν a1 a2 a3 a4 (fun b ν9 => P 1 nv μ9 b ν9)) ∨ (E = IAEn ∧ wp_X11_lead ν a1 a2 a3 a4 (fun b ν9 => P 2 nv μ9 b ν9))) := by
  obtain ⟨S, a, r, k, t, hv, hc, hr⟩ := h
  refine ee_lead hc hv (fun m f s u g μ9 c9 => ?_) (fun z => Or.inl ⟨rfl, ?_⟩) (fun w z => Or.inr ⟨rfl, ?_⟩)
  · refine rr_lead hr hv (fun m' f' s' u' g' ν9 r9 => ?_) (fun z => absurd (g.ok hv).1 z) (fun _ z => absurd (g.ok hv).2 z)
    obtain ⟨rfl, rfl, rfl, rfl⟩ := g.uq g' hv
    obtain ⟨hm, _, _, _, _, hf, hu, hs⟩ := g
    have h7 := (hv _ hm).2.1
    exact ph_ok hP (hv.up (aI_AV (hv _ hm) (by omega) (by rw [nn_two _ (by omega)]; exact Nat.pow_lt_pow_right (by decide) hu))) c9 r9
  · exact rr_lead hr hv (fun m' f' s' u' g' ν9 r9 => absurd (g'.ok hv).1 z) (fun _ b ν9 r9 => ph_x hP hv hc r9 (by decide)) (fun w => absurd w z)
  · exact rr_lead hr hv (fun m' f' s' u' g' ν9 r9 => absurd (g'.ok hv).2 z) (fun w' => absurd w w') (fun _ _ b ν9 r9 => ph_x hP hv hc r9 (by decide))
theorem gs_mark (hP : HPP P) (h : SIM μ ν) (nv : Int64) : wp_X9_mark μ a1 a2 a3 a4 (fun r μ9 => wp_X11_mark ν a1 a2 a3 a4 (fun b ν9 => P 0 r.toInt64 μ9 b ν9)) (fun E μ9 => (E = IOBn ∧ wp_X11_mark ν a1 a2 a3 a4 (fun b ν9 => P 1 nv μ9 b ν9))) := by
  obtain ⟨S, a, r, k, t, hv, hc, hr⟩ := h
  have ok : ∀ {m u : Nat}, m < 4 → a1 = nI m → a2 = nI u → u < (S m).1 → ∃ m, m < 4 ∧ a1 = nI m ∧ STn a2 (S m).1 := fun {m u} hm e e2 hu => ⟨m, hm, e, e2 ▸ STn_nI hu (by have := (hv m hm).2.1; omega)⟩
  refine ee_mark hc hv (fun m u hm e e2 hu μ9 c9 => ?_) (fun z => ⟨rfl, ?_⟩)
  · refine rr_mark hr hv (fun m' u' hm' e' e2' hu' ν9 r9 => ?_) (fun z => absurd (ok hm e e2 hu) z)
    have := (hv m hm).2.1
    have := (hv m' hm').2.1
    cases nI_injS e e' (by omega) (by omega)
    cases nI_injS e2 e2' (by omega) (by omega)
    exact ph_ok hP (hv.up (aK_AV (hv m hm) (wW_lt (aKv_lt (hv m hm)) hu (hv m hm).2.1))) c9 r9
  · exact rr_mark hr hv (fun m' u' hm' e' e2' hu' ν9 r9 => absurd (ok hm' e' e2' hu') z) (fun _ b ν9 r9 => ph_x hP hv hc r9 (by decide))
theorem gs_sow (hP : HPP P) (h : SIM μ ν) (nv : Int64) : wp_X9_sow μ a1 a2 a3 a4 (fun r μ9 => wp_X11_sow ν a1 a2 a3 a4 (fun b ν9 => P 0 r.toInt64 μ9 b ν9)) (fun E μ9 => (E = IOBn ∧ wp_X11_sow ν a1 a2 a3 a4 (fun b ν9 => P 1 nv μ9 b ν9)) ∨ (E = IAEn ∧ wp_X11_sow ν a1 a2 a3 a4 (fun b ν9 => P 2 nv μ9 b ν9))) := by
  obtain ⟨S, a, r, k, t, hv, hc, hr⟩ := h
  have ok : ∀ {m n}, m < 4 → a1 = nI m → a3 = nI n → 1 ≤ n → n ≤ 7 → M1 a1 ∧ IN a3 1 7 := fun hm e e2 n1 n7 => ⟨e ▸ M1_nI hm, e2 ▸ IN_nI (by omega) (by omega) (by omega)⟩
  refine ee_sow hc hv (fun m n hm e e2 n1 n7 i2 i4 μ9 c9 => ?_) (fun z => Or.inl ⟨rfl, ?_⟩) (fun w z => Or.inr ⟨rfl, ?_⟩)
  · refine rr_sow hr hv (fun m' n' hm' e' e2' n1' n7' _ _ ν9 r9 => ?_) (fun z => absurd (ok hm e e2 n1 n7).1 z) (fun _ z => absurd ⟨i2, (ok hm e e2 n1 n7).2, i4⟩ z)
    cases nI_injS e e' (by omega) (by omega)
    cases nI_injS e2 e2' (by omega) (by omega)
    exact ph_ok hP (hv.up (aS_AV n1 n7 i2)) c9 r9
  · exact rr_sow hr hv (fun m' n' hm' e' e2' n1' n7' _ _ ν9 r9 => absurd (ok hm' e' e2' n1' n7').1 z) (fun _ b ν9 r9 => ph_x hP hv hc r9 (by decide)) (fun w => absurd w z)
  · exact rr_sow hr hv (fun m' n' hm' e' e2' n1' n7' i2 i4 ν9 r9 => absurd ⟨i2, (ok hm' e' e2' n1' n7').2, i4⟩ z) (fun w' => absurd w w') (fun _ _ b ν9 r9 => ph_x hP hv hc r9 (by decide))
theorem ONE2_nI {m' : Nat} (hm : m < 4) (hm' : m' < 4) (e : a1 = nI m) (e' : a2 = nI m') : ONE2 a1 a2 := ⟨e ▸ M1_nI hm, e' ▸ M1_nI hm'⟩
theorem gs_copy (hP : HPP P) (h : SIM μ ν) (nv : Int64) : wp_X9_copy μ a1 a2 (fun r μ9 => wp_X11_copy ν a1 a2 (fun b ν9 => P 0 r.toInt64 μ9 b ν9)) (fun E μ9 => (E = IOBn ∧ wp_X11_copy ν a1 a2 (fun b ν9 => P 1 nv μ9 b ν9))) := by
  obtain ⟨S, a, r, k, t, hv, hc, hr⟩ := h
  refine ee_copy hc hv (fun m m' hm hm' e e' v bv μ9 c9 => ?_) (fun z => ⟨rfl, ?_⟩)
  · refine rr_copy hr hv (fun n n' hn hn' f f' v' bv' ν9 r9 => ?_) (fun z => absurd (ONE2_nI hm hm' e e') z)
    cases nI_injS e f (by omega) (by omega)
    cases nI_injS e' f' (by omega) (by omega)
    cases bv.uniq bv'.sym
    exact ph_ok hP (hv.up (hv m hm)) c9 r9
  · exact rr_copy hr hv (fun n n' hn hn' f f' v' bv' ν9 r9 => absurd (ONE2_nI hn hn' f f') z) (fun _ b ν9 r9 => ph_x hP hv hc r9 (by decide))
theorem gs_swap (hP : HPP P) (h : SIM μ ν) (nv : Int64) : wp_X9_swap μ a1 a2 (fun r μ9 => wp_X11_swap ν a1 a2 (fun b ν9 => P 0 r.toInt64 μ9 b ν9)) (fun E μ9 => (E = IOBn ∧ wp_X11_swap ν a1 a2 (fun b ν9 => P 1 nv μ9 b ν9))) := by
  obtain ⟨S, a, r, k, t, hv, hc, hr⟩ := h
  refine ee_swap hc hv (fun m m' hm hm' e e' v bv μ9 c9 => ?_) (fun z => ⟨rfl, ?_⟩)
  · refine rr_swap hr hv (fun n n' hn hn' f f' v' bv' ν9 r9 => ?_) (fun z => absurd (ONE2_nI hm hm' e e') z)
    cases nI_injS e f (by omega) (by omega)
    cases nI_injS e' f' (by omega) (by omega)
    cases bv.uniq bv'
    exact ph_ok hP ((hv.up (hv m' hm')).up (hv m hm)) c9 r9
  · exact rr_swap hr hv (fun n n' hn hn' f f' v' bv' ν9 r9 => absurd (ONE2_nI hn hn' f f') z) (fun _ b ν9 r9 => ph_x hP hv hc r9 (by decide))
theorem gs_turn (hP : HPP P) (h : SIM μ ν) (nv : Int64) : wp_X9_turn μ a1 (fun r μ9 => wp_X11_turn ν a1 (fun b ν9 => P 0 r.toInt64 μ9 b ν9)) (fun E μ9 => (E = IOBn ∧ wp_X11_turn ν a1 (fun b ν9 => P 1 nv μ9 b ν9))) := by
  obtain ⟨S, a, r, k, t, hv, hc, hr⟩ := h
  refine ee_turn hc hv (fun m hm e μ9 c9 => ?_) (fun z => ⟨rfl, ?_⟩)
  · refine rr_turn hr hv (fun n hn f ν9 r9 => ?_) (fun z => absurd (e ▸ M1_nI hm) z)
    cases nI_injS e f (by omega) (by omega)
    exact ph_ok hP (hv.up (aT_AV (hv m hm))) c9 r9
  · exact rr_turn hr hv (fun n hn f ν9 r9 => absurd (f ▸ M1_nI hn) z) (fun _ b ν9 r9 => ph_x hP hv hc r9 (by decide))
theorem gs_other (hP : HPP P) (h : SIM μ ν) (nv : Int64) : wp_X9_other μ a1 (fun r μ9 => wp_X11_other ν a1 (fun b ν9 => P 0 r.toInt64 μ9 b ν9)) (fun E μ9 => (E = IOBn ∧ wp_X11_other ν a1 (fun b ν9 => P 1 nv μ9 b ν9))) := by
  obtain ⟨S, a, r, k, t, hv, hc, hr⟩ := h
  refine ee_other hc hv (fun m hm e g μ9 c9 => ?_) (fun m hm e g μ9 c9 => ?_) (fun z => ⟨rfl, ?_⟩)
  · refine rr_other hr hv (fun n hn f g' ν9 r9 => ?_) (fun n hn f g' ν9 r9 => ?_) (fun z => absurd (e ▸ M1_nI hm) z)
    · cases nI_injS e f (by omega) (by omega)
      exact ph_ok hP (hv.up (aO_AV (hv m hm))) c9 r9
    · cases nI_injS e f (by omega) (by omega)
      exact absurd g g'
  · refine rr_other hr hv (fun n hn f g' ν9 r9 => ?_) (fun n hn f g' ν9 r9 => ?_) (fun z => absurd (e ▸ M1_nI hm) z)
    · cases nI_injS e f (by omega) (by omega)
      exact absurd g' g
    · exact ph_ok hP hv c9 r9
  · exact rr_other hr hv (fun n hn f g ν9 r9 => absurd (f ▸ M1_nI hn) z) (fun n hn f g ν9 r9 => absurd (f ▸ M1_nI hn) z) (fun _ b ν9 r9 => ph_x hP hv hc r9 (by decide))
theorem gs_grow (hP : HPP P) (h : SIM μ ν) (nv : Int64) : wp_X9_grow μ a1 (fun r μ9 => wp_X11_grow ν a1 (fun b ν9 => P 0 r.toInt64 μ9 b ν9)) (fun E μ9 => (E = IOBn ∧ wp_X11_grow ν a1 (fun b ν9 => P 1 nv μ9 b ν9))) := by
  obtain ⟨S, a, r, k, t, hv, hc, hr⟩ := h
  refine ee_grow hc hv (fun m hm e g μ9 c9 => ?_) (fun m hm e g μ9 c9 => ?_) (fun z => ⟨rfl, ?_⟩)
  · refine rr_grow hr hv (fun n hn f g' ν9 r9 => ?_) (fun n hn f g' ν9 r9 => ?_) (fun z => absurd (e ▸ M1_nI hm) z)
    · cases nI_injS e f (by omega) (by omega)
      exact ph_ok hP (hv.up (grow_AV (hv m hm) g)) c9 r9
    · cases nI_injS e f (by omega) (by omega)
      exact absurd g g'
  · refine rr_grow hr hv (fun n hn f g' ν9 r9 => ?_) (fun n hn f g' ν9 r9 => ?_) (fun z => absurd (e ▸ M1_nI hm) z)
    · cases nI_injS e f (by omega) (by omega)
      exact absurd g' g
    · exact ph_ok hP hv c9 r9
  · exact rr_grow hr hv (fun n hn f g ν9 r9 => absurd (f ▸ M1_nI hn) z) (fun n hn f g ν9 r9 => absurd (f ▸ M1_nI hn) z) (fun _ b ν9 r9 => ph_x hP hv hc r9 (by decide))
theorem gs_drop (hP : HPP P) (h : SIM μ ν) (nv : Int64) : wp_X9_drop μ a1 a2 (fun r μ9 => wp_X11_drop ν a1 a2 (fun b ν9 => P 0 r.toInt64 μ9 b ν9)) (fun E μ9 => (E = IOBn ∧ wp_X11_drop ν a1 a2 (fun b ν9 => P 1 nv μ9 b ν9))) := by
  obtain ⟨S, a, r, k, t, hv, hc, hr⟩ := h
  have ok : ∀ {m u : Nat}, m < 4 → a1 = nI m → u < (S m).1 → a2 = nI u → ∃ m, m < 4 ∧ a1 = nI m ∧ STn a2 (S m).1 := fun {m u} hm e hu e2 => ⟨m, hm, e, e2 ▸ STn_nI hu (by have := (hv m hm).2.1; omega)⟩
  have uq : ∀ {m u m' u' : Nat}, m < 4 → a1 = nI m → u < (S m).1 → a2 = nI u → m' < 4 → a1 = nI m' → u' < (S m').1 → a2 = nI u' → m' = m ∧ u' = u := fun {m u m' u'} hm e hu e2 hm' e' hu' e2' => by
    have := (hv m hm).2.1
    have := (hv m' hm').2.1
    exact ⟨nI_injS e' e (by omega) (by omega), nI_injS e2' e2 (by omega) (by omega)⟩
  refine ee_drop hc hv (fun m u hm e hu e2 g μ9 c9 => ?_) (fun m u hm e hu e2 g μ9 c9 => ?_) (fun z => ⟨rfl, ?_⟩)
  · refine rr_drop hr hv (fun m' u' hm' e' hu' e2' g' ν9 r9 => ?_) (fun m' u' hm' e' hu' e2' g' ν9 r9 => ?_) (fun z => absurd (ok hm e hu e2) z)
    · obtain ⟨rfl, rfl⟩ := uq hm e hu e2 hm' e' hu' e2'
      exact ph_ok hP (hv.up (aD_AV (hv _ hm) hu g)) c9 r9
    · obtain ⟨rfl, rfl⟩ := uq hm e hu e2 hm' e' hu' e2'
      exact absurd g' g
  · refine rr_drop hr hv (fun m' u' hm' e' hu' e2' g' ν9 r9 => ?_) (fun m' u' hm' e' hu' e2' g' ν9 r9 => ?_) (fun z => absurd (ok hm e hu e2) z)
    · obtain ⟨rfl, rfl⟩ := uq hm e hu e2 hm' e' hu' e2'
      exact absurd g g'
    · exact ph_ok hP hv c9 r9
  · exact rr_drop hr hv (fun m' u' hm' e' hu' e2' g' ν9 r9 => absurd (ok hm' e' hu' e2') z) (fun m' u' hm' e' hu' e2' g' ν9 r9 => absurd (ok hm' e' hu' e2') z) (fun _ b ν9 r9 => ph_x hP hv hc r9 (by decide))
theorem SM7.uq {o : Option DF} {D D' : DF} (h : SM7 o D) (h' : SM7 o D') : D' = D := by
  have := h'.1.symm.trans h.1
  cases this
  rfl
theorem gs_make (hP : HPP P) (h : SIM μ ν) (nv : Int64) : wp_X9_make μ a1 a2 a3 (fun r μ9 => wp_X11_make ν a1 a2 a3 (fun b ν9 => P 0 r.toInt64 μ9 b ν9)) (fun E μ9 => (E = IOBn ∧ wp_X11_make ν a1 a2 a3 (fun b ν9 => P 1 nv μ9 b ν9))) := by
  obtain ⟨S, a, r, k, t, hv, hc, hr⟩ := h
  refine ee_make hc hv (fun m m' D hm hm' e e' g μ9 c9 => ?_) (fun m m' hm hm' e e' g μ9 c9 => ?_) (fun z => ⟨rfl, ?_⟩)
  · refine rr_make hr hv (fun n n' D' hn hn' f f' g' ν9 r9 => ?_) (fun n n' hn hn' f f' g' ν9 r9 => ?_) (fun z => absurd (ONE2_nI hm hm' e e') z)
    · cases nI_injS e f (by omega) (by omega)
      cases nI_injS e' f' (by omega) (by omega)
      cases g.uq g'
      exact ph_ok hP (hv.up (aP_AV g)) c9 r9
    · cases nI_injS e f (by omega) (by omega)
      exact absurd g.2.1 (g' _ g.1)
  · refine rr_make hr hv (fun n n' D' hn hn' f f' g' ν9 r9 => ?_) (fun n n' hn hn' f f' g' ν9 r9 => ?_) (fun z => absurd (ONE2_nI hm hm' e e') z)
    · cases nI_injS e f (by omega) (by omega)
      exact absurd g'.2.1 (g _ g'.1)
    · exact ph_ok hP hv c9 r9
  · exact rr_make hr hv (fun n n' D' hn hn' f f' g' ν9 r9 => absurd (ONE2_nI hn hn' f f') z) (fun n n' hn hn' f f' g' ν9 r9 => absurd (ONE2_nI hn hn' f f') z) (fun _ b ν9 r9 => ph_x hP hv hc r9 (by decide))
theorem gs_combine (hP : HPP P) (h : SIM μ ν) (nv : Int64) : wp_X9_combine μ a1 a2 a3 a4 (fun r μ9 => wp_X11_combine ν a1 a2 a3 a4 (fun b ν9 => P 0 r.toInt64 μ9 b ν9)) (fun E μ9 => (E = IOBn ∧ wp_X11_combine ν a1 a2 a3 a4 (fun b ν9 => P 1 nv μ9 b ν9)) ∨ (E = IAEn ∧ wp_X11_combine ν a1 a2 a3 a4 (fun b ν9 => P 2 nv μ9 b ν9))) := by
  obtain ⟨S, a, r, k, t, hv, hc, hr⟩ := h
  have ok : ∀ {m m' mi w : Nat}, m < 4 → m' < 4 → mi < 4 → a1 = nI m → a2 = nI m' → a4 = nI mi → a3 = nI w → w ≤ 3 → (ONE2 a1 a2 ∧ M1 a4) ∧ IN a3 0 3 := fun hm hm' hmi e e' ei ew hw => ⟨⟨ONE2_nI hm hm' e e', ei ▸ M1_nI hmi⟩, ew ▸ IN_nI (by omega) (by omega) (by omega)⟩
  refine ee_combine hc hv (fun m m' mi w D hm hm' hmi e e' ei ew hw g μ9 c9 => ?_) (fun m m' mi w hm hm' hmi e e' ei ew hw g μ9 c9 => ?_) (fun z => Or.inl ⟨rfl, ?_⟩) (fun w z => Or.inr ⟨rfl, ?_⟩)
  · refine rr_combine hr hv (fun n n' ni x D' hn hn' hni f f' fi fx hx g' ν9 r9 => ?_) (fun n n' ni x hn hn' hni f f' fi fx hx g' ν9 r9 => ?_) (fun z => absurd (ok hm hm' hmi e e' ei ew hw).1 z) (fun _ z => absurd (ok hm hm' hmi e e' ei ew hw).2 z)
    · cases nI_injS e f (by omega) (by omega)
      cases nI_injS e' f' (by omega) (by omega)
      cases nI_injS ei fi (by omega) (by omega)
      cases nI_injS ew fx (by omega) (by omega)
      cases g.uq g'
      exact ph_ok hP (hv.up (aP_AV g)) c9 r9
    · cases nI_injS e f (by omega) (by omega)
      cases nI_injS e' f' (by omega) (by omega)
      cases nI_injS ew fx (by omega) (by omega)
      exact absurd g.2.1 (g' _ g.1)
  · refine rr_combine hr hv (fun n n' ni x D' hn hn' hni f f' fi fx hx g' ν9 r9 => ?_) (fun n n' ni x hn hn' hni f f' fi fx hx g' ν9 r9 => ?_) (fun z => absurd (ok hm hm' hmi e e' ei ew hw).1 z) (fun _ z => absurd (ok hm hm' hmi e e' ei ew hw).2 z)
    · cases nI_injS e f (by omega) (by omega)
      cases nI_injS e' f' (by omega) (by omega)
      cases nI_injS ew fx (by omega) (by omega)
      exact absurd g'.2.1 (g _ g'.1)
    · exact ph_ok hP hv c9 r9
  · exact rr_combine hr hv (fun n n' ni x D' hn hn' hni f f' fi fx hx g' ν9 r9 => absurd (ok hn hn' hni f f' fi fx hx).1 z) (fun n n' ni x hn hn' hni f f' fi fx hx g' ν9 r9 => absurd (ok hn hn' hni f f' fi fx hx).1 z) (fun _ b ν9 r9 => ph_x hP hv hc r9 (by decide)) (fun w => absurd w z)
  · exact rr_combine hr hv (fun n n' ni x D' hn hn' hni f f' fi fx hx g' ν9 r9 => absurd (ok hn hn' hni f f' fi fx hx).2 z) (fun n n' ni x hn hn' hni f f' fi fx hx g' ν9 r9 => absurd (ok hn hn' hni f f' fi fx hx).2 z) (fun w' => absurd w w') (fun _ _ b ν9 r9 => ph_x hP hv hc r9 (by decide))
end SIMS
end
/-! part 9sas.sim2 -/
section
section SIMT
variable {μ ν : TMem} {S : Nat → AM} {a r k t : Int32} {a1 a2 a3 a4 a5 : Int32} {m : Nat} {A : AM} {Q : Int32 → TMem → Prop} {X : String → TMem → Prop} {Qi : Int32 → Prop} {P : PP}
theorem RSt.fa {ν9 : TMem} (h : RSt ν S a r k t) (f : FA ν ν9) : RSt ν9 S a r k (ν9 0 7) := by
  obtain ⟨h1, h2, h3, h4, h5⟩ := h
  have f2 := f.2
  refine ⟨fun i hi => ?_, by rw [f2 0 4 (Or.inr (by decide))]; exact h2, by rw [f2 0 5 (Or.inr (by decide))]; exact h3, by rw [f2 0 6 (Or.inr (by decide))]; exact h4, rfl⟩
  obtain ⟨g1, g2, g3, g4⟩ := h1 i hi
  exact ⟨by rw [f2 1 i (Or.inl (by decide))]; exact g1, by rw [f2 2 i (Or.inl (by decide))]; exact g2, by rw [f2 3 i (Or.inl (by decide))]; exact g3, fun j hj => by rw [f2 4 _ (Or.inl (by decide))]; exact g4 j hj⟩
theorem SIM.pass {lv : Nat} {μ9 ν9 : TMem} (h : SIM μ ν) (f : Zr lv μ μ9) (g : FA ν ν9) : SIM μ9 ν9 := by
  obtain ⟨S, a, r, k, t, hv, hc, hr⟩ := h
  exact ⟨S, a, r, k, _, hv, hc.keep f.zf, hr.fa g⟩
/-- one thing told of a machine -/
noncomputable def TLV (A : AM) (w : Int32) : Int32 := if w = 0 then nI A.1 else if w = 1 then AC A else if w = 2 then A.2.1 else if w = 3 then A.2.2.1 else @ite _ (aPl A) (Classical.propDecidable _) 1 0
theorem ee_tell (hc : CSt μ S a r k) (hv : AVs S) (hok : ∀ m, m < 4 → a1 = nI m → IN a2 0 4 → Q (TLV (S m) a2) μ) (h1 : ¬ M1 a1 → X "java/lang/IndexOutOfBoundsException" μ) (h2 : M1 a1 → ¬ IN a2 0 4 → X "java/lang/IllegalArgumentException" μ) : wp_X9_tell μ a1 a2 Q X := by
  refine e_mach (fun m hm em => e_rng (fun w => ?_) (fun z => h2 (em ▸ M1_nI hm) z)) h1
  have hM := hc.1 m hm
  have v7 := (hv m hm).2.1
  have tm := tlm hm
  have g := hok m hm em w
  refine ⟨fun e => ?_, fun n0 => ⟨fun e => ?_, fun n1 => ⟨fun e => ?_, fun n2 => ⟨fun e => ?_, fun n3 => ?_⟩⟩⟩⟩
  · rw [TLV, if_pos e] at g
    rw [hM.1]; exact g
  · rw [TLV, if_neg n0, if_pos e] at g
    exact e_countA hM.1 (by omega) (by omega) hM.2.2.2 g
  · rw [TLV, if_neg n0, if_neg n1, if_pos e] at g
    rw [hM.2.1]; exact g
  · rw [TLV, if_neg n0, if_neg n1, if_neg n2, if_pos e] at g
    rw [hM.2.2.1]; exact g
  · rw [TLV, if_neg n0, if_neg n1, if_neg n2, if_neg n3] at g
    refine e_isPlain hM (by omega) (by omega) (fun p => ⟨fun z => absurd z (by decide), fun _ => ?_⟩) (fun p => ⟨fun _ => ?_, fun z => absurd rfl z⟩)
    · rw [if_pos p] at g; exact g
    · rw [if_neg p] at g; exact g
theorem rr_tell (h : RSt ν S a r k t) (hv : AVs S) (hok : ∀ m, m < 4 → a1 = nI m → IN a2 0 4 → ∀ ν9, RSt ν9 S a r k 0 → Q (TLV (S m) a2) ν9) (h1 : ¬ M1 a1 → ∀ b ν9, RSt ν9 S a r k 1 → Q b ν9) (h2 : M1 a1 → ¬ IN a2 0 4 → ∀ b ν9, RSt ν9 S a r k 2 → Q b ν9) : wp_X11_tell ν a1 a2 Q := by
  refine rr_one (fun m hm em => rr_in (fun w => th_ok ⟨fun _ => ?_, fun q => absurd rfl q⟩) (fun z => th_2 ⟨fun q => absurd q (by decide), fun _ => h2 (em ▸ M1_nI hm) z _ _ (h.thr 2)⟩)) (fun z => rr_in (fun w => th_1 ⟨fun q => absurd q (by decide), fun _ => h1 z _ _ (h.thr 1)⟩) (fun w => th_1 ⟨fun q => absurd q (by decide), fun _ => h1 z _ _ (h.thr 1)⟩))
  have h0 := h.thr 0
  have hR := h0.1 m hm
  have g := hok m hm em w _ h0
  have im : (nI m).toNatClampNeg = m := nI_clamp (by omega)
  rw [em]
  generalize hN : tms ν 0 7 0 = N at *
  refine ⟨fun n0 => ⟨fun n1 => ⟨fun n2 => ⟨fun n3 => ?_, fun e => ?_⟩, fun e => ?_⟩, fun e => ?_⟩, fun e => ?_⟩
  · rw [TLV, if_neg n0, if_neg n1, if_neg n2, if_neg n3] at g
    refine rr_isPlain hm hR (hv m hm) (fun p => ⟨fun z => absurd z (by decide), fun _ => ?_⟩) (fun p => ⟨fun _ => ?_, fun z => absurd rfl z⟩)
    · rw [if_pos p] at g; exact g
    · rw [if_neg p] at g; exact g
  · rw [TLV, if_neg n0, if_neg n1, if_neg n2, if_pos e] at g
    refine ⟨s_in hm (by omega), ?_⟩
    rw [im, hR.2.2.1]; exact g
  · rw [TLV, if_neg n0, if_neg n1, if_pos e] at g
    refine ⟨s_in hm (by omega), ?_⟩
    rw [im, hR.2.1]; exact g
  · rw [TLV, if_neg n0, if_pos e] at g
    exact rr_arrowsOf hm hR (hv m hm) g
  · rw [TLV, if_pos e] at g
    refine ⟨s_in hm (by omega), ?_⟩
    rw [im, hR.1]; exact g
theorem gs_tell (hP : HPP P) (h : SIM μ ν) (nv : Int64) : wp_X9_tell μ a1 a2 (fun r μ9 => wp_X11_tell ν a1 a2 (fun b ν9 => P 0 r.toInt64 μ9 b ν9)) (fun E μ9 => (E = IOBn ∧ wp_X11_tell ν a1 a2 (fun b ν9 => P 1 nv μ9 b ν9)) ∨ (E = IAEn ∧ wp_X11_tell ν a1 a2 (fun b ν9 => P 2 nv μ9 b ν9))) := by
  obtain ⟨S, a, r, k, t, hv, hc, hr⟩ := h
  refine ee_tell hc hv (fun m hm e w => ?_) (fun z => Or.inl ⟨rfl, ?_⟩) (fun w z => Or.inr ⟨rfl, ?_⟩)
  · refine rr_tell hr hv (fun m' hm' e' w' ν9 r9 => ?_) (fun z => absurd (e ▸ M1_nI hm) z) (fun _ z => absurd w z)
    cases nI_injS e e' (by omega) (by omega)
    exact ph_ok hP hv hc r9
  · exact rr_tell hr hv (fun m' hm' e' w' ν9 r9 => absurd (e' ▸ M1_nI hm') z) (fun _ b ν9 r9 => ph_x hP hv hc r9 (by decide)) (fun w => absurd w z)
  · exact rr_tell hr hv (fun m' hm' e' w' ν9 r9 => absurd w' z) (fun w' => absurd w w') (fun _ _ b ν9 r9 => ph_x hP hv hc r9 (by decide))
/-- a machine and one of its states -/
def MST (S : Nat → AM) (x y : Int32) : Prop := ∃ m, m < 4 ∧ x = nI m ∧ STn y (S m).1
theorem MST.mk {f : Nat} (hm : m < 4) (e : a1 = nI m) (e2 : a2 = nI f) (hf : f < (S m).1) (hv : AVs S) : MST S a1 a2 := ⟨m, hm, e, e2 ▸ STn_nI hf (by have := (hv m hm).2.1; omega)⟩
theorem MST.no (hm : m < 4) (e : a1 = nI m) (z : ¬ STn a2 (S m).1) : ¬ MST S a1 a2 := fun ⟨m', hm', e', e4⟩ => z (by rw [nI_inj4 hm hm' (e.symm.trans e')]; exact e4)
theorem ee_arrows (hc : CSt μ S a r k) (hv : AVs S) (hok : ∀ m f s, m < 4 → a1 = nI m → a2 = nI f → a3 = nI s → f < (S m).1 → s < 3 → Q ((S m).2.2.2 (3 * f + s)) μ) (h1 : ¬ MST S a1 a2 → X "java/lang/IndexOutOfBoundsException" μ) (h2 : MST S a1 a2 → ¬ IN a3 0 2 → X "java/lang/IllegalArgumentException" μ) : wp_X9_arrows μ a1 a2 a3 Q X := by
  refine e_mach (fun m hm em => ?_) (fun z => h1 (fun ⟨m, hm, e, _⟩ => z (e ▸ M1_nI hm)))
  have hM := hc.1 m hm
  have v7 := (hv m hm).2.1
  have tm := tlm hm
  refine e_stat hM.1 (by omega) (fun f hf ef => e_sign (fun s hs es => ?_) (fun z => h2 (MST.mk hm em ef hf hv) z)) (fun z => h1 (MST.no hm em z))
  have g := hok m f s hm em ef es hf hs
  rw [ef, es]
  refine e_atN (by omega) ?_
  rw [hM.2.2.2 _ (by omega)]
  exact g
theorem rr_arrows (h : RSt ν S a r k t) (hv : AVs S) (hok : ∀ m f s, m < 4 → a1 = nI m → a2 = nI f → a3 = nI s → f < (S m).1 → s < 3 → ∀ ν9, RSt ν9 S a r k 0 → Q ((S m).2.2.2 (3 * f + s)) ν9) (h1 : ¬ MST S a1 a2 → ∀ b ν9, RSt ν9 S a r k 1 → Q b ν9) (h2 : MST S a1 a2 → ¬ IN a3 0 2 → ∀ b ν9, RSt ν9 S a r k 2 → Q b ν9) : wp_X11_arrows ν a1 a2 a3 Q := by
  have bad : ¬ MST S a1 a2 → wp_X11_isIn a3 (0 : Int32) (2 : Int32) (fun (r4 : Int32) => wp_X11_isThrown ν 0 r4 (fun (r6 : Int32) (μ5 : TMem) => (r6 = 0 → (wp_X11_key a1 a2 a3 (fun (r8 : Int32) => vp_in r8 (ml 4) ∧ (Q (μ5 4 r8.toNatClampNeg) μ5)))) ∧ (¬ r6 = 0 → (Q (0 : Int32) μ5)))) := fun z => rr_in (fun _ => th_1 ⟨fun q => absurd q (by decide), fun _ => h1 z _ _ (h.thr 1)⟩) (fun _ => th_1 ⟨fun q => absurd q (by decide), fun _ => h1 z _ _ (h.thr 1)⟩)
  refine rr_one (fun m hm em => fun J hJ => ⟨fun z => absurd z (by decide), fun _ => ?_⟩) (fun z => fun J hJ => ⟨fun _ => hJ _ (bad (fun ⟨m, hm, e, _⟩ => z (e ▸ M1_nI hm))), fun w => absurd rfl w⟩)
  have v1 := (hv m hm).1
  have v7 := (hv m hm).2.1
  have hR0 := h.1 m hm
  rw [em]
  refine rr_st hm hR0.1 v1 v7 (fun f hf ef => ⟨fun z => absurd z (by decide), fun _ => hJ _ (rr_in (fun w => th_ok ⟨fun _ => ?_, fun q => absurd rfl q⟩) (fun w => th_2 ⟨fun q => absurd q (by decide), fun _ => h2 (MST.mk hm em ef hf hv) w _ _ (h.thr 2)⟩))⟩) (fun z => ⟨fun _ => hJ _ (bad (MST.no hm em z)), fun w => absurd rfl w⟩)
  obtain ⟨s, es, s0, s2⟩ := IN_ex w (by decide)
  have s2' : (s : Int) ≤ 2 := s2
  have h0 := h.thr 0
  have hR := h0.1 m hm
  have g := hok m f s hm em ef es hf (by omega) _ h0
  rw [em, ef, es]
  refine rr_key ⟨s_in (show _ < 84 by omega) (by omega), ?_⟩
  rw [nI_clamp (by omega), Nat.add_assoc, hR.2.2.2 _ (by omega)]
  exact g
theorem gs_arrows (hP : HPP P) (h : SIM μ ν) (nv : Int64) : wp_X9_arrows μ a1 a2 a3 (fun r μ9 => wp_X11_arrows ν a1 a2 a3 (fun b ν9 => P 0 r.toInt64 μ9 b ν9)) (fun E μ9 => (E = IOBn ∧ wp_X11_arrows ν a1 a2 a3 (fun b ν9 => P 1 nv μ9 b ν9)) ∨ (E = IAEn ∧ wp_X11_arrows ν a1 a2 a3 (fun b ν9 => P 2 nv μ9 b ν9))) := by
  obtain ⟨S, a, r, k, t, hv, hc, hr⟩ := h
  have ok : ∀ {s : Nat}, a3 = nI s → s < 3 → IN a3 0 2 := fun e h => e ▸ IN_nI (by omega) (by omega) (by omega)
  refine ee_arrows hc hv (fun m f s hm e ef es hf hs => ?_) (fun z => Or.inl ⟨rfl, ?_⟩) (fun w z => Or.inr ⟨rfl, ?_⟩)
  · refine rr_arrows hr hv (fun m' f' s' hm' e' ef' es' hf' hs' ν9 r9 => ?_) (fun z => absurd (MST.mk hm e ef hf hv) z) (fun _ z => absurd (ok es hs) z)
    have := (hv m hm).2.1
    have := (hv m' hm').2.1
    cases nI_injS e e' (by omega) (by omega)
    cases nI_injS ef ef' (by omega) (by omega)
    cases nI_injS es es' (by omega) (by omega)
    exact ph_ok hP hv hc r9
  · exact rr_arrows hr hv (fun m' f' s' hm' e' ef' es' hf' hs' ν9 r9 => absurd (MST.mk hm' e' ef' hf' hv) z) (fun _ b ν9 r9 => ph_x hP hv hc r9 (by decide)) (fun w => absurd w z)
  · exact rr_arrows hr hv (fun m' f' s' hm' e' ef' es' hf' hs' ν9 r9 => absurd (ok es' hs') z) (fun w' => absurd w w') (fun _ _ b ν9 r9 => ph_x hP hv hc r9 (by decide))
theorem gs_house (hP : HPP P) (h : SIM μ ν) (nv : Int64) : wp_X9_house μ a1 (fun r μ9 => wp_X11_house ν a1 (fun b ν9 => P 0 r.toInt64 μ9 b ν9)) (fun E μ9 => (E = IAEn ∧ wp_X11_house ν a1 (fun b ν9 => P 1 nv μ9 b ν9))) := by
  obtain ⟨S, a, r, k, t, hv, hc, hr⟩ := h
  have h0 := hr.thr 0
  refine e_rng (fun w => ?_) (fun z => ⟨rfl, rr_in (fun w => absurd w z) (fun _ => th_1 ⟨fun q => absurd q (by decide), fun _ => ph_x hP hv hc (hr.thr 1) (by decide)⟩)⟩)
  have R : ∀ nv9 : Int64, (∀ b, b = (if a1 = 0 then a else if a1 = 1 then r else k) → P 0 nv9 μ b (tms ν 0 7 0)) → wp_X11_house ν a1 (fun b ν9 => P 0 nv9 μ b ν9) := fun nv9 hh => rr_in (fun _ => th_ok ⟨fun _ => ⟨fun n0 => ⟨fun n1 => hh _ (by rw [if_neg n0, if_neg n1]; exact h0.2.2.2.1), fun e => hh _ (by rw [if_neg n0, if_pos e]; exact h0.2.2.1)⟩, fun e => hh _ (by rw [if_pos e]; exact h0.2.1)⟩, fun q => absurd rfl q⟩) (fun z => absurd w z)
  refine ⟨fun e => R _ (fun b hb => ?_), fun n0 => ⟨fun e => R _ (fun b hb => ?_), fun n1 => R _ (fun b hb => ?_)⟩⟩
  · rw [if_pos e] at hb
    rw [hb, hc.2.1]
    exact ph_ok hP hv hc h0
  · rw [if_neg n0, if_pos e] at hb
    rw [hb, hc.2.2.1]
    exact ph_ok hP hv hc h0
  · rw [if_neg n0, if_neg n1] at hb
    rw [hb, hc.2.2.2.1]
    exact ph_ok hP hv hc h0
theorem gs_knock {P : Int32 → TMem → Int32 → TMem → Prop} (hP : ∀ x μ9 ν9, SIM μ9 ν9 → P x μ9 x ν9) (h : SIM μ ν) : wp_X9_knock μ (fun r μ9 => wp_X11_knock ν (fun b ν9 => P r μ9 b ν9)) := by
  obtain ⟨S, a, r, k, t, hv, hc, hr⟩ := h
  have h0 := hr.thr 0
  obtain ⟨h1, h2, h3, h4, h5⟩ := hc
  have e : (tms μ 0 13 (μ 0 13 + 1)) 0 13 = k + 1 := by simp [tms_ix, h4]
  have e' : (tms (tms ν 0 7 0) 0 6 ((tms ν 0 7 0) 0 6 + 1)) 0 6 = k + 1 := by rw [h0.2.2.2.1]; simp [tms_ix]
  have g : SIM (tms μ 0 13 (μ 0 13 + 1)) (tms (tms ν 0 7 0) 0 6 ((tms ν 0 7 0) 0 6 + 1)) := by
    refine ⟨S, a, r, k + 1, 0, hv, ⟨fun i hi => (h1 i hi).same (tms_ne (by omega)) (tms_ne (by omega)), by simp [tms_ix, h2], by simp [tms_ix, h3], e, fun i => by rw [tms_ne (by decide)]; exact h5 i⟩, ?_⟩
    generalize tms ν 0 7 0 = N at *
    obtain ⟨q1, q2, q3, q4, q5⟩ := h0
    refine ⟨fun i hi => ?_, by simp [tms_ix, q2], by simp [tms_ix, q3], e', by simp [tms_ix, q5]⟩
    obtain ⟨g1, g2, g3, g4⟩ := q1 i hi
    exact ⟨by rw [tms_ne (by decide)]; exact g1, by rw [tms_ne (by decide)]; exact g2, by rw [tms_ne (by decide)]; exact g3, fun j hj => by rw [tms_ne (by decide)]; exact g4 j hj⟩
  show P ((tms μ 0 13 (μ 0 13 + 1)) 0 13) _ ((tms (tms ν 0 7 0) 0 6 ((tms ν 0 7 0) 0 6 + 1)) 0 6) _
  rw [e, e']
  exact hP _ _ _ g
/-- where a word leads -/
def SAf (f : Nat → Nat → Nat) : Nat → Nat → Nat → Nat
  | 0, _, x => x
  | l + 1, w, x => SAf f l (w / 3) (f x (w % 3))
/-- a machine's way by a sign -/
def RA9 (A : AM) : Nat → Nat → Nat := RC A.1 (fun j => nn (A.2.2.2 j))
theorem e_statesAfter {l w k0 : Nat} (hM : HM μ k0 A) (h32 : A.1 ≤ 32) (hr : 3 * A.1 ≤ tl (k0 + 1)) (hl : l < 2 ^ 30) (hw : w < 2 ^ 31) (h : ∀ r, nn r = SAf (RA9 A) l w (nn A.2.1) → Qi r) : wp_X2_statesAfter k0 μ (nI l) (nI w) Qi := by
  have hcg : ∀ (x s : Nat), s < 3 → RC A.1 (fun j => nn (μ (k0 + 1) j)) x s = RA9 A x s := fun x s hs => RCg_congr _ (fun i hi => by show nn (μ (k0 + 1) (3 * i + s)) = _; rw [hM.2.2.2 _ (by omega)])
  have L : ∀ (nf i y : Nat) (x : Int32), l - i < nf → i ≤ l → y < 2 ^ 31 → SAf (RA9 A) (l - i) y (nn x) = SAf (RA9 A) l w (nn A.2.1) → wpl_X2_statesAfter_11 k0 μ (nI l) Qi nf (nI i) (nI y) x := by
    intro nf
    induction nf with
    | zero => intro i y x hk; exact absurd hk (Nat.not_lt_zero _)
    | succ nf ih =>
      intro i y x hk hi hy e
      refine ⟨fun c => ?_, fun c => ?_⟩
      · rw [nI_leI (by omega) (by omega)] at c
        rw [show l - i = 0 by omega] at e
        exact h x e
      rw [nI_leI (by omega) (by omega)] at c
      rw [show (3 : Int32) = nI 3 from rfl, s_mod (by decide) hy (by decide), s_div (by decide) hy (by decide), nI_1]
      refine e_reach hM.1 h32 hr (Nat.mod_lt _ (by decide)) (fun r hr => ih (i + 1) (y / 3) r (by omega) (by omega) (by omega) ?_)
      rw [hr, hcg _ _ (Nat.mod_lt _ (by decide)), ← e, show l - i = l - (i + 1) + 1 by omega]
      rfl
  have g := L (l + 1) 0 w A.2.1 (by omega) (by omega) hw rfl
  rw [nI_0] at g
  unfold wp_X2_statesAfter
  rw [hM.2.1]
  exact ⟨_, g⟩
theorem s_isIn1 {x : Int32} {i : Nat} (hi : i < 32) : (x >>> (nI i &&& 31)) &&& (1 : Int32) = 1 ↔ (nn x).testBit i = true := by
  have h := s_isIn (x := x) hi
  have q : (x >>> (nI i &&& 31)) &&& (1 : Int32) = 0 ∨ (x >>> (nI i &&& 31)) &&& (1 : Int32) = 1 := by
    rw [nn_eq, nn_eq, nn_and, nn_0, show nn 1 = 1 from by decide, Nat.and_one_is_mod]
    omega
  rcases q with q | q
  · have := h.mp q
    rw [q, this]
    exact ⟨fun z => absurd z (by decide), fun z => absurd z (by decide)⟩
  · refine ⟨fun _ => ?_, fun _ => q⟩
    cases e : (nn x).testBit i with
    | true => rfl
    | false => exact absurd ((h.mpr e).symm.trans q) (by decide)
theorem rr_setAfter {l w : Nat} (hm : m < 4) (hR : HR ν m A) (hv : AV A) (hl : l < 2 ^ 30) (hw : w < 2 ^ 31) (h : ∀ r, nn r = SAf (RA9 A) l w (nn A.2.1) → Qi r) : wp_X11_setAfter ν (nI m) (nI l) (nI w) Qi := by
  obtain ⟨b1, b2, b3, b4⟩ := hR
  have v7 := hv.2.1
  have im : (nI m).toNatClampNeg = m := nI_clamp (by omega)
  have L26 : ∀ (v12 v14 v16 : Int32) (y : Nat) (K : Int32 → Prop), y < 2 ^ 31 → (∀ u, nn u = RA9 A (nn v14) (y % 3) → K u) → ∀ (nf i : Nat) (v : Int32), A.1 - i < nf → i ≤ A.1 → nn v = RCg (fun j => nn (A.2.2.2 j)) (nn v14) (y % 3) i → wpl_X11_setAfter_26 ν v12 (nI y) v14 (nI m) v16 K nf (nI i) v := by
    intro v12 v14 v16 y K hy hK nf
    induction nf with
    | zero => intro i v hk; exact absurd hk (Nat.not_lt_zero _)
    | succ nf ih =>
      intro i v hk hi hV
      have hy3 := Nat.mod_lt y (show 0 < 3 by decide)
      refine ⟨s_in hm (by omega), ?_⟩
      rw [im, b1, nI_leI (by omega) (by omega)]
      refine ⟨fun c => ?_, fun c => ?_⟩
      · rw [show i = A.1 by omega] at hV
        exact hK v hV
      refine ⟨fun z => ?_, fun z => ?_⟩
      · rw [s_isIn1 (by omega)] at z
        rw [nI_1]
        exact ih (i + 1) v (by omega) (by omega) (by rw [RCg, if_neg z]; exact hV)
      · rw [s_isIn1 (by omega)] at z
        rw [show (3 : Int32) = nI 3 from rfl, s_mod (by decide) hy (by decide)]
        refine rr_key ⟨s_in (show _ < 84 by omega) (by omega), ?_⟩
        rw [nI_clamp (by omega), Nat.add_assoc, b4 _ (by omega), nI_1]
        exact ih (i + 1) _ (by omega) (by omega) (by rw [nn_or, RCg, if_pos z, hV])
  have L : ∀ (nf i y : Nat) (x : Int32), l - i < nf → i ≤ l → y < 2 ^ 31 → SAf (RA9 A) (l - i) y (nn x) = SAf (RA9 A) l w (nn A.2.1) → wpl_X11_setAfter_14 ν (nI m) (nI l) Qi nf (nI i) (nI y) x := by
    intro nf
    induction nf with
    | zero => intro i y x hk; exact absurd hk (Nat.not_lt_zero _)
    | succ nf ih =>
      intro i y x hk hi hy e
      refine ⟨fun c => ?_, fun c => ?_⟩
      · rw [nI_leI (by omega) (by omega)] at c
        rw [show l - i = 0 by omega] at e
        exact h x e
      rw [nI_leI (by omega) (by omega)] at c
      have g := L26 (nI i) x (nI l) y (fun u23 => wpl_X11_setAfter_14 ν (nI m) (nI l) Qi nf (nI i + (1 : Int32)) (nI y / (3 : Int32)) u23) hy (fun u hu => ?_) (A.1 + 1) 0 0 (by omega) (by omega) nn_0
      · rw [nI_0] at g
        exact ⟨_, g⟩
      · rw [show (3 : Int32) = nI 3 from rfl, s_div (by decide) hy (by decide), nI_1]
        refine ih (i + 1) (y / 3) u (by omega) (by omega) (by omega) ?_
        rw [hu, ← e, show l - i = l - (i + 1) + 1 by omega]
        rfl
  have g := L (l + 1) 0 w A.2.1 (by omega) (by omega) hw rfl
  rw [nI_0] at g
  refine ⟨s_in hm (by omega), ?_⟩
  rw [im, b2]
  exact ⟨_, g⟩
theorem p3_le {l : Nat} (h : l ≤ 12) : 1 ≤ 3 ^ l ∧ 3 ^ l ≤ 531441 := ⟨Nat.one_le_pow _ _ (by decide), by have := Nat.pow_le_pow_right (show 0 < 3 by decide) h; exact this⟩
theorem e_codes {l : Nat} (hl : l ≤ 12) (h : Qi (nI (3 ^ l))) : wp_X9_countCodes (nI l) Qi := by
  have L : ∀ (nf i : Nat), l - i < nf → i ≤ l → wpl_X9_countCodes_4 (nI l) Qi nf (nI i) (nI (3 ^ i)) := by
    intro nf
    induction nf with
    | zero => intro i hk; exact absurd hk (Nat.not_lt_zero _)
    | succ nf ih =>
      intro i hk hi
      refine ⟨fun c => ?_, fun c => ?_⟩
      · rw [nI_leI (by omega) (by omega)] at c
        rw [show i = l by omega]
        exact h
      rw [nI_leI (by omega) (by omega)] at c
      rw [show (3 : Int32) = nI 3 from rfl, s_mul, ← Nat.pow_succ, nI_1]
      exact ih (i + 1) (by omega) (by omega)
  exact ⟨_, L (l + 1) 0 (by omega) (by omega)⟩
theorem rr_power {l : Nat} (hl : l ≤ 12) (h : Qi (nI (3 ^ l))) : wp_X11_power (nI l) Qi := by
  have L : ∀ (nf i : Nat), l - i < nf → i ≤ l → wpl_X11_power_4 (nI l) Qi nf (nI i) (nI (3 ^ i)) := by
    intro nf
    induction nf with
    | zero => intro i hk; exact absurd hk (Nat.not_lt_zero _)
    | succ nf ih =>
      intro i hk hi
      refine ⟨fun c => ?_, fun c => ?_⟩
      · rw [nI_leI (by omega) (by omega)] at c
        rw [show i = l by omega]
        exact h
      rw [nI_leI (by omega) (by omega)] at c
      rw [show (3 : Int32) = nI 3 from rfl, s_mul, ← Nat.pow_succ, nI_1]
      exact ih (i + 1) (by omega) (by omega)
  exact ⟨_, L (l + 1) 0 (by omega) (by omega)⟩
/-- a word: its length, its code -/
def WRD (x y : Int32) : Prop := ∃ l w : Nat, l ≤ 12 ∧ x = nI l ∧ y = nI w ∧ w < 3 ^ l
theorem e_word {Qv : TMem → Prop} (h : ∀ l w : Nat, l ≤ 12 → a2 = nI l → a3 = nI w → w < 3 ^ l → Qv μ) (hX : ¬ WRD a2 a3 → X "java/lang/IllegalArgumentException" μ) : wp_X9_checkWord μ a2 a3 Qv X := by
  refine e_rng (fun z => ?_) (fun z => hX (fun ⟨l, w, hl, e, _, _⟩ => z (e ▸ IN_nI (by show (0 : Int) ≤ l; omega) (by show (l : Int) ≤ 12; omega) (by omega))))
  obtain ⟨l, e, _, h12⟩ := IN_ex z (by decide)
  have hl : l ≤ 12 := by have h12' : (l : Int) ≤ 12 := h12; omega
  obtain ⟨p1, p2⟩ := p3_le hl
  have e1 : nI (3 ^ l) - (1 : Int32) = nI (3 ^ l - 1) := by rw [show (1 : Int32) = nI 1 from rfl, s_sub (by omega) (by omega)]
  have ei : (nI (3 ^ l - 1)).toInt = ((3 ^ l - 1 : Nat) : Int) := nI_toInt (by omega)
  rw [e]
  refine e_codes hl (e_rng (fun z2 => ?_) (fun z2 => hX (fun ⟨l', w, hl', e', ew, hw⟩ => z2 ?_)))
  · rw [e1, ei] at z2
    obtain ⟨w, ew, _, h2⟩ := IN_ex z2 (by decide)
    exact h l w hl e ew (by omega)
  · cases nI_injS e e' (by omega) (by omega)
    rw [e1, ei, ew]
    exact IN_nI (by show (0 : Int) ≤ w; omega) (by omega) (by omega)
theorem rr_word (h1 : ∀ l w : Nat, l ≤ 12 → a2 = nI l → a3 = nI w → w < 3 ^ l → Qi 1) (h0 : ¬ WRD a2 a3 → Qi 0) : wp_X11_isWord a2 a3 Qi := by
  refine rr_in (fun z => ⟨fun q => absurd q (by decide), fun _ => ?_⟩) (fun z => ⟨fun _ => h0 (fun ⟨l, w, hl, e, _, _⟩ => z (e ▸ IN_nI (by show (0 : Int) ≤ l; omega) (by show (l : Int) ≤ 12; omega) (by omega))), fun q => absurd rfl q⟩)
  obtain ⟨l, e, _, h12⟩ := IN_ex z (by decide)
  have hl : l ≤ 12 := by have h12' : (l : Int) ≤ 12 := h12; omega
  obtain ⟨p1, p2⟩ := p3_le hl
  have e1 : nI (3 ^ l) - (1 : Int32) = nI (3 ^ l - 1) := by rw [show (1 : Int32) = nI 1 from rfl, s_sub (by omega) (by omega)]
  have ei : (nI (3 ^ l - 1)).toInt = ((3 ^ l - 1 : Nat) : Int) := nI_toInt (by omega)
  rw [e]
  refine rr_power hl (rr_in (fun z2 => ⟨fun q => absurd q (by decide), fun _ => ?_⟩) (fun z2 => ⟨fun _ => h0 (fun ⟨l', w, hl', e', ew, hw⟩ => z2 ?_), fun q => absurd rfl q⟩))
  · rw [e1, ei] at z2
    obtain ⟨w, ew, _, h2⟩ := IN_ex z2 (by decide)
    exact h1 l w hl e ew (by omega)
  · cases nI_injS e e' (by omega) (by omega)
    rw [e1, ei, ew]
    exact IN_nI (by show (0 : Int) ≤ w; omega) (by omega) (by omega)
/-- as HPP, of an answer that is yes or no -/
abbrev HPB (P : PP) : Prop := ∀ (k : Int32) (nv : Int64) (μ9 : TMem) (b : Int32) (ν9 : TMem), SIM μ9 ν9 → ν9 0 7 = k → (k = 0 → nv = if b = 0 then 0 else 1) → P k nv μ9 b ν9
theorem phb_ok {S' : Nat → AM} {a' r' k' : Int32} {μ9 ν9 : TMem} {b : Int32} (hP : HPB P) (hv : AVs S') (hc : CSt μ9 S' a' r' k') (hr : RSt ν9 S' a' r' k' 0) : P 0 (if b = 0 then 0 else 1) μ9 b ν9 := hP _ _ _ _ _ ⟨S', a', r', k', 0, hv, hc, hr⟩ hr.thn (fun _ => rfl)
theorem phb_x {S' : Nat → AM} {a' r' k' z : Int32} {μ9 ν9 : TMem} {b : Int32} {nv : Int64} (hP : HPB P) (hv : AVs S') (hc : CSt μ9 S' a' r' k') (hr : RSt ν9 S' a' r' k' z) (hz : z ≠ 0) : P z nv μ9 b ν9 := hP _ _ _ _ _ ⟨S', a', r', k', z, hv, hc, hr⟩ hr.thn (fun e => absurd e hz)
def TKv (A : AM) (l w : Nat) : Int32 := if SAf (RA9 A) l w (nn A.2.1) &&& nn A.2.2.1 = 0 then 0 else 1
theorem ee_takes (hc : CSt μ S a r k) (hv : AVs S) (hok : ∀ m l w, m < 4 → a1 = nI m → l ≤ 12 → a2 = nI l → a3 = nI w → w < 3 ^ l → Q (TKv (S m) l w) μ) (h1 : ¬ M1 a1 → X "java/lang/IndexOutOfBoundsException" μ) (h2 : M1 a1 → ¬ WRD a2 a3 → X "java/lang/IllegalArgumentException" μ) : wp_X9_takes μ a1 a2 a3 Q X := by
  refine e_mach (fun m hm em => e_word (fun l w hl el ew hw => ?_) (fun z => h2 (em ▸ M1_nI hm) z)) h1
  have hM := hc.1 m hm
  have v7 := (hv m hm).2.1
  have tm := tlm hm
  have p2 := (p3_le hl).2
  have g := hok m l w hm em hl el ew hw
  rw [el, ew]
  refine e_statesAfter hM (by omega) (by omega) (by omega) (by omega) (fun x hx => ?_)
  have e : x &&& (S m).2.2.1 = 0 ↔ SAf (RA9 (S m)) l w (nn (S m).2.1) &&& nn (S m).2.2.1 = 0 := by rw [← hx, ← nn_and, nn_eq, nn_0]
  rw [TKv] at g
  rw [hM.2.2.1, e]
  refine ⟨fun z => ⟨Or.inl rfl, ?_⟩, fun z => ⟨Or.inr rfl, ?_⟩⟩
  · rw [if_pos z] at g; exact g
  · rw [if_neg z] at g; exact g
theorem rr_takes (h : RSt ν S a r k t) (hv : AVs S) (hok : ∀ m l w, m < 4 → a1 = nI m → l ≤ 12 → a2 = nI l → a3 = nI w → w < 3 ^ l → ∀ ν9, RSt ν9 S a r k 0 → Q (TKv (S m) l w) ν9) (h1 : ¬ M1 a1 → ∀ b ν9, RSt ν9 S a r k 1 → Q b ν9) (h2 : M1 a1 → ¬ WRD a2 a3 → ∀ b ν9, RSt ν9 S a r k 2 → Q b ν9) : wp_X11_takes ν a1 a2 a3 Q := by
  refine rr_one (fun m hm em => rr_word (fun l w hl el ew hw => th_ok ⟨fun q => absurd rfl q, fun _ => ?_⟩) (fun z => th_2 ⟨fun _ => h2 (em ▸ M1_nI hm) z _ _ (h.thr 2), fun q => absurd q (by decide)⟩)) (fun z => rr_word (fun _ _ _ _ _ _ => th_1 ⟨fun _ => h1 z _ _ (h.thr 1), fun q => absurd q (by decide)⟩) (fun _ => th_1 ⟨fun _ => h1 z _ _ (h.thr 1), fun q => absurd q (by decide)⟩))
  have h0 := h.thr 0
  have hR := h0.1 m hm
  have g := hok m l w hm em hl el ew hw _ h0
  have im : (nI m).toNatClampNeg = m := nI_clamp (by omega)
  have p2 := (p3_le hl).2
  rw [em, el, ew]
  generalize hN : tms ν 0 7 0 = N at *
  refine rr_setAfter hm hR (hv m hm) (by omega) (by omega) (fun x hx => ⟨s_in hm (by omega), ?_⟩)
  have e : x &&& (S m).2.2.1 = 0 ↔ SAf (RA9 (S m)) l w (nn (S m).2.1) &&& nn (S m).2.2.1 = 0 := by rw [← hx, ← nn_and, nn_eq, nn_0]
  rw [TKv] at g
  rw [im, hR.2.2.1, e]
  refine ⟨fun z => ?_, fun z => ?_⟩
  · rw [if_pos z] at g; exact g
  · rw [if_neg z] at g; exact g
theorem gs_takes (hP : HPB P) (h : SIM μ ν) (nv : Int64) : wp_X9_takes μ a1 a2 a3 (fun r μ9 => wp_X11_takes ν a1 a2 a3 (fun b ν9 => P 0 (if r = 0 then 0 else 1) μ9 b ν9)) (fun E μ9 => (E = IOBn ∧ wp_X11_takes ν a1 a2 a3 (fun b ν9 => P 1 nv μ9 b ν9)) ∨ (E = IAEn ∧ wp_X11_takes ν a1 a2 a3 (fun b ν9 => P 2 nv μ9 b ν9))) := by
  obtain ⟨S, a, r, k, t, hv, hc, hr⟩ := h
  refine ee_takes hc hv (fun m l w hm e hl el ew hw => ?_) (fun z => Or.inl ⟨rfl, ?_⟩) (fun w z => Or.inr ⟨rfl, ?_⟩)
  · refine rr_takes hr hv (fun m' l' w' hm' e' hl' el' ew' hw' ν9 r9 => ?_) (fun z => absurd (e ▸ M1_nI hm) z) (fun _ z => absurd ⟨l, w, hl, el, ew, hw⟩ z)
    have p2 := (p3_le hl).2
    have p2' := (p3_le hl').2
    cases nI_injS e e' (by omega) (by omega)
    cases nI_injS el el' (by omega) (by omega)
    cases nI_injS ew ew' (by omega) (by omega)
    exact phb_ok hP hv hc r9
  · exact rr_takes hr hv (fun m' l' w' hm' e' hl' el' ew' hw' ν9 r9 => absurd (e' ▸ M1_nI hm') z) (fun _ b ν9 r9 => phb_x hP hv hc r9 (by decide)) (fun w => absurd w z)
  · exact rr_takes hr hv (fun m' l' w' hm' e' hl' el' ew' hw' ν9 r9 => absurd ⟨l', w', hl', el', ew', hw'⟩ z) (fun w' => absurd w w') (fun _ _ b ν9 r9 => phb_x hP hv hc r9 (by decide))
theorem SIM0 : SIM MU0 NU0 := by
  refine ⟨fun _ => (1, 1, 0, fun _ => 0), 0, 0, 0, 0, fun m hm => ⟨show (1 : Nat) ≤ 1 by decide, show (1 : Nat) ≤ 7 by decide, show nn 1 < 2 ^ 1 by decide, show nn 0 < 2 ^ 1 by decide, fun j _ => show nn 0 < 2 ^ 1 by decide, fun j _ => rfl⟩, ⟨fun m hm => ?_, rfl, rfl, rfl, GB0⟩, ⟨fun m hm => ?_, rfl, rfl, rfl, rfl⟩⟩
  · rcases (show m = 0 ∨ m = 1 ∨ m = 2 ∨ m = 3 by omega) with rfl | rfl | rfl | rfl <;> exact ⟨rfl, rfl, rfl, fun j _ => rfl⟩
  · rcases (show m = 0 ∨ m = 1 ∨ m = 2 ∨ m = 3 by omega) with rfl | rfl | rfl | rfl <;> exact ⟨by decide, by decide, rfl, fun j _ => rfl⟩
end SIMT
end
