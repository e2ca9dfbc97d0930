/-! part 9sam.ref8 -/
section
section SRM
variable {ν : TMem} {S : Nat → AM} {a r k t : Int32} {a1 a2 a3 a4 : Int32} {Q : Int32 → TMem → Prop} {Qi : Int32 → Prop} {Qo : Option AI → Prop} {m m' : Nat} {A B : AM} {D D1 D2 : DF} {na1 na2 : Nat} {fa1 fa2 : Nat → Int32} {n : Nat}
theorem EI.nd {lim : Nat} {f : Nat → Nat → Nat} {u : Nat → Bool} {R : Option (List Nat × List Nat)} : ∀ (z : Nat) {L T : List Nat}, 3 * lim + 1 - T.length = z → EI lim f u R L T → L.Nodup → ∀ L' T', R = some (L', T') → L'.Nodup := by
  intro z
  induction z with
  | zero =>
    intro L T hk h
    have := h.fuel
    omega
  | succ z ih =>
    intro L T hk h hn L' T' hR
    by_cases hd : 3 * L.length ≤ T.length ∨ u (L.getD (L.length - 1) 0) = true
    · have := h.done hd
      rw [hR] at this
      cases this
      exact hn
    · by_cases hm : nxt f L T ∈ L
      · exact ih (by rw [List.length_append]; simp; omega) (h.old hd hm) hn L' T' hR
      · by_cases hl : lim ≤ L.length
        · have := h.full hd hm hl
          rw [hR] at this
          cases this
        · exact ih (by rw [List.length_append]; simp; omega) (h.new hd hm hl) (nodup_app hn hm) L' T' hR
theorem nodup_idx {L : List Nat} (h : L.Nodup) {i : Nat} (hi : i < L.length) : L.idxOf (L.getD i 0) = i := by
  refine idx_of hi rfl (fun j hj => ?_)
  have hp := List.pairwise_iff_getElem.mp h j i (by omega) hi hj
  rw [List.getD_eq_getElem?_getD, List.getD_eq_getElem?_getD, List.getElem?_eq_getElem (by omega), List.getElem?_eq_getElem hi]
  exact hp
theorem EX_idx {lim x0 : Nat} {f : Nat → Nat → Nat} {u : Nat → Bool} {L T : List Nat} (hl : 1 ≤ lim) (h : EX lim f u x0 = some (L, T)) : ∀ p, p < T.length → T.getD p 0 = L.idxOf (f (L.getD (p / 3) 0) (p % 3)) := fun p hp => by
  have e := EX.inv hl h
  have nd := EI.nd _ rfl (EI.start x0 hl) (by simp) L T h
  obtain ⟨e1, e2⟩ := e.1.2.2 p hp
  rw [← e2, nodup_idx nd e1]
theorem first_ne {L : List Nat} {x j : Nat} (h : j < L.idxOf x) : L.getD j 0 ≠ x := by
  intro e
  by_cases hm : x ∈ L
  · have h2 := idx_lt hm
    -- the first place of x up to j
    have key : ∀ n, (∀ i, i < n → L.getD i 0 ≠ x) ∨ ∃ i, i < n ∧ L.getD i 0 = x ∧ ∀ i', i' < i → L.getD i' 0 ≠ x := by
      intro n
      induction n with
      | zero => exact Or.inl (fun i hi => absurd hi (Nat.not_lt_zero _))
      | succ n ih =>
        rcases ih with h3 | ⟨i, h3, h4, h5⟩
        · by_cases e2 : L.getD n 0 = x
          · exact Or.inr ⟨n, by omega, e2, h3⟩
          · refine Or.inl (fun i hi => ?_)
            by_cases e3 : i = n
            · rw [e3]; exact e2
            · exact h3 i (by omega)
        · exact Or.inr ⟨i, by omega, h4, h5⟩
    rcases key (j + 1) with h3 | ⟨i, h3, h4, h5⟩
    · exact h3 j (by omega) e
    · have := idx_of (L := L) (by omega) h4 h5
      omega
  · have h2 : L.idxOf x = L.length := List.idxOf_eq_length hm
    exact hm (e ▸ getD_mem (by omega))
theorem upd_self {f : Nat → Int32} {c : Nat} {x : Int32} (h : f c = x) : upd f c x = f := by
  funext j
  by_cases e : j = c
  · rw [e, upd_at, h]
  · rw [upd_ne e]
theorem upd_upd {f : Nat → Int32} {c : Nat} {x y : Int32} : upd (upd f c x) c y = upd f c y := by
  funext j
  by_cases e : j = c
  · rw [e, upd_at, upd_at]
  · rw [upd_ne e, upd_ne e, upd_ne e]
theorem opW_i {w : Nat} {x y : Bool} {J : Int32 → Prop} (hw : w ≤ 3) (h : J (bi (opW w x y))) : ((¬ nI w = (0 : Int32) → ((¬ nI w = (1 : Int32) → ((¬ nI w = (2 : Int32) → ((¬ bi x = bi y → (J (1 : Int32))) ∧ (bi x = bi y → (J (0 : Int32))))) ∧ (nI w = (2 : Int32) → (J (if (bi x - bi y) < (0 : Int32) then (0 : Int32) else (bi x - bi y)))))) ∧ (nI w = (1 : Int32) → (J (bi x * bi y))))) ∧ (nI w = (0 : Int32) → (J (if bi x < bi y then bi y else bi x)))) := by
  have w0 : nI w = (0 : Int32) ↔ w = 0 := by rw [← nI_0]; exact nI_eq (by omega) (by omega)
  have w1 : nI w = (1 : Int32) ↔ w = 1 := nI_eq (b := 1) (by omega) (by omega)
  have w2 : nI w = (2 : Int32) ↔ w = 2 := nI_eq (b := 2) (by omega) (by omega)
  rw [w0, w1, w2]
  refine ⟨fun q => ⟨fun q1 => ⟨fun q2 => ?_, fun q2 => ?_⟩, fun q1 => ?_⟩, fun q => ?_⟩
  · have e : opW w x y = (x != y) := by rw [opW, if_neg q, if_neg q1, if_neg q2]
    rw [e] at h
    cases x <;> cases y <;> exact ⟨fun z => by first | exact h | exact absurd rfl z, fun z => by first | exact h | exact absurd z (by decide)⟩
  · subst q2
    cases x <;> cases y <;> exact h
  · subst q1
    cases x <;> cases y <;> exact h
  · subst q
    cases x <;> cases y <;> exact h
/-- where the reference's putting together stands -/
def RB (D1 D2 : DF) (w : Nat) (L T : List Nat) (p a' : Nat) (fm : Nat → Int32) : Prop := (∀ j, j < 3 * L.length → fm (4 * (j / 3) + j % 3) = if j < p then nI (T.getD j 0) else 0) ∧ ∀ i, i < a' → fm (4 * i + 3) = bi (opW w (D1.2.2 (L.getD i 0 / 32)) (D2.2.2 (L.getD i 0 % 32)))
theorem rr_bt221 {L : List Nat} {f19 fm : Nat → Int32} {x b n18 n15 n4 : Nat} {f16 f5 : Nat → Int32} {v52 v53 v55 : Int32} {K : (Nat → Int32) → Prop} (hL : L.length ≤ 32) (hx : x < L.length) (hb : b < 3) (hf : ∀ i, i < L.length → f19 (3 * i + 1) = nI (L.getD i 0)) (hbd : ∀ y ∈ L, y < 1024) (hn : 3 * L.length ≤ n18) {i9 : Nat} (hi9 : i9 < L.length) (hid : L.idxOf (L.getD i9 0) = i9) (h0 : fm (4 * x + b) = 0) (h : K (upd fm (4 * x + b) (nI i9))) : ∃ z, wpl_X11_both_221 ν f16 n15 f19 n18 (4 * L.length) f5 n4 (nI (L.getD i9 0)) (nI b) v52 v53 (nI x) v55 K z fm := by
  have p4 : (4 : Int32) * nI x + nI b = nI (4 * x + b) := by rw [show (4 : Int32) = nI 4 from rfl, s_mul, nI_add]
  have pin : vp_in (nI (4 * x + b)) (4 * L.length) := s_in (by omega) (by omega)
  have go : ∀ (z i : Nat), i9 - i < z → i ≤ i9 → wpl_X11_both_221 ν f16 n15 f19 n18 (4 * L.length) f5 n4 (nI (L.getD i9 0)) (nI b) v52 v53 (nI x) v55 K z (upd fm (4 * x + b) (nI i)) := by
    intro z
    induction z with
    | zero => intro i hk; exact absurd hk (Nat.not_lt_zero _)
    | succ z ih =>
      intro i hk hi
      show vp_in _ _ ∧ _
      rw [p4]
      refine ⟨pin, ?_⟩
      have b1 := hbd _ (getD_mem (L := L) (i := i) (by omega))
      have b2 := hbd _ (getD_mem (L := L) (i := i9) hi9)
      rw [nI_clamp (by omega), upd_at, s_t1, nI_clamp (by omega), hf i (by omega), nI_eq (by omega) (by omega)]
      refine ⟨s_in (by omega) (by omega), fun e => ?_, fun e => ⟨pin, pin, ?_⟩⟩
      · by_cases q : i = i9
        · rw [q]; exact h
        · exact absurd e (first_ne (by rw [hid]; omega))
      · rw [upd_upd, nI_1]
        have q : i ≠ i9 := fun q => e (by rw [q])
        exact ih (i + 1) (by omega) (by omega)
  have g := go (i9 + 1) 0 (by omega) (by omega)
  rw [nI_0, upd_self h0] at g
  exact ⟨_, g⟩
end SRM
end
/-! part 9san.ref9 -/
section
section SRN
variable {ν : TMem} {S : Nat → AM} {a r k t : Int32} {a1 a2 a3 a4 : Int32} {Q : Int32 → TMem → Prop} {Qi : Int32 → Prop} {Qo : Option AI → Prop} {m m' : Nat} {A B : AM} {D D1 D2 : DF} {n4 n15 : Nat} {f5 f16 : Nat → Int32}
theorem rr_both62 {w : Nat} {L T : List Nat} {f19 : Nat → Int32} (hw : w ≤ 3) (h1 : HF n4 f5 D1) (h2 : HF n15 f16 D2) (hR : MR9 D1 D2 32 1 = some (L, T)) (hM : MF9 D1 D2 32 L f19) (h : ∀ g : Nat → Int32, HF (4 * L.length) g (DJ D1 D2 w L T) → Qo (some (4 * L.length, g))) : ∃ z, wpl_X11_both_62 ν f16 n15 f19 100 (4 * L.length) f5 n4 (nI w) Qo z 0 (fun _ => 0) := by
  obtain ⟨c1, c32, cT, cn, cf, cg⟩ := h1
  obtain ⟨d1, d32, dT, dn, df, dg⟩ := h2
  obtain ⟨m0, mL, mL1, mr, mf⟩ := hM
  have hT := MR9_len (by omega) hR
  have hI := EX_idx (by omega) hR
  have hE := (EX.inv (by omega) hR).1
  have hl : ∀ y ∈ L, y < 1024 := fun y hy => by have := mr y hy; omega
  have q4 : ∀ z s : Nat, (4 : Int32) * nI z + nI s = nI (4 * z + s) := fun z s => by rw [show (4 : Int32) = nI 4 from rfl, s_mul, nI_add]
  have L2 : ∀ (x : Nat) (K : (Nat → Int32) → Prop), x < L.length → (∀ fm, RB D1 D2 w L T (3 * x + 3) (x + 1) fm → K fm) → ∀ (z b : Nat) (fm : Nat → Int32), 3 - b < z → b ≤ 3 → RB D1 D2 w L T (3 * x + b) (x + 1) fm → wpl_X11_both_189 ν f16 n15 f19 100 (4 * L.length) f5 n4 (nI (L.getD x 0 % 32)) (nI (L.getD x 0 / 32)) (nI x) (nI w) K z (nI b) fm := by
    intro x K hx hK z
    induction z with
    | zero => intro b fm hk; exact absurd hk (Nat.not_lt_zero _)
    | succ z ih =>
      intro b fm hk hb hB
      refine ⟨fun q => ?_, fun q => ?_⟩
      · rw [show (3 : Int32) = nI 3 from rfl, nI_leI (by omega) (by omega)] at q
        rw [show 3 * x + b = 3 * x + 3 by omega] at hB
        exact hK fm hB
      rw [show (3 : Int32) = nI 3 from rfl, nI_leI (by omega) (by omega)] at q
      have am := mr _ (getD_mem (L := L) hx)
      have lt1 := cT (3 * (L.getD x 0 / 32) + b) (by omega)
      have lt2 := dT (3 * (L.getD x 0 % 32) + b) (by omega)
      obtain ⟨ti, tx⟩ := hE.2.2 (3 * x + b) (by omega)
      have te := hI (3 * x + b) (by omega)
      rw [show (3 * x + b) / 3 = x by omega, show (3 * x + b) % 3 = b by omega] at tx te
      rw [q4, q4, nI_clamp (by omega), nI_clamp (by omega), cf _ b am.1 (by omega), df _ b am.2 (by omega), show (32 : Int32) = nI 32 from rfl, s_mul, nI_add]
      have ev : D1.2.1 (3 * (L.getD x 0 / 32) + b) * 32 + D2.2.1 (3 * (L.getD x 0 % 32) + b) = L.getD (T.getD (3 * x + b) 0) 0 := by rw [tx]; rfl
      rw [ev]
      have z0 : fm (4 * x + b) = 0 := by
        have := hB.1 (3 * x + b) (by omega)
        rw [show (3 * x + b) / 3 = x by omega, show (3 * x + b) % 3 = b by omega, if_neg (by omega)] at this
        exact this
      refine ⟨s_in (by omega) (by omega), s_in (by omega) (by omega), rr_bt221 mL hx (by omega) mf hl (by omega) ti (by rw [tx, ← te]) z0 ?_⟩
      rw [nI_1]
      refine ih (b + 1) _ (by omega) (by omega) ⟨fun j hj => ?_, fun i hi => by rw [upd_ne (by omega)]; exact hB.2 i hi⟩
      by_cases e : j = 3 * x + b
      · rw [e, show (3 * x + b) / 3 = x by omega, show (3 * x + b) % 3 = b by omega, upd_at, if_pos (by omega)]
      · rw [upd_ne (by omega), hB.1 j hj]
        by_cases e2 : j < 3 * x + b
        · rw [if_pos e2, if_pos (by omega)]
        · rw [if_neg e2, if_neg (by omega)]
  have L1 : ∀ (z x : Nat) (fm : Nat → Int32), L.length - x < z → x ≤ L.length → RB D1 D2 w L T (3 * x) x fm → wpl_X11_both_62 ν f16 n15 f19 100 (4 * L.length) f5 n4 (nI w) Qo z (nI x) fm := by
    intro z
    induction z with
    | zero => intro x fm hk; exact absurd hk (Nat.not_lt_zero _)
    | succ z ih =>
      intro x fm hk hx hB
      have z0 : (0 : Int32).toNatClampNeg = 0 := rfl
      refine ⟨s_in (a := 0) (by omega) (by omega), ?_⟩
      rw [z0, m0]
      refine ⟨fun q => ?_, fun q => ?_⟩
      · rw [nI_leI (by omega) (by omega)] at q
        have e : x = L.length := by omega
        subst e
        refine h fm ⟨mL1, mL, fun j hj => ?_, rfl, fun i s hi hs => ?_, fun i hi => hB.2 i hi⟩
        · have hj' : j < 3 * L.length := hj
          exact (hE.2.2 j (by omega)).1
        · have hi' : i < L.length := hi
          have := hB.1 (3 * i + s) (by omega)
          rw [show (3 * i + s) / 3 = i by omega, show (3 * i + s) % 3 = s by omega, if_pos (by omega)] at this
          exact this
      rw [nI_leI (by omega) (by omega)] at q
      have am := mr _ (getD_mem (L := L) (i := x) (by omega))
      have hlx := hl _ (getD_mem (L := L) (i := x) (by omega))
      have q3 : ∀ z : Nat, (4 : Int32) * nI z + (3 : Int32) = nI (4 * z + 3) := fun z => q4 z 3
      rw [s_t1, nI_clamp (by omega), mf x (by omega)]
      have es : nI (L.getD x 0) / (32 : Int32) = nI (L.getD x 0 / 32) := by rw [show (32 : Int32) = nI 32 from rfl, s_div (by omega) (by omega) (by omega)]
      have er : nI (L.getD x 0) - nI (L.getD x 0) / (32 : Int32) * (32 : Int32) = nI (L.getD x 0 % 32) := by rw [show (32 : Int32) = nI 32 from rfl, s_mod (by omega) (by omega) (by omega)]
      rw [er, es, q3, q3, q3, nI_clamp (by omega), nI_clamp (by omega), nI_clamp (by omega), cg _ am.1, dg _ am.2]
      refine ⟨s_in (by omega) (by omega), s_in (by omega) (by omega), s_in (by omega) (by omega), s_in (by omega) (by omega), fun J hJ => opW_i hw (hJ _ ⟨s_in (by omega) (by omega), ?_⟩)⟩
      have g := L2 x (fun (f65 : Nat → Int32) => wpl_X11_both_62 ν f16 n15 f19 100 (4 * L.length) f5 n4 (nI w) Qo z (nI x + (1 : Int32)) f65) (by omega) (fun fm9 h9 => by rw [nI_1]; exact ih (x + 1) fm9 (by omega) (by omega) h9) 4 0 (upd fm (4 * x + 3) (bi (opW w (D1.2.2 (L.getD x 0 / 32)) (D2.2.2 (L.getD x 0 % 32))))) (by omega) (by omega) ⟨fun j hj => by rw [upd_ne (by omega)]; exact hB.1 j hj, fun i hi => by
        by_cases e : i = x
        · rw [e, upd_at]
        · rw [upd_ne (by omega)]; exact hB.2 i (by omega)⟩
      rw [nI_0] at g
      exact ⟨_, g⟩
  have g := L1 (L.length + 1) 0 (fun _ => 0) (by omega) (Nat.zero_le _) ⟨fun j hj => by rw [if_neg (by omega)], fun i hi => absurd hi (Nat.not_lt_zero _)⟩
  rw [nI_0] at g
  exact ⟨_, g⟩
theorem rr_both {w : Nat} (hw : w ≤ 3) (hm : m < 4) (hm' : m' < 4) (hA : HR ν m A) (hB : HR ν m' B) (vA : AV A) (vB : AV B) (h1 : ∀ (D : DF) (nf : Nat) (g : Nat → Int32), BTH A B w = some D → HF nf g D → Qo (some (nf, g))) (h0 : BTH A B w = none → Qo none) : wp_X11_both ν (nI m) (nI m') (nI w) Qo := by
  refine rr_oneWayA hm hA vA (fun D1 n4 f5 e1 F1 => ⟨(fun z => nomatch z), fun n4' f5' z => ?_⟩) (fun e1 => ⟨fun _ => rr_oneWayA hm' hB vB (fun D2 n15 f16 e2 F2 => ⟨(fun z => nomatch z), fun _ _ _ => h0 (by rw [BTH, PRS, e1]; rfl)⟩) (fun e2 => ⟨fun _ => h0 (by rw [BTH, PRS, e1]; rfl), (fun _ _ z => nomatch z)⟩), (fun _ _ z => nomatch z)⟩)
  cases z
  refine rr_oneWayA hm' hB vB (fun D2 n15 f16 e2 F2 => ⟨(fun z => nomatch z), fun n15' f16' z => ?_⟩) (fun e2 => ⟨fun _ => h0 (by rw [BTH, PRS, e1, e2]; rfl), (fun _ _ z => nomatch z)⟩)
  cases z
  have z0 : (0 : Int32).toNatClampNeg = 0 := rfl
  refine rr_met (lim := 32) (w := 1) (v16 := 0) F1 F2 (by omega) (by omega) ⟨fun _ => by decide, fun _ => rfl⟩ (fun L T f19 hR hM => ?_) (fun hR f19 hf => ?_)
  · have m0 := hM.1
    have mL := hM.2.1
    have mL1 := hM.2.2.1
    refine ⟨s_in (a := 0) (by omega) (by omega), ?_⟩
    rw [z0, m0, show (4 : Int32) = nI 4 from rfl, s_mul, nI_clamp (by omega)]
    refine ⟨fun _ => ⟨s_in (a := 0) (by omega) (by omega), ⟨nI_pos (by omega), by omega⟩, rr_both62 hw F1 F2 hR hM (fun g hg => h1 _ _ g ?_ hg)⟩, fun q => absurd (by rw [show (32 : Int32) = nI 32 from rfl, nI_leI (by omega) (by omega)]; omega) q⟩
    rw [BTH, PRS, e1, e2]
    show Option.map _ ((MR9 D1 D2 32 1).map _) = _
    rw [hR]
    rfl
  · refine ⟨s_in (a := 0) (by omega) (by omega), ?_⟩
    rw [z0, hf]
    refine ⟨fun q => absurd q (by decide), fun _ => h0 ?_⟩
    rw [BTH, PRS, e1, e2]
    show Option.map _ ((MR9 D1 D2 32 1).map _) = _
    rw [hR]
    rfl
theorem rr_combine (h : RSt ν S a r k t) (hv : AVs S) (hok : ∀ m m' mi w D, m < 4 → m' < 4 → mi < 4 → a1 = nI m → a2 = nI m' → a4 = nI mi → a3 = nI w → w ≤ 3 → SM7 (BLS (S m) (S m') w) D → ∀ ν9, RSt ν9 (sUp S mi (aP D)) (a + 1) r k 0 → Q (nI D.1) ν9) (hre : ∀ m m' mi w, m < 4 → m' < 4 → mi < 4 → a1 = nI m → a2 = nI m' → a4 = nI mi → a3 = nI w → w ≤ 3 → NO7 (BLS (S m) (S m') w) → ∀ ν9, RSt ν9 S a (r + 1) k 0 → Q (-9) ν9) (h1 : ¬ (ONE2 a1 a2 ∧ M1 a4) → ∀ b ν9, RSt ν9 S a r k 1 → Q b ν9) (h2 : ONE2 a1 a2 ∧ M1 a4 → ¬ IN a3 0 3 → ∀ b ν9, RSt ν9 S a r k 2 → Q b ν9) : wp_X11_combine ν a1 a2 a3 a4 Q := by
  have bad : ¬ (ONE2 a1 a2 ∧ M1 a4) → ∀ (B : TMem → Prop), wp_X11_isIn a3 (0 : Int32) (3 : Int32) (fun (r4 : Int32) => wp_X11_isThrown ν 0 r4 (fun (r6 : Int32) (μ5 : TMem) => (r6 = 0 → B μ5) ∧ (¬ r6 = 0 → (Q (0 : Int32) μ5)))) := fun z B => rr_in (fun _ => th_1 ⟨fun q => absurd q (by decide), fun _ => h1 z _ _ (h.thr 1)⟩) (fun _ => th_1 ⟨fun q => absurd q (by decide), fun _ => h1 z _ _ (h.thr 1)⟩)
  refine rr_one (fun m hm em J hJ => ⟨fun z => absurd z (by decide), fun _ => ?_⟩) (fun z J hJ => ⟨fun _ => hJ 0 (bad (fun q => z q.1.1) _), fun q => absurd rfl q⟩)
  refine rr_one (fun m' hm' em' => ⟨fun z => absurd z (by decide), fun _ => ?_⟩) (fun z => ⟨fun _ => hJ 0 (bad (fun q => z q.1.2) _), fun q => absurd rfl q⟩)
  refine rr_one (fun mi hmi emi => ⟨fun z => absurd z (by decide), fun _ => hJ 1 ?_⟩) (fun z => ⟨fun _ => hJ 0 (bad (fun q => z q.2) _), fun q => absurd rfl q⟩)
  refine rr_in (fun z => th_ok ⟨fun _ => ?_, fun q => absurd rfl q⟩) (fun z => th_2 ⟨fun q => absurd q (by decide), fun _ => h2 ⟨⟨em ▸ M1_nI hm, em' ▸ M1_nI hm'⟩, emi ▸ M1_nI hmi⟩ z _ _ (h.thr 2)⟩)
  obtain ⟨w, ew, w0, w3⟩ := IN_ex z (by decide)
  have w3' : (w : Int) ≤ 3 := w3
  have h0 := h.thr 0
  have hok' := fun D => hok m m' mi w D hm hm' hmi em em' emi ew (by omega)
  have hre' := hre m m' mi w hm hm' hmi em em' emi ew (by omega)
  rw [em, em', emi, ew]
  refine rr_both (by omega) hm hm' (h0.1 m hm) (h0.1 m' hm') (hv m hm) (hv m' hm') (fun D nf g e F => ⟨(fun z => nomatch z), fun n11 f12 z => ?_⟩) (fun e => ⟨fun _ => ⟨fun _ => hre' (fun D' e' => by rw [BLS, e] at e'; cases e') _ h0.ref, (fun _ _ z => nomatch z)⟩, (fun _ _ z => nomatch z)⟩)
  cases z
  refine rr_least F (fun D' nf' g' e' F' => ⟨(fun z => nomatch z), fun n22 f23 z => ?_⟩)
  cases z
  have eb : BLS (S m) (S m') w = some D' := by rw [BLS, e]; exact e'
  exact rr_become h0 F' hmi (fun q => hok' D' ⟨eb, q, F'.1, F'.2.2.1⟩) (fun q => hre' (fun D9 e9 => by rw [eb] at e9; cases e9; exact q))
end SRN
end
/-! part 9sao.sow2 -/
section
section SRO
variable {ν : TMem} {S : Nat → AM} {a r k t : Int32} {a1 a2 a3 a4 : Int32} {Q : Int32 → TMem → Prop} {m N : Nat} {ch seed : Int32}
theorem RSt.ri (h : RSt ν S a r k t) (hv : AVs S) : RI ν := fun i hi => by
  have e := (h.1 i hi).1
  have v := hv i hi
  have v1 := v.1
  have v7 := v.2.1
  rw [e, nI_toInt (by omega)]
  omega
theorem LK_nI {j : Nat} (hm : m < 4) : LK (nI m) j = 21 * m + j := by
  rw [LK, nI_toInt (by omega)]
  rfl
def SR8 (N m : Nat) (ch seed : Int32) (ν ν9 : TMem) (i : Nat) : Prop := RI ν9 ∧ (∀ k, k ≠ 4 → ν9 k = ν k) ∧ (∀ p, (p < 21 * m ∨ 21 * m + 21 ≤ p) → ν9 4 p = ν 4 p) ∧ (∀ j, j < i → ν9 4 (21 * m + j) = CE (nI N) ch seed j) ∧ ∀ j, i ≤ j → j < 21 → ν9 4 (21 * m + j) = 0
theorem rr_61 {K : Int32 → TMem → Prop} (hm : m < 4) (hN1 : 1 ≤ N) (hN7 : N ≤ 7) (hc : 0 ≤ ch.toInt ∧ ch.toInt ≤ 6) (h0 : SR8 N m ch seed ν ν 0) (hK : ∀ ν9 : TMem, SR8 N m ch seed ν ν9 (3 * N) → K (XS (nI N) ch seed (3 * N)) ν9) : ∃ nf, wpl_X11_sow_61 (nI m) (nI N) ch K nf 0 seed ν := by
  have en := nI_toInt (n := N) (by omega)
  have L70 : ∀ (x : Nat) (K2 : Int32 → TMem → Prop), x < N → (∀ ν9 : TMem, SR8 N m ch seed ν ν9 (3 * x + 3) → K2 (XS (nI N) ch seed (3 * x + 3)) ν9) → ∀ (nf b : Nat) (ν1 : TMem), 3 - b < nf → b ≤ 3 → SR8 N m ch seed ν ν1 (3 * x + b) → wpl_X11_sow_70 (nI x) (nI m) (nI N) ch K2 nf (nI b) (XS (nI N) ch seed (3 * x + b)) ν1 := by
    intro x K2 hx hK2 nf
    induction nf with
    | zero => intro b ν1 hk; exact absurd hk (Nat.not_lt_zero _)
    | succ nf ih =>
      intro b ν1 hk hb hS
      refine ⟨fun q => ?_, fun q => ?_⟩
      · rw [show (3 : Int32) = nI 3 from rfl, nI_leI (by omega) (by omega)] at q
        rw [show 3 * x + b = 3 * x + 3 by omega] at hS ⊢
        exact hK2 ν1 hS
      rw [show (3 : Int32) = nI 3 from rfl, nI_leI (by omega) (by omega)] at q
      obtain ⟨s1, s2, s3, s4, s5⟩ := hS
      have lk := LK_nI (j := 3 * x + b) hm
      refine r_79 (a := x) (b := b) (nI_toInt (by omega)) (nI_toInt (by omega)) (by omega) (by omega) (M1_nI hm) (by omega) (by omega) hc s1 (by rw [lk]; exact s5 _ (Nat.le_refl _) (by omega)) (fun ν9 f9 m9 k9 x9 => ?_)
      rw [lk] at m9 x9
      rw [nI_1]
      refine ih (b + 1) ν9 (by omega) (by omega) ⟨f9.1, fun k hk => (k9 k hk).trans (s2 k hk), fun p hp => by rw [m9 p (by omega)]; exact s3 p hp, fun j hj => ?_, fun j j1 j2 => by rw [m9 _ (by omega)]; exact s5 j (by omega) j2⟩
      by_cases e : j = 3 * x + b
      · rw [e, x9]
        rfl
      · rw [m9 _ (by omega)]
        exact s4 j (by omega)
  have L61 : ∀ (nf x : Nat) (ν1 : TMem), N - x < nf → x ≤ N → SR8 N m ch seed ν ν1 (3 * x) → wpl_X11_sow_61 (nI m) (nI N) ch K nf (nI x) (XS (nI N) ch seed (3 * x)) ν1 := by
    intro nf
    induction nf with
    | zero => intro x ν1 hk; exact absurd hk (Nat.not_lt_zero _)
    | succ nf ih =>
      intro x ν1 hk hx hS
      refine ⟨fun q => ?_, fun q => ?_⟩
      · rw [nI_leI (by omega) (by omega)] at q
        rw [show x = N by omega] at hS ⊢
        exact hK ν1 hS
      rw [nI_leI (by omega) (by omega)] at q
      have g := L70 x (fun (u52 : Int32) (μ53 : TMem) => wpl_X11_sow_61 (nI m) (nI N) ch K nf (nI x + (1 : Int32)) u52 μ53) (by omega) (fun ν9 h9 => by rw [nI_1]; exact ih (x + 1) ν9 (by omega) (by omega) h9) 4 0 ν1 (by omega) (by omega) hS
      rw [nI_0] at g
      exact ⟨_, g⟩
  have g := L61 (N + 1) 0 ν (by omega) (by omega) h0
  rw [nI_0] at g
  exact ⟨_, g⟩
theorem rr_193 {x : Int32} {K : TMem → Prop} (hm : m < 4) (hN7 : N ≤ 7) (hg : ν 3 m = 0) (hK : ∀ ν9 : TMem, ν9 3 m = (GSg x N).1 → (∀ i, i ≠ m → ν9 3 i = ν 3 i) → (∀ k, k ≠ 3 → ν9 k = ν k) → K ν9) : ∃ nf, wpl_X11_sow_193 (nI m) (nI N) K nf 0 x ν := by
  have im : (nI m).toNatClampNeg = m := nI_clamp (by omega)
  have L : ∀ (nf i : Nat) (ν1 : TMem), N - i < nf → i ≤ N → ν1 3 m = (GSg x i).1 → (∀ j, j ≠ m → ν1 3 j = ν 3 j) → (∀ k, k ≠ 3 → ν1 k = ν k) → wpl_X11_sow_193 (nI m) (nI N) K nf (nI i) (GSg x i).2 ν1 := by
    intro nf
    induction nf with
    | zero => intro i ν1 hk; exact absurd hk (Nat.not_lt_zero _)
    | succ nf ih =>
      intro i ν1 hk hi w1 w2 w3
      refine ⟨fun q => ?_, fun q => ⟨fun z => ?_, fun z => ⟨s_in hm (by omega), s_in hm (by omega), ?_⟩⟩⟩
      · rw [nI_leI (by omega) (by omega)] at q
        rw [show i = N by omega] at w1
        exact hK ν1 w1 w2 w3
      · rw [nI_leI (by omega) (by omega)] at q
        have z' : ¬ md (dr (GSg x i).2 / (64 : Int32)) (2 : Int32) = 0 := z
        rw [nI_1]
        exact ih (i + 1) ν1 (by omega) (by omega) (by rw [w1, GSg, if_neg z']) w2 w3
      · rw [nI_leI (by omega) (by omega)] at q
        have z' : md (dr (GSg x i).2 / (64 : Int32)) (2 : Int32) = 0 := z
        rw [nI_1, im, w1]
        exact ih (i + 1) _ (by omega) (by omega) (by rw [tms_eq, upd_at, GSg, if_pos z']) (fun j hj => by rw [tms_eq, upd_ne hj]; exact w2 j hj) (fun k hk => by rw [tms_ne hk]; exact w3 k hk)
  have g := L (N + 1) 0 ν (by omega) (by omega) hg (fun _ _ => rfl) (fun _ _ => rfl)
  rw [nI_0] at g
  exact ⟨_, g⟩
/-- numbers drawn stay below 65536 -/
def DRW (x : Int32) : Prop := ∃ X : Nat, X < 65536 ∧ x = nI X
theorem dr_ok {x : Int32} (h : DRW x) : ∃ Y : Nat, Y < 65536 ∧ dr x = nI Y ∧ dr x / (64 : Int32) = nI (Y / 64) := by
  obtain ⟨X, hX, rfl⟩ := h
  have e : dr (nI X) = nI ((X * 25173 + 13849) % 65536) := by
    rw [dr, show (25173 : Int32) = nI 25173 from rfl, show (13849 : Int32) = nI 13849 from rfl, show (65536 : Int32) = nI 65536 from rfl, s_mul, nI_add, s_mod (by omega) (by omega) (by omega)]
  refine ⟨(X * 25173 + 13849) % 65536, by omega, e, ?_⟩
  rw [e, show (64 : Int32) = nI 64 from rfl, s_div (by omega) (by omega) (by omega)]
theorem SS_ok : ∀ (z t : Nat) (s x : Int32), t + z < 100 → N ≤ 7 → nn s < 2 ^ N → DRW x → nn (SS (nI N) ch z (nI t) s x).1 < 2 ^ N ∧ DRW (SS (nI N) ch z (nI t) s x).2 := by
  intro z
  induction z with
  | zero => intro t s x _ _ hs hx; exact ⟨hs, hx⟩
  | succ z ih =>
    intro t s x ht hN hs hx
    rw [SS]
    by_cases c : nI N ≤ nI t
    · rw [if_pos c]; exact ⟨hs, hx⟩
    · rw [if_neg c, nI_1]
      obtain ⟨Y, hY, eY, _⟩ := dr_ok hx
      rw [nI_leI (by omega) (by omega)] at c
      refine ih (t + 1) _ _ (by omega) hN ?_ ⟨Y, hY, eY⟩
      split
      · rw [nn_or, nn_two t (by omega)]
        refine s_lt2 (fun i hi => ?_)
        rw [s_or2, s_big hs hi, decide_eq_false (by omega)]
        rfl
      · exact hs
theorem CS_ok {x : Int32} (hN1 : 1 ≤ N) (hN7 : N ≤ 7) (hx : DRW x) : nn (CS (nI N) ch x).1 < 2 ^ N ∧ DRW (CS (nI N) ch x).2 := by
  rw [CS]
  by_cases c : ch = 0
  · rw [if_pos c]
    obtain ⟨Y, hY, eY, e2⟩ := dr_ok hx
    refine ⟨?_, Y, hY, eY⟩
    show nn ((1 : Int32) <<< (md (dr x / (64 : Int32)) (nI N) &&& 31)) < 2 ^ N
    have h2 := Nat.mod_lt (Y / 64) (show N > 0 by omega)
    rw [e2, md, s_mod (by omega) (by omega) (by omega), nn_two _ (by omega)]
    exact Nat.pow_lt_pow_right (by decide) h2
  · rw [if_neg c]
    have g := SS_ok (N := N) (ch := ch) 8 0 0 x (by omega) hN7 (by rw [nn_0]; exact Nat.two_pow_pos N) hx
    rw [nI_0] at g
    exact g
theorem XS_ok (hN1 : 1 ≤ N) (hN7 : N ≤ 7) (hs : DRW seed) : ∀ i, DRW (XS (nI N) ch seed i) := by
  intro i
  induction i with
  | zero => exact hs
  | succ i ih => exact (CS_ok hN1 hN7 ih).2
theorem GSg_ok {x : Int32} : ∀ i, i ≤ 7 → nn (GSg x i).1 < 2 ^ i := by
  intro i
  induction i with
  | zero => intro _; show nn 0 < 1; rw [nn_0]; omega
  | succ i ih =>
    intro hi
    have h := ih (by omega)
    rw [GSg]
    split
    · show nn ((GSg x i).1 ||| ((1 : Int32) <<< (nI i &&& 31))) < _
      rw [nn_or, nn_two i (by omega)]
      refine s_lt2 (fun j hj => ?_)
      rw [s_or2, s_big h (by omega), decide_eq_false (by omega)]
      rfl
    · show nn (GSg x i).1 < _
      exact Nat.lt_trans h (Nat.pow_lt_pow_right (by decide) (by omega))
theorem aS_AV (hN1 : 1 ≤ N) (hN7 : N ≤ 7) (hs : IN seed 0 65535) : AV (aS seed N ch) := by
  obtain ⟨X, eX, x1, x2⟩ := IN_ex hs (by decide)
  have x2' : (X : Int) ≤ 65535 := x2
  have hd : DRW seed := ⟨X, by omega, eX⟩
  refine ⟨hN1, hN7, ?_, GSg_ok N hN7, fun j hj => ?_, fun j hj => ?_⟩
  · show nn 1 < 2 ^ N
    rw [show nn 1 = 1 from by decide]
    exact Nat.one_lt_two_pow (by omega)
  · have hj' : j < 3 * N := hj
    show nn (if j < 3 * N then CE (nI N) ch seed j else 0) < 2 ^ N
    rw [if_pos hj']
    exact (CS_ok hN1 hN7 (XS_ok hN1 hN7 hd j)).1
  · have hj' : 3 * N ≤ j := hj
    show (if j < 3 * N then CE (nI N) ch seed j else 0) = 0
    rw [if_neg (by omega)]
theorem rr_sow (h : RSt ν S a r k t) (hv : AVs S) (hok : ∀ m n, m < 4 → a1 = nI m → a3 = nI n → 1 ≤ n → n ≤ 7 → IN a2 0 65535 → IN a4 0 6 → ∀ ν9, RSt ν9 (sUp S m (aS a2 n a4)) (a + 1) r k 0 → Q (AC (aS a2 n a4)) ν9) (h1 : ¬ M1 a1 → ∀ b ν9, RSt ν9 S a r k 1 → Q b ν9) (h2 : M1 a1 → ¬ (IN a2 0 65535 ∧ IN a3 1 7 ∧ IN a4 0 6) → ∀ b ν9, RSt ν9 S a r k 2 → Q b ν9) : wp_X11_sow ν a1 a2 a3 a4 Q := by
  have b1 : ¬ M1 a1 → ∀ (y : Int32) (B : TMem → Prop), wp_X11_isThrown ν 0 y (fun (r6 : Int32) (μ5 : TMem) => (r6 = 0 → B μ5) ∧ (¬ r6 = 0 → (Q (0 : Int32) μ5))) := fun z y B => th_1 ⟨fun q => absurd q (by decide), fun _ => h1 z _ _ (h.thr 1)⟩
  have b2 : M1 a1 → ¬ (IN a2 0 65535 ∧ IN a3 1 7 ∧ IN a4 0 6) → ∀ (B : TMem → Prop), wp_X11_isThrown ν 1 0 (fun (r6 : Int32) (μ5 : TMem) => (r6 = 0 → B μ5) ∧ (¬ r6 = 0 → (Q (0 : Int32) μ5))) := fun z z2 B => th_2 ⟨fun q => absurd q (by decide), fun _ => h2 z z2 _ _ (h.thr 2)⟩
  refine rr_one (fun m hm em => ?_) (fun z => ?_)
  · have hM : M1 a1 := em ▸ M1_nI hm
    refine rr_in (fun y2 J hJ => ⟨fun q => absurd q (by decide), fun _ => rr_in (fun y3 => ⟨fun q => absurd q (by decide), fun _ => rr_in (fun y4 => ⟨fun q => absurd q (by decide), fun _ => hJ 1 (th_ok ⟨fun _ => ?_, fun q => absurd rfl q⟩)⟩) (fun y4 => ⟨fun _ => hJ 0 (b2 hM (fun q => y4 q.2.2) _), fun q => absurd rfl q⟩)⟩) (fun y3 => ⟨fun _ => hJ 0 (b2 hM (fun q => y3 q.2.1) _), fun q => absurd rfl q⟩)⟩) (fun y2 J hJ => ⟨fun _ => hJ 0 (b2 hM (fun q => y2 q.1) _), fun q => absurd rfl q⟩)
    obtain ⟨N, eN, n1, n7⟩ := IN_ex y3 (by decide)
    have n1' : (1 : Int) ≤ N := n1
    have n7' : (N : Int) ≤ 7 := n7
    have h0 := h.thr 0
    have hok' := hok m N hm em eN (by omega) (by omega) y2 y4
    have hRI := h0.ri hv
    rw [em, eN]
    generalize hN0 : tms ν 0 7 0 = W at *
    refine rr_clear hm (fun ν8 hR8 hF8 => ?_)
    have ri8 : RI ν8 := fun i hi => by
      by_cases e : i = m
      · rw [e, hR8.1, show (nI (aC N).1).toInt = (N : Int) from nI_toInt (show N < 2 ^ 31 by omega)]; omega
      · rw [(hF8.2.1 i e).1]; exact hRI i hi
    refine rr_61 (N := N) (seed := a2) (ch := a4) hm (by omega) (by omega) y4 ⟨ri8, fun _ _ => rfl, fun _ _ => rfl, fun j hj => absurd hj (Nat.not_lt_zero _), fun j _ hj => hR8.2.2.2 j hj⟩ (fun ν9 s9 => ?_)
    obtain ⟨s1, s2, s3, s4, s5⟩ := s9
    refine rr_193 (N := N) hm (by omega) (by rw [s2 3 (by decide)]; exact hR8.2.2.1) (fun νa g1 g2 g3 => ?_)
    have hRS : HR νa m (aS a2 N a4) := ⟨by rw [g3 1 (by decide), s2 1 (by decide)]; exact hR8.1, by rw [g3 2 (by decide), s2 2 (by decide)]; exact hR8.2.1, g1, fun j hj => by
      rw [g3 4 (by decide)]
      show _ = if j < 3 * N then _ else _
      by_cases e : j < 3 * N
      · rw [if_pos e]; exact s4 j e
      · rw [if_neg e]; exact s5 j (by omega) hj⟩
    refine rr_arrowsOf hm hRS (aS_AV (by omega) (by omega) y2) (hok' _ (h0.act hRS ⟨?_, fun i hi => ⟨?_, ?_, ?_⟩, fun p hp => ?_⟩))
    · rw [g3 0 (by decide), s2 0 (by decide)]; exact hF8.1
    · rw [g3 1 (by decide), s2 1 (by decide)]; exact (hF8.2.1 i hi).1
    · rw [g3 2 (by decide), s2 2 (by decide)]; exact (hF8.2.1 i hi).2.1
    · rw [g2 i hi, s2 3 (by decide)]; exact (hF8.2.1 i hi).2.2
    · rw [g3 4 (by decide), s3 p hp]; exact hF8.2.2 p hp
  · refine rr_in (fun y2 J hJ => ⟨fun _ => hJ 0 (b1 z _ _), fun _ => rr_in (fun y3 => ⟨fun _ => hJ 0 (b1 z _ _), fun _ => rr_in (fun y4 => ⟨fun _ => hJ 0 (b1 z _ _), fun _ => hJ 1 (b1 z _ _)⟩) (fun y4 => ⟨fun _ => hJ 0 (b1 z _ _), fun q => absurd rfl q⟩)⟩) (fun y3 => ⟨fun _ => hJ 0 (b1 z _ _), fun q => absurd rfl q⟩)⟩) (fun y2 J hJ => ⟨fun _ => hJ 0 (b1 z _ _), fun q => absurd rfl q⟩)
end SRO
end
/-! part 9sap.zfr -/
section
section ZFR
/-- as Fr, and the machines' rows as they were -/
def Zr (lv : Nat) (μ μ1 : TMem) : Prop := Fr lv μ μ1 ∧ ∀ k, k ≤ 9 → μ1 k = μ k
theorem kd5' {k : Nat} (h : kd k = 5) : 9 < k := by have := kd5 h; omega
theorem kd6' {k : Nat} (h : kd k = 6) : 9 < k := Nat.lt_of_not_le (fun c => absurd h ((show ∀ k, k < 10 → kd k ≠ 6 by decide) k (by omega)))
theorem Zr.rf {lv : Nat} {μ : TMem} : Zr lv μ μ := ⟨Fr.rf, fun _ _ => rfl⟩
theorem Zr.trans {lv : Nat} {a b c : TMem} (h1 : Zr lv a b) (h2 : Zr lv b c) : Zr lv a c := ⟨h1.1.trans h2.1, fun k hk => (h2.2 k hk).trans (h1.2 k hk)⟩
theorem Zr.up {l1 l2 : Nat} {a b : TMem} (h : l1 ≤ l2) (h1 : Zr l1 a b) : Zr l2 a b := ⟨h1.1.up h, h1.2⟩
theorem Zr.st {lv : Nat} {a b : TMem} {k i : Nat} {v : Int32} (h : Zr lv a b) (hp : prot lv (kd k) i = false) (hk : k ≠ 43 ∨ rng v) (h9 : 9 < k := by first | decide | assumption | exact kd5' (by assumption) | exact kd6' (by assumption) | exact Nat.lt_succ_of_lt (kd5' (by assumption)) | exact Nat.lt_succ_of_lt (kd6' (by assumption)) | omega) : Zr lv a (tms b k i v) := ⟨h.1.st hp hk, fun j hj => by rw [tms_ne (by omega)]; exact h.2 j hj⟩
theorem Zr.zf {lv : Nat} {a b : TMem} (h : Zr lv a b) : ZF a b := ⟨h.2, h.1.2⟩
theorem zk5 {μ μ1 : TMem} {k : Nat} (hk : kd k = 5) (f : Zr 0 μ μ1) : μ1 k 1 = μ k 1 := k5 hk f.1
theorem zu2 {a b : TMem} (f : Zr 0 a b) : Zr 2 a b := f.up (by decide)
theorem zt2 {a b : TMem} {k i : Nat} {v : Int32} (f : Zr 2 a b) (hk : kd k = 5) : Zr 2 a (tms b k i v) := f.st (by rw [hk]; rfl) (Or.inl (ne43 hk (by decide))) (kd5' hk)
theorem z_machineAt0 (μ : TMem) {Q : Nat → TMem → Prop} {X : String → TMem → Prop} (h : ∀ (r : Nat) (μ9 : TMem), kd r = 2 → Zr 0 μ μ9 → Q r μ9) : wp_X9_machineAt μ (0 : Int32) Q X := by
  show ((0 : Int32) < 0 → (X "java/lang/IndexOutOfBoundsException" μ)) ∧ (¬ (0 : Int32) < 0 → (((0 : Int32) < (4 : Int32) → (vp_in (0 : Int32) 4 ∧ (Q (2 + 2 * (0 : Int32).toNatClampNeg) μ))) ∧ (¬ (0 : Int32) < (4 : Int32) → (X "java/lang/IndexOutOfBoundsException" μ))))
  exact ⟨fun z => absurd z (by decide), fun _ => ⟨fun _ => ⟨vp_in_iff.mpr (by decide), h _ _ rfl Zr.rf⟩, fun z => absurd (by decide) z⟩⟩
set_option maxHeartbeats 2000000 in
theorem z_X7_put (k0 : Nat) (hk0 : (kd k0 = 2 ∨ kd k0 = 5) ∧ 9 < k0) (μ : TMem) (a1 : Int32) (a2 : Int32) (a3 : Int32) {Q : TMem → Prop} (h : ∀ μ9 : TMem, Zr 0 μ μ9 → Q μ9) : wp_X7_put k0 μ a1 a2 a3 Q := by
  show (((a1 * (3 : Int32)) + a2) < 0 → (Q μ)) ∧ (¬ ((a1 * (3 : Int32)) + a2) < 0 → (((nI (tl (k0 + 1))) ≤ ((a1 * (3 : Int32)) + a2) → (Q μ)) ∧ (¬ (nI (tl (k0 + 1))) ≤ ((a1 * (3 : Int32)) + a2) → (vp_in ((a1 * (3 : Int32)) + a2) (tl (k0 + 1)) ∧ (Q (tms μ (k0 + 1) ((a1 * (3 : Int32)) + a2).toNatClampNeg a3))))))
  refine ⟨fun c10 => ?_, fun c11 => ?_⟩
  · exact h _ (Zr.rf)
  · refine ⟨fun c12 => ?_, fun c13 => ?_⟩
    · exact h _ (Zr.rf)
    · have hv14 : vp_in ((a1 * (3 : Int32)) + a2) (tl (k0 + 1)) := (by first | exact vp_a (by assumption) (by assumption) (tl_s _) | exact vp_b (by assumption) (by assumption) (tl_s _) | exact vp_a (n := 4) (by assumption) (by assumption) (by decide) | exact vp_b (n := 4) (by assumption) (by assumption) (by decide) | exact vp_c (by assumption) (by assumption))
      refine ⟨hv14, ?_⟩
      exact h _ (Zr.st (Zr.rf) (by rw [show kd (k0 + 1) = 9 from (ka_25 hk0.1)] <;> rfl) (Or.inl (ne43b hk0.1)))
set_option maxHeartbeats 2000000 in
theorem zl_wpl_X2_becomePlain_33 (μ0 : TMem) (k0 : Nat) (hk0 : kd k0 = 2 ∧ 9 < k0) (k1 : Nat) (hk1 : kd k1 = 5) (v7 : Int32) {K58 : TMem → Prop} (hK58 : ∀ (u0 : TMem), Zr 0 μ0 u0 → K58 u0) : ∀ (n : Nat) (v6 : Int32) (μ8 : TMem), (((3 : Int32)).toInt - (v6).toInt).toNat < n → 0 ≤ (v6).toInt → Zr 0 μ0 μ8 → wpl_X2_becomePlain_33 k0 k1 v7 K58 n v6 μ8 := by
  intro n
  induction n with
  | zero => intro v6 μ8 hm; exact absurd hm (Nat.not_lt_zero _)
  | succ n ih =>
    intro v6 μ8 hm hi hF
    show ((3 : Int32) ≤ v6 → (K58 μ8)) ∧ (¬ (3 : Int32) ≤ v6 → (wp_X7_at k1 μ8 v7 v6 (fun (r10 : Int32) => wp_X7_put k0 μ8 v7 v6 ((1 : Int32) <<< (r10 &&& 31)) (fun (μ13 : TMem) => wpl_X2_becomePlain_33 k0 k1 v7 K58 n (v6 + (1 : Int32)) μ13))))
    refine ⟨fun c_ex => ?_, fun c_in => ?_⟩
    · exact hK58 μ8 hF
    have c_lt : ¬ ((3 : Int32)) ≤ v6 := c_in
    refine f_X7_at k1 (Or.inr hk1) μ8 v7 v6 (fun r10 => ?_)
    refine z_X7_put k0 ⟨Or.inl hk0.1, hk0.2⟩ μ8 v7 v6 ((1 : Int32) <<< (r10 &&& 31)) (fun μ13 hf15 => ?_)
    exact ih (v6 + (1 : Int32)) μ13 (lt_m c_lt (by omega)) (lt_p (by assumption) c_lt) (Zr.trans hF (Zr.up (by decide) hf15))
set_option maxHeartbeats 2000000 in
theorem zl_wpl_X2_becomePlain_23 (μ0 : TMem) (k0 : Nat) (hk0 : kd k0 = 2 ∧ 9 < k0) (k1 : Nat) (hk1 : kd k1 = 5) {Q : TMem → Prop} (h : ∀ μ9 : TMem, Zr 0 μ0 μ9 → Q μ9) : ∀ (n : Nat) (v2 : Int32) (μ3 : TMem), (((μ0 k0 1)).toInt - (v2).toInt).toNat < n → 0 ≤ (v2).toInt → Zr 0 μ0 μ3 → wpl_X2_becomePlain_23 k0 k1 Q n v2 μ3 := by
  intro n
  induction n with
  | zero => intro v2 μ3 hm; exact absurd hm (Nat.not_lt_zero _)
  | succ n ih =>
    intro v2 μ3 hm hi hF
    show ((μ3 k0 1) ≤ v2 → (Q μ3)) ∧ (¬ (μ3 k0 1) ≤ v2 → (∃ n4x, wpl_X2_becomePlain_33 k0 k1 v2 (fun (μ15 : TMem) => wpl_X2_becomePlain_23 k0 k1 Q n (v2 + (1 : Int32)) μ15) n4x (0 : Int32) μ3))
    refine ⟨fun c_ex => ?_, fun c_in => ?_⟩
    · exact h _ hF
    have e_k0_1 : μ3 k0 1 = μ0 k0 1 := hF.1.1 k0 1 (by rw [show kd k0 = 2 from hk0.1] <;> rfl)
    have c_lt : ¬ ((μ0 k0 1)) ≤ v2 := by
      rw [e_k0_1] at c_in
      exact c_in
    refine ⟨_, zl_wpl_X2_becomePlain_33 μ3 k0 hk0 k1 hk1 v2 ?_ _ (0 : Int32) μ3 (Nat.lt_succ_self _) (by first | decide | omega) Zr.rf⟩
    · intro μ15 hf16
      exact ih (v2 + (1 : Int32)) μ15 (lt_m c_lt (by omega)) (lt_p (by assumption) c_lt) (Zr.trans hF (Zr.up (by decide) hf16))
set_option maxHeartbeats 2000000 in
theorem z_X2_becomePlain (k0 : Nat) (hk0 : kd k0 = 2 ∧ 9 < k0) (k1 : Nat) (hk1 : kd k1 = 5) (μ : TMem)  {Q : TMem → Prop} (h : ∀ μ9 : TMem, Zr 2 μ μ9 → Q μ9) : wp_X2_becomePlain k0 k1 μ Q := by
  show ∃ n0x, wpl_X2_becomePlain_23 k0 k1 Q n0x (0 : Int32) (tms (tms (tms μ k0 1 (μ k1 1)) k0 3 (1 : Int32)) k0 2 ((tms (tms μ k0 1 (μ k1 1)) k0 3 (1 : Int32)) k1 2))
  refine ⟨_, zl_wpl_X2_becomePlain_23 (tms (tms (tms μ k0 1 (μ k1 1)) k0 3 (1 : Int32)) k0 2 ((tms (tms μ k0 1 (μ k1 1)) k0 3 (1 : Int32)) k1 2)) k0 hk0 k1 hk1 (fun μ9 f9 => h μ9 (Zr.trans (Zr.st (Zr.st (Zr.st (Zr.rf) (by rw [show kd k0 = 2 from hk0.1] <;> rfl) (Or.inl (ne43 (K := 2) hk0.1 (by decide)))) (by rw [show kd k0 = 2 from hk0.1] <;> rfl) (Or.inl (ne43 (K := 2) hk0.1 (by decide)))) (by rw [show kd k0 = 2 from hk0.1] <;> rfl) (Or.inl (ne43 (K := 2) hk0.1 (by decide)))) (Zr.up (by decide) f9))) _ (0 : Int32) (tms (tms (tms μ k0 1 (μ k1 1)) k0 3 (1 : Int32)) k0 2 ((tms (tms μ k0 1 (μ k1 1)) k0 3 (1 : Int32)) k1 2)) (Nat.lt_succ_self _) (by first | decide | omega) Zr.rf⟩
set_option maxHeartbeats 2000000 in
theorem z_X6_put (k0 : Nat) (hk0 : kd k0 = 6) (μ : TMem) (a1 : Int32) (a2 : Int32) (hv : k0 + 1 ≠ 43 ∨ rng a2) {Q : TMem → Prop} (h : ∀ μ9 : TMem, Zr 0 μ μ9 → Q μ9) : wp_X6_put k0 μ a1 a2 Q := by
  show (a1 < 0 → (Q μ)) ∧ (¬ a1 < 0 → (((nI (tl (k0 + 1))) ≤ a1 → (Q μ)) ∧ (¬ (nI (tl (k0 + 1))) ≤ a1 → (vp_in a1 (tl (k0 + 1)) ∧ (Q (tms μ (k0 + 1) a1.toNatClampNeg a2))))))
  refine ⟨fun c22 => ?_, fun c23 => ?_⟩
  · exact h _ (Zr.rf)
  · refine ⟨fun c24 => ?_, fun c25 => ?_⟩
    · exact h _ (Zr.rf)
    · have hv26 : vp_in a1 (tl (k0 + 1)) := (by first | exact vp_a (by assumption) (by assumption) (tl_s _) | exact vp_b (by assumption) (by assumption) (tl_s _) | exact vp_a (n := 4) (by assumption) (by assumption) (by decide) | exact vp_b (n := 4) (by assumption) (by assumption) (by decide) | exact vp_c (by assumption) (by assumption))
      refine ⟨hv26, ?_⟩
      exact h _ (Zr.st (Zr.rf) (by rw [show kd (k0 + 1) = 9 from (ka_6 hk0)] <;> rfl) hv)
set_option maxHeartbeats 2000000 in
theorem z_X3_numberOf (k2 : Nat) (hk2 : kd k2 = 5) (μ : TMem) (a1 : Int32) {Q : Int32 → TMem → Prop} (h : ∀ (r : Int32) (μ9 : TMem), Zr 2 μ μ9 → Q r μ9) : wp_X3_numberOf k2 μ a1 Q := by
  show wp_X6_find 16 μ a1 (μ k2 1) (fun (r1 : Int32) => (¬ r1 = (-1 : Int32) → (Q r1 μ)) ∧ (r1 = (-1 : Int32) → (((μ k2 1) < (32 : Int32) → (wp_X6_put 16 μ (μ k2 1) a1 (fun (μ6 : TMem) => Q (((tms μ6 k2 1 ((μ6 k2 1) + (1 : Int32))) k2 1) - (1 : Int32)) (tms μ6 k2 1 ((μ6 k2 1) + (1 : Int32)))))) ∧ (¬ (μ k2 1) < (32 : Int32) → (Q r1 μ)))))
  refine f_X6_find 16 rfl μ a1 (μ k2 1) (fun r1 => ?_)
  refine ⟨fun c40 => ?_, fun c41 => ?_⟩
  · exact h _ _ (Zr.rf)
  · refine ⟨fun c42 => ?_, fun c43 => ?_⟩
    · refine z_X6_put 16 rfl μ (μ k2 1) a1 (Or.inl (by decide)) (fun μ6 hf44 => ?_)
      exact h _ _ (Zr.st (Zr.trans (Zr.rf) (Zr.up (by decide) hf44)) (by rw [show kd k2 = 5 from hk2] <;> rfl) (Or.inl (ne43 (K := 5) hk2 (by decide))))
    · exact h _ _ (Zr.rf)
set_option maxHeartbeats 2000000 in
theorem zl_wpl_X3_makeOneWay_78 (μ0 : TMem) (k1 : Nat) (hk1 : kd k1 = 2) (k2 : Nat) (hk2 : kd k2 = 5) (v15 : Int32) (v16 : Int32) {K122 : TMem → Prop} {Q : Int32 → TMem → Prop} (hK122 : ∀ (u0 : TMem), Zr 2 μ0 u0 → K122 u0) (h : ∀ (r : Int32) (μ9 : TMem), isB r → Zr 2 μ0 μ9 → Q r μ9) : ∀ (n : Nat) (v14 : Int32) (μ17 : TMem), (((3 : Int32)).toInt - (v14).toInt).toNat < n → 0 ≤ (v14).toInt → Zr 2 μ0 μ17 → wpl_X3_makeOneWay_78 k1 k2 v15 v16 K122 Q n v14 μ17 := by
  intro n
  induction n with
  | zero => intro v14 μ17 hm; exact absurd hm (Nat.not_lt_zero _)
  | succ n ih =>
    intro v14 μ17 hm hi hF
    show ((3 : Int32) ≤ v14 → (K122 μ17)) ∧ (¬ (3 : Int32) ≤ v14 → (wp_X2_reach k1 μ17 v15 v14 (fun (r19 : Int32) => wp_X3_numberOf k2 μ17 r19 (fun (r23 : Int32) (μ22 : TMem) => (¬ r23 = (-1 : Int32) → (wp_X7_put k2 μ22 v16 v14 r23 (fun (μ25 : TMem) => wpl_X3_makeOneWay_78 k1 k2 v15 v16 K122 Q n (v14 + (1 : Int32)) μ25))) ∧ (r23 = (-1 : Int32) → (Q (0 : Int32) μ22))))))
    refine ⟨fun c_ex => ?_, fun c_in => ?_⟩
    · exact hK122 μ17 hF
    have c_lt : ¬ ((3 : Int32)) ≤ v14 := c_in
    refine f_X2_reach k1 hk1 μ17 v15 v14 (fun r19 => ?_)
    refine z_X3_numberOf k2 hk2 μ17 r19 (fun r23 μ22 hf45 => ?_)
    refine ⟨fun c46 => ?_, fun c47 => ?_⟩
    · refine z_X7_put k2 ⟨Or.inr hk2, kd5' hk2⟩ μ22 v16 v14 r23 (fun μ25 hf48 => ?_)
      exact ih (v14 + (1 : Int32)) μ25 (lt_m c_lt (by omega)) (lt_p (by assumption) c_lt) (Zr.trans (Zr.trans hF (Zr.up (by decide) hf45)) (Zr.up (by decide) hf48))
    · exact h _ _ (by first | assumption | exact Or.inl rfl | exact Or.inr rfl | exact isB_or (by assumption) (by first | assumption | exact Or.inl rfl | exact Or.inr rfl)) (Zr.trans hF (Zr.up (by decide) hf45))
set_option maxHeartbeats 2000000 in
theorem zl_wpl_X3_makeOneWay_24 (μ0 : TMem) (k1 : Nat) (hk1 : kd k1 = 2) (k2 : Nat) (hk2 : kd k2 = 5) {Q : Int32 → TMem → Prop} (h : ∀ (r : Int32) (μ9 : TMem), isB r → Zr 2 μ0 μ9 → Q r μ9) : ∀ (n : Nat) (v3 : Int32) (μ4 : TMem), (((32 : Int32)).toInt - (v3).toInt).toNat < n → 0 ≤ (v3).toInt → Zr 2 μ0 μ4 → wpl_X3_makeOneWay_24 k1 k2 Q n v3 μ4 := by
  intro n
  induction n with
  | zero => intro v3 μ4 hm; exact absurd hm (Nat.not_lt_zero _)
  | succ n ih =>
    intro v3 μ4 hm hi hF
    show ((32 : Int32) ≤ v3 → (Q (1 : Int32) μ4)) ∧ (¬ (32 : Int32) ≤ v3 → (((μ4 k2 1) ≤ v3 → (Q (1 : Int32) μ4)) ∧ (¬ (μ4 k2 1) ≤ v3 → (wp_X6_at 16 μ4 v3 (fun (r7 : Int32) => ∀ J10 : Int32 → Prop, (∀ (j11 : Int32), (wp_X9_withOrWithout (μ4 k2 2) v3 j11 (fun (r12 : Int32) => ∃ n12x, wpl_X3_makeOneWay_78 k1 k2 r7 v3 (fun (μ27 : TMem) => wpl_X3_makeOneWay_24 k1 k2 Q n (v3 + (1 : Int32)) μ27) Q n12x (0 : Int32) (tms μ4 k2 2 r12))) → J10 j11) → (((r7 &&& (μ4 k1 2)) = 0 → (J10 (0 : Int32))) ∧ (¬ (r7 &&& (μ4 k1 2)) = 0 → (J10 (1 : Int32)))))))))
    refine ⟨fun c_ex => ?_, fun c_in => ?_⟩
    · exact h _ _ (by first | assumption | exact Or.inl rfl | exact Or.inr rfl | exact isB_or (by assumption) (by first | assumption | exact Or.inl rfl | exact Or.inr rfl)) hF
    have c_lt : ¬ ((32 : Int32)) ≤ v3 := c_in
    refine ⟨fun c49 => ?_, fun c50 => ?_⟩
    · exact h _ _ (by first | assumption | exact Or.inl rfl | exact Or.inr rfl | exact isB_or (by assumption) (by first | assumption | exact Or.inl rfl | exact Or.inr rfl)) hF
    · refine f_X6_at 16 rfl μ4 v3 (fun r7 => ?_)
      intro J10 hJ10
      refine ⟨fun c51 => ?_, fun c52 => ?_⟩
      · refine hJ10 (0 : Int32) ?_
        refine f_X9_withOrWithout (μ4 k2 2) v3 (0 : Int32) (fun r12 => ?_)
        refine ⟨_, zl_wpl_X3_makeOneWay_78 (tms μ4 k2 2 r12) k1 hk1 k2 hk2 r7 v3 ?_ (fun r9 μ9 b9 f9 => h r9 μ9 b9 (Zr.trans (Zr.st hF (by rw [show kd k2 = 5 from hk2] <;> rfl) (Or.inl (ne43 (K := 5) hk2 (by decide)))) (Zr.up (by decide) f9))) _ (0 : Int32) (tms μ4 k2 2 r12) (Nat.lt_succ_self _) (by first | decide | omega) Zr.rf⟩
        · intro μ27 hf53
          exact ih (v3 + (1 : Int32)) μ27 (lt_m c_lt (by omega)) (lt_p (by assumption) c_lt) (Zr.trans (Zr.st hF (by rw [show kd k2 = 5 from hk2] <;> rfl) (Or.inl (ne43 (K := 5) hk2 (by decide)))) (Zr.up (by decide) hf53))
      · refine hJ10 (1 : Int32) ?_
        refine f_X9_withOrWithout (μ4 k2 2) v3 (1 : Int32) (fun r12 => ?_)
        refine ⟨_, zl_wpl_X3_makeOneWay_78 (tms μ4 k2 2 r12) k1 hk1 k2 hk2 r7 v3 ?_ (fun r9 μ9 b9 f9 => h r9 μ9 b9 (Zr.trans (Zr.st hF (by rw [show kd k2 = 5 from hk2] <;> rfl) (Or.inl (ne43 (K := 5) hk2 (by decide)))) (Zr.up (by decide) f9))) _ (0 : Int32) (tms μ4 k2 2 r12) (Nat.lt_succ_self _) (by first | decide | omega) Zr.rf⟩
        · intro μ27 hf54
          exact ih (v3 + (1 : Int32)) μ27 (lt_m c_lt (by omega)) (lt_p (by assumption) c_lt) (Zr.trans (Zr.st hF (by rw [show kd k2 = 5 from hk2] <;> rfl) (Or.inl (ne43 (K := 5) hk2 (by decide)))) (Zr.up (by decide) hf54))
set_option maxHeartbeats 2000000 in
theorem z_X3_makeOneWay (k1 : Nat) (hk1 : kd k1 = 2) (k2 : Nat) (hk2 : kd k2 = 5) (μ : TMem)  {Q : Int32 → TMem → Prop} (h : ∀ (r : Int32) (μ9 : TMem), isB r → Zr 2 μ μ9 → Q r μ9) : wp_X3_makeOneWay k1 k2 μ Q := by
  show wp_X6_put 16 μ (0 : Int32) (μ k1 3) (fun (μ1 : TMem) => ∃ n1x, wpl_X3_makeOneWay_24 k1 k2 Q n1x (0 : Int32) (tms (tms μ1 k2 1 (1 : Int32)) k2 2 (0 : Int32)))
  refine z_X6_put 16 rfl μ (0 : Int32) (μ k1 3) (Or.inl (by decide)) (fun μ1 hf55 => ?_)
  refine ⟨_, zl_wpl_X3_makeOneWay_24 (tms (tms μ1 k2 1 (1 : Int32)) k2 2 (0 : Int32)) k1 hk1 k2 hk2 (fun r9 μ9 b9 f9 => h r9 μ9 b9 (Zr.trans (Zr.st (Zr.st (Zr.trans (Zr.rf) (Zr.up (by decide) hf55)) (by rw [show kd k2 = 5 from hk2] <;> rfl) (Or.inl (ne43 (K := 5) hk2 (by decide)))) (by rw [show kd k2 = 5 from hk2] <;> rfl) (Or.inl (ne43 (K := 5) hk2 (by decide)))) (Zr.up (by decide) f9))) _ (0 : Int32) (tms (tms μ1 k2 1 (1 : Int32)) k2 2 (0 : Int32)) (Nat.lt_succ_self _) (by first | decide | omega) Zr.rf⟩
set_option maxHeartbeats 2000000 in
theorem zl_wpl_X6_fill_2 (μ0 : TMem) (k0 : Nat) (hk0 : kd k0 = 6) (v3 : Int32) {Q : TMem → Prop} (h : ∀ μ9 : TMem, Zr 0 μ0 μ9 → Q μ9) (hv : k0 + 1 ≠ 43) : ∀ (n : Nat) (v2 : Int32) (μ4 : TMem), (((nI (tl (k0 + 1)))).toInt - (v2).toInt).toNat < n → 0 ≤ (v2).toInt → Zr 0 μ0 μ4 → wpl_X6_fill_2 k0 v3 Q n v2 μ4 := by
  intro n
  induction n with
  | zero => intro v2 μ4 hm; exact absurd hm (Nat.not_lt_zero _)
  | succ n ih =>
    intro v2 μ4 hm hi hF
    show ((nI (tl (k0 + 1))) ≤ v2 → (Q μ4)) ∧ (¬ (nI (tl (k0 + 1))) ≤ v2 → (vp_in v2 (tl (k0 + 1)) ∧ (wpl_X6_fill_2 k0 v3 Q n (v2 + (1 : Int32)) (tms μ4 (k0 + 1) v2.toNatClampNeg v3))))
    refine ⟨fun c_ex => ?_, fun c_in => ?_⟩
    · exact h _ hF
    have c_lt : ¬ ((nI (tl (k0 + 1)))) ≤ v2 := c_in
    have hv56 : vp_in v2 (tl (k0 + 1)) := (by first | exact vp_a (by assumption) (by assumption) (tl_s _) | exact vp_b (by assumption) (by assumption) (tl_s _) | exact vp_a (n := 4) (by assumption) (by assumption) (by decide) | exact vp_b (n := 4) (by assumption) (by assumption) (by decide) | exact vp_c (by assumption) (by assumption))
    refine ⟨hv56, ?_⟩
    exact ih (v2 + (1 : Int32)) (tms μ4 (k0 + 1) v2.toNatClampNeg v3) (lt_m c_lt (by omega)) (lt_p (by assumption) c_lt) (Zr.st hF (by rw [show kd (k0 + 1) = 9 from (ka_6 hk0)] <;> rfl) (Or.inl hv))
set_option maxHeartbeats 2000000 in
theorem z_X6_fill (k0 : Nat) (hk0 : kd k0 = 6) (μ : TMem) (a1 : Int32) (hv : k0 + 1 ≠ 43) {Q : TMem → Prop} (h : ∀ μ9 : TMem, Zr 0 μ μ9 → Q μ9) : wp_X6_fill k0 μ a1 Q := by
  show ∃ n0x, wpl_X6_fill_2 k0 a1 Q n0x (0 : Int32) μ
  refine ⟨_, zl_wpl_X6_fill_2 μ k0 hk0 a1 (fun μ9 f9 => h μ9 (Zr.trans (Zr.rf) (Zr.up (by decide) f9))) hv _ (0 : Int32) μ (Nat.lt_succ_self _) (by first | decide | omega) Zr.rf⟩
set_option maxHeartbeats 2000000 in
theorem z_X4_add (μ : TMem) (a1 : Int32) (a2 : Int32) (a3 : Int32) (a4 : Int32) (hv : rng a4) {Q : TMem → Prop} (h : ∀ μ9 : TMem, Zr 1 μ μ9 → Q μ9) : wp_X4_add μ a1 a2 a3 a4 Q := by
  show wp_X6_put 36 μ (μ 35 8) a1 (fun (μ1 : TMem) => wp_X6_put 38 μ1 (μ1 35 8) a2 (fun (μ2 : TMem) => wp_X6_put 40 μ2 (μ2 35 8) a3 (fun (μ3 : TMem) => wp_X6_put 42 μ3 (μ3 35 8) a4 (fun (μ4 : TMem) => wp_X6_put 46 μ4 ((a1 * (32 : Int32)) + a2) (μ4 35 8) (fun (μ5 : TMem) => (¬ (μ5 35 9) = (-1 : Int32) → (Q (tms μ5 35 8 ((μ5 35 8) + (1 : Int32))))) ∧ ((μ5 35 9) = (-1 : Int32) → (wp_X4_isGoal μ5 (μ5 35 8) (3 : Int32) (fun (r7 : Int32) => (r7 = 0 → (Q (tms μ5 35 8 ((μ5 35 8) + (1 : Int32))))) ∧ (¬ r7 = 0 → (Q (tms (tms μ5 35 9 (μ5 35 8)) 35 8 (((tms μ5 35 9 (μ5 35 8)) 35 8) + (1 : Int32)))))))))))))
  refine z_X6_put 36 rfl μ (μ 35 8) a1 (Or.inl (by decide)) (fun μ1 hf79 => ?_)
  refine z_X6_put 38 rfl μ1 (μ1 35 8) a2 (Or.inl (by decide)) (fun μ2 hf80 => ?_)
  refine z_X6_put 40 rfl μ2 (μ2 35 8) a3 (Or.inl (by decide)) (fun μ3 hf81 => ?_)
  refine z_X6_put 42 rfl μ3 (μ3 35 8) a4 (Or.inr hv) (fun μ4 hf82 => ?_)
  refine z_X6_put 46 rfl μ4 ((a1 * (32 : Int32)) + a2) (μ4 35 8) (Or.inl (by decide)) (fun μ5 hf83 => ?_)
  refine ⟨fun c84 => ?_, fun c85 => ?_⟩
  · exact h _ (Zr.st (Zr.trans (Zr.trans (Zr.trans (Zr.trans (Zr.trans (Zr.rf) (Zr.up (by decide) hf79)) (Zr.up (by decide) hf80)) (Zr.up (by decide) hf81)) (Zr.up (by decide) hf82)) (Zr.up (by decide) hf83)) (by rw [show kd 35 = 4 from rfl] <;> rfl) (Or.inl (ne43 (K := 4) rfl (by decide))))
  · refine f_X4_isGoal μ5 (μ5 35 8) (3 : Int32) (fun r7 b86 => ?_)
    refine ⟨fun c87 => ?_, fun c88 => ?_⟩
    · exact h _ (Zr.st (Zr.trans (Zr.trans (Zr.trans (Zr.trans (Zr.trans (Zr.rf) (Zr.up (by decide) hf79)) (Zr.up (by decide) hf80)) (Zr.up (by decide) hf81)) (Zr.up (by decide) hf82)) (Zr.up (by decide) hf83)) (by rw [show kd 35 = 4 from rfl] <;> rfl) (Or.inl (ne43 (K := 4) rfl (by decide))))
    · exact h _ (Zr.st (Zr.st (Zr.trans (Zr.trans (Zr.trans (Zr.trans (Zr.trans (Zr.rf) (Zr.up (by decide) hf79)) (Zr.up (by decide) hf80)) (Zr.up (by decide) hf81)) (Zr.up (by decide) hf82)) (Zr.up (by decide) hf83)) (by rw [show kd 35 = 4 from rfl] <;> rfl) (Or.inl (ne43 (K := 4) rfl (by decide)))) (by rw [show kd 35 = 4 from rfl] <;> rfl) (Or.inl (ne43 (K := 4) rfl (by decide))))
set_option maxHeartbeats 2000000 in
theorem zl_wpl_X4_meet_63 (μ0 : TMem) (k1 : Nat) (hk1 : kd k1 = 5) (k2 : Nat) (hk2 : kd k2 = 5) (v12 : Int32) (v13 : Int32) (v14 : Int32) {K194 : TMem → Prop} {Q : Int32 → TMem → Prop} (hK194 : ∀ (u0 : TMem), Zr 1 μ0 u0 → K194 u0) (h : ∀ (r : Int32) (μ9 : TMem), isB r → Zr 1 μ0 μ9 → Q r μ9) : ∀ (n : Nat) (v11 : Int32) (μ15 : TMem), (((3 : Int32)).toInt - (v11).toInt).toNat < n → 0 ≤ (v11).toInt → Zr 1 μ0 μ15 → wpl_X4_meet_63 k1 k2 v12 v13 v14 K194 Q n v11 μ15 := by
  intro n
  induction n with
  | zero => intro v11 μ15 hm; exact absurd hm (Nat.not_lt_zero _)
  | succ n ih =>
    intro v11 μ15 hm hi hF
    show ((3 : Int32) ≤ v11 → (K194 μ15)) ∧ (¬ (3 : Int32) ≤ v11 → (((μ15 35 9) = (-1 : Int32) → (wp_X6_at 36 μ15 v12 (fun (r18 : Int32) => wp_X7_at k1 μ15 r18 v11 (fun (r21 : Int32) => wp_X6_at 38 μ15 v12 (fun (r24 : Int32) => wp_X7_at k2 μ15 r24 v11 (fun (r27 : Int32) => wp_X6_at 46 μ15 ((r21 * (32 : Int32)) + r27) (fun (r30 : Int32) => (¬ r30 = (-1 : Int32) → (wp_X6_at 46 μ15 ((r21 * (32 : Int32)) + r27) (fun (r34 : Int32) => wp_X6_put 44 μ15 ((v12 * (3 : Int32)) + v11) r34 (fun (μ37 : TMem) => wpl_X4_meet_63 k1 k2 v12 v13 v14 K194 Q n (v11 + (1 : Int32)) μ37)))) ∧ (r30 = (-1 : Int32) → (((μ15 35 8) < v13 → (wp_X4_add μ15 r21 r27 v12 v11 (fun (μ39 : TMem) => wp_X6_at 46 μ39 ((r21 * (32 : Int32)) + r27) (fun (r40 : Int32) => wp_X6_put 44 μ39 ((v12 * (3 : Int32)) + v11) r40 (fun (μ43 : TMem) => wpl_X4_meet_63 k1 k2 v12 v13 v14 K194 Q n (v11 + (1 : Int32)) μ43))))) ∧ (¬ (μ15 35 8) < v13 → (Q (0 : Int32) μ15))))))))))) ∧ (¬ (μ15 35 9) = (-1 : Int32) → ((¬ v14 = 0 → (wp_X6_at 36 μ15 v12 (fun (r45 : Int32) => wp_X7_at k1 μ15 r45 v11 (fun (r48 : Int32) => wp_X6_at 38 μ15 v12 (fun (r51 : Int32) => wp_X7_at k2 μ15 r51 v11 (fun (r54 : Int32) => wp_X6_at 46 μ15 ((r48 * (32 : Int32)) + r54) (fun (r57 : Int32) => (¬ r57 = (-1 : Int32) → (wp_X6_at 46 μ15 ((r48 * (32 : Int32)) + r54) (fun (r61 : Int32) => wp_X6_put 44 μ15 ((v12 * (3 : Int32)) + v11) r61 (fun (μ64 : TMem) => wpl_X4_meet_63 k1 k2 v12 v13 v14 K194 Q n (v11 + (1 : Int32)) μ64)))) ∧ (r57 = (-1 : Int32) → (((μ15 35 8) < v13 → (wp_X4_add μ15 r48 r54 v12 v11 (fun (μ66 : TMem) => wp_X6_at 46 μ66 ((r48 * (32 : Int32)) + r54) (fun (r67 : Int32) => wp_X6_put 44 μ66 ((v12 * (3 : Int32)) + v11) r67 (fun (μ70 : TMem) => wpl_X4_meet_63 k1 k2 v12 v13 v14 K194 Q n (v11 + (1 : Int32)) μ70))))) ∧ (¬ (μ15 35 8) < v13 → (Q (0 : Int32) μ15))))))))))) ∧ (v14 = 0 → (Q (1 : Int32) μ15))))))
    refine ⟨fun c_ex => ?_, fun c_in => ?_⟩
    · exact hK194 μ15 hF
    have c_lt : ¬ ((3 : Int32)) ≤ v11 := c_in
    refine ⟨fun c89 => ?_, fun c90 => ?_⟩
    · refine f_X6_at 36 rfl μ15 v12 (fun r18 => ?_)
      refine f_X7_at k1 (Or.inr hk1) μ15 r18 v11 (fun r21 => ?_)
      refine f_X6_at 38 rfl μ15 v12 (fun r24 => ?_)
      refine f_X7_at k2 (Or.inr hk2) μ15 r24 v11 (fun r27 => ?_)
      refine f_X6_at 46 rfl μ15 ((r21 * (32 : Int32)) + r27) (fun r30 => ?_)
      refine ⟨fun c91 => ?_, fun c92 => ?_⟩
      · refine f_X6_at 46 rfl μ15 ((r21 * (32 : Int32)) + r27) (fun r34 => ?_)
        refine z_X6_put 44 rfl μ15 ((v12 * (3 : Int32)) + v11) r34 (Or.inl (by decide)) (fun μ37 hf93 => ?_)
        exact ih (v11 + (1 : Int32)) μ37 (lt_m c_lt (by omega)) (lt_p (by assumption) c_lt) (Zr.trans hF (Zr.up (by decide) hf93))
      · refine ⟨fun c94 => ?_, fun c95 => ?_⟩
        · refine z_X4_add μ15 r21 r27 v12 v11 (rng3 hi c_lt) (fun μ39 hf96 => ?_)
          refine f_X6_at 46 rfl μ39 ((r21 * (32 : Int32)) + r27) (fun r40 => ?_)
          refine z_X6_put 44 rfl μ39 ((v12 * (3 : Int32)) + v11) r40 (Or.inl (by decide)) (fun μ43 hf97 => ?_)
          exact ih (v11 + (1 : Int32)) μ43 (lt_m c_lt (by omega)) (lt_p (by assumption) c_lt) (Zr.trans (Zr.trans hF (Zr.up (by decide) hf96)) (Zr.up (by decide) hf97))
        · exact h _ _ (by first | assumption | exact Or.inl rfl | exact Or.inr rfl | exact isB_or (by assumption) (by first | assumption | exact Or.inl rfl | exact Or.inr rfl)) hF
    · refine ⟨fun c98 => ?_, fun c99 => ?_⟩
      · refine f_X6_at 36 rfl μ15 v12 (fun r45 => ?_)
        refine f_X7_at k1 (Or.inr hk1) μ15 r45 v11 (fun r48 => ?_)
        refine f_X6_at 38 rfl μ15 v12 (fun r51 => ?_)
        refine f_X7_at k2 (Or.inr hk2) μ15 r51 v11 (fun r54 => ?_)
        refine f_X6_at 46 rfl μ15 ((r48 * (32 : Int32)) + r54) (fun r57 => ?_)
        refine ⟨fun c100 => ?_, fun c101 => ?_⟩
        · refine f_X6_at 46 rfl μ15 ((r48 * (32 : Int32)) + r54) (fun r61 => ?_)
          refine z_X6_put 44 rfl μ15 ((v12 * (3 : Int32)) + v11) r61 (Or.inl (by decide)) (fun μ64 hf102 => ?_)
          exact ih (v11 + (1 : Int32)) μ64 (lt_m c_lt (by omega)) (lt_p (by assumption) c_lt) (Zr.trans hF (Zr.up (by decide) hf102))
        · refine ⟨fun c103 => ?_, fun c104 => ?_⟩
          · refine z_X4_add μ15 r48 r54 v12 v11 (rng3 hi c_lt) (fun μ66 hf105 => ?_)
            refine f_X6_at 46 rfl μ66 ((r48 * (32 : Int32)) + r54) (fun r67 => ?_)
            refine z_X6_put 44 rfl μ66 ((v12 * (3 : Int32)) + v11) r67 (Or.inl (by decide)) (fun μ70 hf106 => ?_)
            exact ih (v11 + (1 : Int32)) μ70 (lt_m c_lt (by omega)) (lt_p (by assumption) c_lt) (Zr.trans (Zr.trans hF (Zr.up (by decide) hf105)) (Zr.up (by decide) hf106))
          · exact h _ _ (by first | assumption | exact Or.inl rfl | exact Or.inr rfl | exact isB_or (by assumption) (by first | assumption | exact Or.inl rfl | exact Or.inr rfl)) hF
      · exact h _ _ (by first | assumption | exact Or.inl rfl | exact Or.inr rfl | exact isB_or (by assumption) (by first | assumption | exact Or.inl rfl | exact Or.inr rfl)) hF
set_option maxHeartbeats 2000000 in
theorem zl_wpl_X4_meet_45 (μ0 : TMem) (k1 : Nat) (hk1 : kd k1 = 5) (k2 : Nat) (hk2 : kd k2 = 5) (v5 : Int32) (v6 : Int32) {Q : Int32 → TMem → Prop} (h : ∀ (r : Int32) (μ9 : TMem), isB r → Zr 1 μ0 μ9 → Q r μ9) : ∀ (n : Nat) (v4 : Int32) (μ7 : TMem), ((v5).toInt - (v4).toInt).toNat < n → 0 ≤ (v4).toInt → Zr 1 μ0 μ7 → wpl_X4_meet_45 k1 k2 v5 v6 Q n v4 μ7 := by
  intro n
  induction n with
  | zero => intro v4 μ7 hm; exact absurd hm (Nat.not_lt_zero _)
  | succ n ih =>
    intro v4 μ7 hm hi hF
    show (v5 ≤ v4 → (Q (1 : Int32) μ7)) ∧ (¬ v5 ≤ v4 → (((μ7 35 8) ≤ v4 → (Q (1 : Int32) μ7)) ∧ (¬ (μ7 35 8) ≤ v4 → (∃ n9x, wpl_X4_meet_63 k1 k2 v4 v5 v6 (fun (μ72 : TMem) => wpl_X4_meet_45 k1 k2 v5 v6 Q n (v4 + (1 : Int32)) μ72) Q n9x (0 : Int32) μ7))))
    refine ⟨fun c_ex => ?_, fun c_in => ?_⟩
    · exact h _ _ (by first | assumption | exact Or.inl rfl | exact Or.inr rfl | exact isB_or (by assumption) (by first | assumption | exact Or.inl rfl | exact Or.inr rfl)) hF
    have c_lt : ¬ (v5) ≤ v4 := c_in
    refine ⟨fun c107 => ?_, fun c108 => ?_⟩
    · exact h _ _ (by first | assumption | exact Or.inl rfl | exact Or.inr rfl | exact isB_or (by assumption) (by first | assumption | exact Or.inl rfl | exact Or.inr rfl)) hF
    · refine ⟨_, zl_wpl_X4_meet_63 μ7 k1 hk1 k2 hk2 v4 v5 v6 ?_ (fun r9 μ9 b9 f9 => h r9 μ9 b9 (Zr.trans hF (Zr.up (by decide) f9))) _ (0 : Int32) μ7 (Nat.lt_succ_self _) (by first | decide | omega) Zr.rf⟩
      · intro μ72 hf109
        exact ih (v4 + (1 : Int32)) μ72 (lt_m c_lt (by omega)) (lt_p (by assumption) c_lt) (Zr.trans hF (Zr.up (by decide) hf109))
set_option maxHeartbeats 2000000 in
theorem z_X4_meet (k1 : Nat) (hk1 : kd k1 = 5) (k2 : Nat) (hk2 : kd k2 = 5) (μ : TMem) (a3 : Int32) (a4 : Int32) {Q : Int32 → TMem → Prop} (h : ∀ (r : Int32) (μ9 : TMem), isB r → Zr 1 μ μ9 → Q r μ9) : wp_X4_meet k1 k2 μ a3 a4 Q := by
  show wp_X6_fill 46 μ (-1 : Int32) (fun (μ1 : TMem) => wp_X4_add (tms (tms (tms (tms μ1 35 6 (μ1 k1 2)) 35 7 ((tms μ1 35 6 (μ1 k1 2)) k2 2)) 35 8 (0 : Int32)) 35 9 (-1 : Int32)) (0 : Int32) (0 : Int32) (-1 : Int32) (-1 : Int32) (fun (μ2 : TMem) => ∃ n2x, wpl_X4_meet_45 k1 k2 a3 a4 Q n2x (0 : Int32) μ2))
  refine z_X6_fill 46 rfl μ (-1 : Int32) (by decide) (fun μ1 hf110 => ?_)
  refine z_X4_add (tms (tms (tms (tms μ1 35 6 (μ1 k1 2)) 35 7 ((tms μ1 35 6 (μ1 k1 2)) k2 2)) 35 8 (0 : Int32)) 35 9 (-1 : Int32)) (0 : Int32) (0 : Int32) (-1 : Int32) (-1 : Int32) ⟨by decide, by decide⟩ (fun μ2 hf111 => ?_)
  refine ⟨_, zl_wpl_X4_meet_45 μ2 k1 hk1 k2 hk2 a3 a4 (fun r9 μ9 b9 f9 => h r9 μ9 b9 (Zr.trans (Zr.trans (Zr.st (Zr.st (Zr.st (Zr.st (Zr.trans (Zr.rf) (Zr.up (by decide) hf110)) (by rw [show kd 35 = 4 from rfl] <;> rfl) (Or.inl (ne43 (K := 4) rfl (by decide)))) (by rw [show kd 35 = 4 from rfl] <;> rfl) (Or.inl (ne43 (K := 4) rfl (by decide)))) (by rw [show kd 35 = 4 from rfl] <;> rfl) (Or.inl (ne43 (K := 4) rfl (by decide)))) (by rw [show kd 35 = 4 from rfl] <;> rfl) (Or.inl (ne43 (K := 4) rfl (by decide)))) (Zr.up (by decide) hf111)) (Zr.up (by decide) f9))) _ (0 : Int32) μ2 (Nat.lt_succ_self _) (by first | decide | omega) Zr.rf⟩
set_option maxHeartbeats 2000000 in
theorem z_X9_meetPairs (k1 : Nat) (hk1 : kd k1 = 2) (k2 : Nat) (hk2 : kd k2 = 2) (μ : TMem) (a3 : Int32) (a4 : Int32) {Q : Int32 → TMem → Prop} (h : ∀ (r : Int32) (μ9 : TMem), isB r → Zr 2 μ μ9 → Q r μ9) : wp_X9_meetPairs k1 k2 μ a3 a4 Q := by
  show wp_X3_makeOneWay k1 51 μ (fun (r2 : Int32) (μ1 : TMem) => (r2 = 0 → (Q (0 : Int32) μ1)) ∧ (¬ r2 = 0 → (wp_X3_makeOneWay k2 53 μ1 (fun (r5 : Int32) (μ4 : TMem) => (r5 = 0 → (Q (0 : Int32) μ4)) ∧ (¬ r5 = 0 → (wp_X4_meet 51 53 μ4 a3 a4 (fun (r8 : Int32) (μ7 : TMem) => (r8 = 0 → (Q (0 : Int32) μ7)) ∧ (¬ r8 = 0 → (Q (1 : Int32) μ7)))))))))
  refine z_X3_makeOneWay k1 hk1 51 rfl μ (fun r2 μ1 b112 hf113 => ?_)
  refine ⟨fun c114 => ?_, fun c115 => ?_⟩
  · exact h _ _ (by first | assumption | exact Or.inl rfl | exact Or.inr rfl | exact isB_or (by assumption) (by first | assumption | exact Or.inl rfl | exact Or.inr rfl)) (Zr.trans (Zr.rf) (Zr.up (by decide) hf113))
  · refine z_X3_makeOneWay k2 hk2 53 rfl μ1 (fun r5 μ4 b116 hf117 => ?_)
    refine ⟨fun c118 => ?_, fun c119 => ?_⟩
    · exact h _ _ (by first | assumption | exact Or.inl rfl | exact Or.inr rfl | exact isB_or (by assumption) (by first | assumption | exact Or.inl rfl | exact Or.inr rfl)) (Zr.trans (Zr.trans (Zr.rf) (Zr.up (by decide) hf113)) (Zr.up (by decide) hf117))
    · refine z_X4_meet 51 rfl 53 rfl μ4 a3 a4 (fun r8 μ7 b120 hf121 => ?_)
      refine ⟨fun c122 => ?_, fun c123 => ?_⟩
      · exact h _ _ (by first | assumption | exact Or.inl rfl | exact Or.inr rfl | exact isB_or (by assumption) (by first | assumption | exact Or.inl rfl | exact Or.inr rfl)) (Zr.trans (Zr.trans (Zr.trans (Zr.rf) (Zr.up (by decide) hf113)) (Zr.up (by decide) hf117)) (Zr.up (by decide) hf121))
      · exact h _ _ (by first | assumption | exact Or.inl rfl | exact Or.inr rfl | exact isB_or (by assumption) (by first | assumption | exact Or.inl rfl | exact Or.inr rfl)) (Zr.trans (Zr.trans (Zr.trans (Zr.rf) (Zr.up (by decide) hf113)) (Zr.up (by decide) hf117)) (Zr.up (by decide) hf121))
set_option maxHeartbeats 2000000 in
theorem zl_wpl_X5_becomePairs_44 (μ0 : TMem) (k0 : Nat) (hk0 : kd k0 = 5) (v12 : Int32) (v13 : Int32) {K70 : TMem → Prop} (hK70 : ∀ (u0 : TMem), Zr 0 μ0 u0 → K70 u0) : ∀ (n : Nat) (v11 : Int32) (μ14 : TMem), (((3 : Int32)).toInt - (v11).toInt).toNat < n → 0 ≤ (v11).toInt → Zr 0 μ0 μ14 → wpl_X5_becomePairs_44 k0 v12 v13 K70 n v11 μ14 := by
  intro n
  induction n with
  | zero => intro v11 μ14 hm; exact absurd hm (Nat.not_lt_zero _)
  | succ n ih =>
    intro v11 μ14 hm hi hF
    show ((3 : Int32) ≤ v11 → (K70 μ14)) ∧ (¬ (3 : Int32) ≤ v11 → (wp_X4_target μ14 v12 v11 (fun (r16 : Int32) => wp_X7_put k0 μ14 v12 v11 r16 (fun (μ19 : TMem) => wpl_X5_becomePairs_44 k0 v12 v13 K70 n (v11 + (1 : Int32)) μ19))))
    refine ⟨fun c_ex => ?_, fun c_in => ?_⟩
    · exact hK70 μ14 hF
    have c_lt : ¬ ((3 : Int32)) ≤ v11 := c_in
    refine f_X4_target μ14 v12 v11 (fun r16 => ?_)
    refine z_X7_put k0 ⟨Or.inr hk0, kd5' hk0⟩ μ14 v12 v11 r16 (fun μ19 hf124 => ?_)
    exact ih (v11 + (1 : Int32)) μ19 (lt_m c_lt (by omega)) (lt_p (by assumption) c_lt) (Zr.trans hF (Zr.up (by decide) hf124))
set_option maxHeartbeats 2000000 in
theorem zl_wpl_X5_becomePairs_15 (μ0 : TMem) (k0 : Nat) (hk0 : kd k0 = 5) (v3 : Int32) {Q : TMem → Prop} (h : ∀ μ9 : TMem, Zr 1 μ0 μ9 → Q μ9) : ∀ (n : Nat) (v2 : Int32) (μ4 : TMem), (((μ0 k0 1)).toInt - (v2).toInt).toNat < n → 0 ≤ (v2).toInt → Zr 1 μ0 μ4 → wpl_X5_becomePairs_15 k0 v3 Q n v2 μ4 := by
  intro n
  induction n with
  | zero => intro v2 μ4 hm; exact absurd hm (Nat.not_lt_zero _)
  | succ n ih =>
    intro v2 μ4 hm hi hF
    show ((μ4 k0 1) ≤ v2 → (Q μ4)) ∧ (¬ (μ4 k0 1) ≤ v2 → (wp_X4_isGoal μ4 v2 v3 (fun (r6 : Int32) => wp_X9_withOrWithout (μ4 k0 2) v2 r6 (fun (r9 : Int32) => ∃ n9x, wpl_X5_becomePairs_44 k0 v2 v3 (fun (μ21 : TMem) => wpl_X5_becomePairs_15 k0 v3 Q n (v2 + (1 : Int32)) μ21) n9x (0 : Int32) (tms μ4 k0 2 r9)))))
    refine ⟨fun c_ex => ?_, fun c_in => ?_⟩
    · exact h _ hF
    have e_k0_1 : μ4 k0 1 = μ0 k0 1 := hF.1.1 k0 1 (by rw [show kd k0 = 5 from hk0] <;> rfl)
    have c_lt : ¬ ((μ0 k0 1)) ≤ v2 := by
      rw [e_k0_1] at c_in
      exact c_in
    refine f_X4_isGoal μ4 v2 v3 (fun r6 b125 => ?_)
    refine f_X9_withOrWithout (μ4 k0 2) v2 r6 (fun r9 => ?_)
    refine ⟨_, zl_wpl_X5_becomePairs_44 (tms μ4 k0 2 r9) k0 hk0 v2 v3 ?_ _ (0 : Int32) (tms μ4 k0 2 r9) (Nat.lt_succ_self _) (by first | decide | omega) Zr.rf⟩
    · intro μ21 hf126
      exact ih (v2 + (1 : Int32)) μ21 (lt_m c_lt (by omega)) (lt_p (by assumption) c_lt) (Zr.trans (Zr.st hF (by rw [show kd k0 = 5 from hk0] <;> rfl) (Or.inl (ne43 (K := 5) hk0 (by decide)))) (Zr.up (by decide) hf126))
set_option maxHeartbeats 2000000 in
theorem z_X5_becomePairs (k0 : Nat) (hk0 : kd k0 = 5) (μ : TMem) (a2 : Int32) {Q : TMem → Prop} (h : ∀ μ9 : TMem, Zr 2 μ μ9 → Q μ9) : wp_X5_becomePairs k0 μ a2 Q := by
  show ∃ n0x, wpl_X5_becomePairs_15 k0 a2 Q n0x (0 : Int32) (tms (tms μ k0 1 (μ 35 8)) k0 2 (0 : Int32))
  refine ⟨_, zl_wpl_X5_becomePairs_15 (tms (tms μ k0 1 (μ 35 8)) k0 2 (0 : Int32)) k0 hk0 a2 (fun μ9 f9 => h μ9 (Zr.trans (Zr.st (Zr.st (Zr.rf) (by rw [show kd k0 = 5 from hk0] <;> rfl) (Or.inl (ne43 (K := 5) hk0 (by decide)))) (by rw [show kd k0 = 5 from hk0] <;> rfl) (Or.inl (ne43 (K := 5) hk0 (by decide)))) (Zr.up (by decide) f9))) _ (0 : Int32) (tms (tms μ k0 1 (μ 35 8)) k0 2 (0 : Int32)) (Nat.lt_succ_self _) (by first | decide | omega) Zr.rf⟩
set_option maxHeartbeats 2000000 in
theorem zl_wpl_X1_partOnce_2 (μ0 : TMem) (k1 : Nat) (hk1 : kd k1 = 5) {K30 : TMem → Prop} (hK30 : ∀ (u0 : TMem), Zr 0 μ0 u0 → K30 u0) : ∀ (n : Nat) (v2 : Int32) (μ3 : TMem), (((μ0 k1 1)).toInt - (v2).toInt).toNat < n → 0 ≤ (v2).toInt → Zr 0 μ0 μ3 → wpl_X1_partOnce_2 k1 K30 n v2 μ3 := by
  intro n
  induction n with
  | zero => intro v2 μ3 hm; exact absurd hm (Nat.not_lt_zero _)
  | succ n ih =>
    intro v2 μ3 hm hi hF
    show ((μ3 k1 1) ≤ v2 → (K30 μ3)) ∧ (¬ (μ3 k1 1) ≤ v2 → (wp_X1_codeOf k1 μ3 v2 (fun (r5 : Int32) => wp_X6_put 25 μ3 v2 r5 (fun (μ8 : TMem) => wpl_X1_partOnce_2 k1 K30 n (v2 + (1 : Int32)) μ8))))
    refine ⟨fun c_ex => ?_, fun c_in => ?_⟩
    · exact hK30 μ3 hF
    have e_k1_1 : μ3 k1 1 = μ0 k1 1 := hF.1.1 k1 1 (by rw [show kd k1 = 5 from hk1] <;> rfl)
    have c_lt : ¬ ((μ0 k1 1)) ≤ v2 := by
      rw [e_k1_1] at c_in
      exact c_in
    refine f_X1_codeOf k1 hk1 μ3 v2 (fun r5 => ?_)
    refine z_X6_put 25 rfl μ3 v2 r5 (Or.inl (by decide)) (fun μ8 hf132 => ?_)
    exact ih (v2 + (1 : Int32)) μ8 (lt_m c_lt (by omega)) (lt_p (by assumption) c_lt) (Zr.trans hF (Zr.up (by decide) hf132))
set_option maxHeartbeats 2000000 in
theorem zl_wpl_X1_partOnce_34 (μ0 : TMem) (k1 : Nat) (hk1 : kd k1 = 5) {Q : Int32 → TMem → Prop} (h : ∀ (r : Int32) (μ9 : TMem), isB r → Zr 0 μ0 μ9 → Q r μ9) : ∀ (n : Nat) (v12 : Int32) (v13 : Int32) (μ14 : TMem), (((μ0 k1 1)).toInt - (v12).toInt).toNat < n → 0 ≤ (v12).toInt → isB v13 → Zr 0 μ0 μ14 → wpl_X1_partOnce_34 k1 Q n v12 v13 μ14 := by
  intro n
  induction n with
  | zero => intro v12 v13 μ14 hm; exact absurd hm (Nat.not_lt_zero _)
  | succ n ih =>
    intro v12 v13 μ14 hm hi bv13 hF
    show ((μ14 k1 1) ≤ v12 → (isB v13 ∧ Q v13 μ14)) ∧ (¬ (μ14 k1 1) ≤ v12 → (wp_X6_at 25 μ14 v12 (fun (r17 : Int32) => wp_X6_find 25 μ14 r17 (μ14 k1 1) (fun (r20 : Int32) => wp_X6_at 23 μ14 v12 (fun (r23 : Int32) => ∀ J26 : Int32 → Prop, (∀ (j27 : Int32), (wp_X6_put 23 μ14 v12 r20 (fun (μ28 : TMem) => wpl_X1_partOnce_34 k1 Q n (v12 + (1 : Int32)) (v13 ||| j27) μ28)) → J26 j27) → ((r20 = r23 → (J26 (0 : Int32))) ∧ (¬ r20 = r23 → (J26 (1 : Int32)))))))))
    refine ⟨fun c_ex => ?_, fun c_in => ?_⟩
    · refine ⟨(by first | assumption | exact Or.inl rfl | exact Or.inr rfl | exact isB_or (by assumption) (by first | assumption | exact Or.inl rfl | exact Or.inr rfl)), ?_⟩
      exact h _ _ (by first | assumption | exact Or.inl rfl | exact Or.inr rfl | exact isB_or (by assumption) (by first | assumption | exact Or.inl rfl | exact Or.inr rfl)) hF
    have e_k1_1 : μ14 k1 1 = μ0 k1 1 := hF.1.1 k1 1 (by rw [show kd k1 = 5 from hk1] <;> rfl)
    have c_lt : ¬ ((μ0 k1 1)) ≤ v12 := by
      rw [e_k1_1] at c_in
      exact c_in
    refine f_X6_at 25 rfl μ14 v12 (fun r17 => ?_)
    refine f_X6_find 25 rfl μ14 r17 (μ14 k1 1) (fun r20 => ?_)
    refine f_X6_at 23 rfl μ14 v12 (fun r23 => ?_)
    intro J26 hJ26
    refine ⟨fun c133 => ?_, fun c134 => ?_⟩
    · refine hJ26 (0 : Int32) ?_
      refine z_X6_put 23 rfl μ14 v12 r20 (Or.inl (by decide)) (fun μ28 hf135 => ?_)
      exact ih (v12 + (1 : Int32)) (v13 ||| (0 : Int32)) μ28 (lt_m c_lt (by omega)) (lt_p (by assumption) c_lt) (by first | assumption | exact Or.inl rfl | exact Or.inr rfl | exact isB_or (by assumption) (by first | assumption | exact Or.inl rfl | exact Or.inr rfl)) (Zr.trans hF (Zr.up (by decide) hf135))
    · refine hJ26 (1 : Int32) ?_
      refine z_X6_put 23 rfl μ14 v12 r20 (Or.inl (by decide)) (fun μ28 hf136 => ?_)
      exact ih (v12 + (1 : Int32)) (v13 ||| (1 : Int32)) μ28 (lt_m c_lt (by omega)) (lt_p (by assumption) c_lt) (by first | assumption | exact Or.inl rfl | exact Or.inr rfl | exact isB_or (by assumption) (by first | assumption | exact Or.inl rfl | exact Or.inr rfl)) (Zr.trans hF (Zr.up (by decide) hf136))
set_option maxHeartbeats 2000000 in
theorem z_X1_partOnce (k1 : Nat) (hk1 : kd k1 = 5) (μ : TMem)  {Q : Int32 → TMem → Prop} (h : ∀ (r : Int32) (μ9 : TMem), isB r → Zr 0 μ μ9 → Q r μ9) : wp_X1_partOnce k1 μ Q := by
  show ∃ n0x, wpl_X1_partOnce_2 k1 (fun (μ10 : TMem) => ∃ n10x, wpl_X1_partOnce_34 k1 Q n10x (0 : Int32) (0 : Int32) μ10) n0x (0 : Int32) μ
  refine ⟨_, zl_wpl_X1_partOnce_2 μ k1 hk1 ?_ _ (0 : Int32) μ (Nat.lt_succ_self _) (by first | decide | omega) Zr.rf⟩
  · intro μ10 hf137
    refine ⟨_, zl_wpl_X1_partOnce_34 μ10 k1 hk1 (fun r9 μ9 b9 f9 => h r9 μ9 b9 (Zr.trans (Zr.trans (Zr.rf) (Zr.up (by decide) hf137)) (Zr.up (by decide) f9))) _ (0 : Int32) (0 : Int32) μ10 (Nat.lt_succ_self _) (by first | decide | omega) (by first | assumption | exact Or.inl rfl | exact Or.inr rfl | exact isB_or (by assumption) (by first | assumption | exact Or.inl rfl | exact Or.inr rfl)) Zr.rf⟩
set_option maxHeartbeats 2000000 in
theorem zl_wpl_X1_findByParting_2 (μ0 : TMem) (k1 : Nat) (hk1 : kd k1 = 5) {K29 : TMem → Prop} (hK29 : ∀ (u0 : TMem), Zr 0 μ0 u0 → K29 u0) : ∀ (n : Nat) (v2 : Int32) (μ3 : TMem), (((μ0 k1 1)).toInt - (v2).toInt).toNat < n → 0 ≤ (v2).toInt → Zr 0 μ0 μ3 → wpl_X1_findByParting_2 k1 K29 n v2 μ3 := by
  intro n
  induction n with
  | zero => intro v2 μ3 hm; exact absurd hm (Nat.not_lt_zero _)
  | succ n ih =>
    intro v2 μ3 hm hi hF
    show ((μ3 k1 1) ≤ v2 → (K29 μ3)) ∧ (¬ (μ3 k1 1) ≤ v2 → (wp_X1_firstOfGoalness k1 μ3 v2 (fun (r5 : Int32) => wp_X6_put 23 μ3 v2 r5 (fun (μ8 : TMem) => wpl_X1_findByParting_2 k1 K29 n (v2 + (1 : Int32)) μ8))))
    refine ⟨fun c_ex => ?_, fun c_in => ?_⟩
    · exact hK29 μ3 hF
    have e_k1_1 : μ3 k1 1 = μ0 k1 1 := hF.1.1 k1 1 (by rw [show kd k1 = 5 from hk1] <;> rfl)
    have c_lt : ¬ ((μ0 k1 1)) ≤ v2 := by
      rw [e_k1_1] at c_in
      exact c_in
    refine f_X1_firstOfGoalness k1 hk1 μ3 v2 (fun r5 => ?_)
    refine z_X6_put 23 rfl μ3 v2 r5 (Or.inl (by decide)) (fun μ8 hf138 => ?_)
    exact ih (v2 + (1 : Int32)) μ8 (lt_m c_lt (by omega)) (lt_p (by assumption) c_lt) (Zr.trans hF (Zr.up (by decide) hf138))
set_option maxHeartbeats 2000000 in
theorem zl_wpl_X1_findByParting_33 (μ0 : TMem) (k1 : Nat) (hk1 : kd k1 = 5) {Q : TMem → Prop} (h : ∀ μ9 : TMem, Zr 0 μ0 μ9 → Q μ9) : ∀ (n : Nat) (v12 : Int32) (v13 : Int32) (μ14 : TMem), (((32 : Int32)).toInt - (v12).toInt).toNat < n → 0 ≤ (v12).toInt → Zr 0 μ0 μ14 → wpl_X1_findByParting_33 k1 Q n v12 v13 μ14 := by
  intro n
  induction n with
  | zero => intro v12 v13 μ14 hm; exact absurd hm (Nat.not_lt_zero _)
  | succ n ih =>
    intro v12 v13 μ14 hm hi hF
    show ((32 : Int32) ≤ v12 → (Q μ14)) ∧ (¬ (32 : Int32) ≤ v12 → ((v13 = 0 → (Q μ14)) ∧ (¬ v13 = 0 → (wp_X1_partOnce k1 μ14 (fun (r18 : Int32) (μ17 : TMem) => wpl_X1_findByParting_33 k1 Q n (v12 + (1 : Int32)) r18 μ17)))))
    refine ⟨fun c_ex => ?_, fun c_in => ?_⟩
    · exact h _ hF
    have c_lt : ¬ ((32 : Int32)) ≤ v12 := c_in
    refine ⟨fun c139 => ?_, fun c140 => ?_⟩
    · exact h _ hF
    · refine z_X1_partOnce k1 hk1 μ14 (fun r18 μ17 b141 hf142 => ?_)
      exact ih (v12 + (1 : Int32)) r18 μ17 (lt_m c_lt (by omega)) (lt_p (by assumption) c_lt) (Zr.trans hF (Zr.up (by decide) hf142))
set_option maxHeartbeats 2000000 in
theorem z_X1_findByParting (k1 : Nat) (hk1 : kd k1 = 5) (μ : TMem)  {Q : TMem → Prop} (h : ∀ μ9 : TMem, Zr 0 μ μ9 → Q μ9) : wp_X1_findByParting k1 μ Q := by
  show ∃ n0x, wpl_X1_findByParting_2 k1 (fun (μ10 : TMem) => ∃ n10x, wpl_X1_findByParting_33 k1 Q n10x (0 : Int32) (1 : Int32) μ10) n0x (0 : Int32) μ
  refine ⟨_, zl_wpl_X1_findByParting_2 μ k1 hk1 ?_ _ (0 : Int32) μ (Nat.lt_succ_self _) (by first | decide | omega) Zr.rf⟩
  · intro μ10 hf143
    refine ⟨_, zl_wpl_X1_findByParting_33 μ10 k1 hk1 (fun μ9 f9 => h μ9 (Zr.trans (Zr.trans (Zr.rf) (Zr.up (by decide) hf143)) (Zr.up (by decide) f9))) _ (0 : Int32) (1 : Int32) μ10 (Nat.lt_succ_self _) (by first | decide | omega) Zr.rf⟩
set_option maxHeartbeats 2000000 in
theorem z_X3_groupNumber (k2 : Nat) (hk2 : kd k2 = 5) (μ : TMem) (a1 : Int32) {Q : Int32 → TMem → Prop} (h : ∀ (r : Int32) (μ9 : TMem), Zr 2 μ μ9 → Q r μ9) : wp_X3_groupNumber k2 μ a1 Q := by
  show wp_X1_partOf μ a1 (fun (r1 : Int32) => wp_X6_at 20 μ r1 (fun (r4 : Int32) => ∀ J7 : TMem → Prop, (∀ (μ8 : TMem), (wp_X6_at 20 μ8 r1 (fun (r9 : Int32) => Q r9 μ8)) → J7 μ8) → ((¬ r4 = (-1 : Int32) → (wp_X6_at 20 μ r1 (fun (r13 : Int32) => Q r13 μ))) ∧ (r4 = (-1 : Int32) → (wp_X6_put 20 μ r1 (μ k2 1) (fun (μ16 : TMem) => wp_X6_put 18 μ16 (μ16 k2 1) a1 (fun (μ17 : TMem) => J7 (tms μ17 k2 1 ((μ17 k2 1) + (1 : Int32))))))))))
  refine f_X1_partOf μ a1 (fun r1 => ?_)
  refine f_X6_at 20 rfl μ r1 (fun r4 => ?_)
  intro J7 hJ7
  refine ⟨fun c144 => ?_, fun c145 => ?_⟩
  · refine f_X6_at 20 rfl μ r1 (fun r13 => ?_)
    exact h _ _ (Zr.rf)
  · refine z_X6_put 20 rfl μ r1 (μ k2 1) (Or.inl (by decide)) (fun μ16 hf146 => ?_)
    refine z_X6_put 18 rfl μ16 (μ16 k2 1) a1 (Or.inl (by decide)) (fun μ17 hf147 => ?_)
    refine hJ7 (tms μ17 k2 1 ((μ17 k2 1) + (1 : Int32))) ?_
    refine f_X6_at 20 rfl (tms μ17 k2 1 ((μ17 k2 1) + (1 : Int32))) r1 (fun r9 => ?_)
    exact h _ _ (Zr.st (Zr.trans (Zr.trans (Zr.rf) (Zr.up (by decide) hf146)) (Zr.up (by decide) hf147)) (by rw [show kd k2 = 5 from hk2] <;> rfl) (Or.inl (ne43 (K := 5) hk2 (by decide))))
set_option maxHeartbeats 2000000 in
theorem zl_wpl_X3_makeGroups_90 (μ0 : TMem) (k1 : Nat) (hk1 : kd k1 = 5) (k2 : Nat) (hk2 : kd k2 = 5) (v21 : Int32) (v22 : Int32) {K122 : TMem → Prop} (hK122 : ∀ (u0 : TMem), Zr 2 μ0 u0 → K122 u0) : ∀ (n : Nat) (v20 : Int32) (μ23 : TMem), (((3 : Int32)).toInt - (v20).toInt).toNat < n → 0 ≤ (v20).toInt → Zr 2 μ0 μ23 → wpl_X3_makeGroups_90 k1 k2 v21 v22 K122 n v20 μ23 := by
  intro n
  induction n with
  | zero => intro v20 μ23 hm; exact absurd hm (Nat.not_lt_zero _)
  | succ n ih =>
    intro v20 μ23 hm hi hF
    show ((3 : Int32) ≤ v20 → (K122 μ23)) ∧ (¬ (3 : Int32) ≤ v20 → (wp_X7_at k1 μ23 v21 v20 (fun (r25 : Int32) => wp_X3_groupNumber k2 μ23 r25 (fun (r29 : Int32) (μ28 : TMem) => wp_X7_put k2 μ28 v22 v20 r29 (fun (μ30 : TMem) => wpl_X3_makeGroups_90 k1 k2 v21 v22 K122 n (v20 + (1 : Int32)) μ30)))))
    refine ⟨fun c_ex => ?_, fun c_in => ?_⟩
    · exact hK122 μ23 hF
    have c_lt : ¬ ((3 : Int32)) ≤ v20 := c_in
    refine f_X7_at k1 (Or.inr hk1) μ23 v21 v20 (fun r25 => ?_)
    refine z_X3_groupNumber k2 hk2 μ23 r25 (fun r29 μ28 hf148 => ?_)
    refine z_X7_put k2 ⟨Or.inr hk2, kd5' hk2⟩ μ28 v22 v20 r29 (fun μ30 hf149 => ?_)
    exact ih (v20 + (1 : Int32)) μ30 (lt_m c_lt (by omega)) (lt_p (by assumption) c_lt) (Zr.trans (Zr.trans hF (Zr.up (by decide) hf148)) (Zr.up (by decide) hf149))
set_option maxHeartbeats 2000000 in
theorem zl_wpl_X3_makeGroups_45 (μ0 : TMem) (k1 : Nat) (hk1 : kd k1 = 5) (k2 : Nat) (hk2 : kd k2 = 5) {Q : TMem → Prop} (h : ∀ μ9 : TMem, Zr 2 μ0 μ9 → Q μ9) : ∀ (n : Nat) (v8 : Int32) (μ9 : TMem), (((32 : Int32)).toInt - (v8).toInt).toNat < n → 0 ≤ (v8).toInt → Zr 2 μ0 μ9 → wpl_X3_makeGroups_45 k1 k2 Q n v8 μ9 := by
  intro n
  induction n with
  | zero => intro v8 μ9 hm; exact absurd hm (Nat.not_lt_zero _)
  | succ n ih =>
    intro v8 μ9 hm hi hF
    show ((32 : Int32) ≤ v8 → (Q μ9)) ∧ (¬ (32 : Int32) ≤ v8 → (((μ9 k2 1) ≤ v8 → (Q μ9)) ∧ (¬ (μ9 k2 1) ≤ v8 → (wp_X6_at 18 μ9 v8 (fun (r12 : Int32) => wp_X5_isGoal k1 μ9 r12 (fun (r15 : Int32) => wp_X9_withOrWithout (μ9 k2 2) v8 r15 (fun (r18 : Int32) => ∃ n18x, wpl_X3_makeGroups_90 k1 k2 r12 v8 (fun (μ32 : TMem) => wpl_X3_makeGroups_45 k1 k2 Q n (v8 + (1 : Int32)) μ32) n18x (0 : Int32) (tms μ9 k2 2 r18))))))))
    refine ⟨fun c_ex => ?_, fun c_in => ?_⟩
    · exact h _ hF
    have c_lt : ¬ ((32 : Int32)) ≤ v8 := c_in
    refine ⟨fun c150 => ?_, fun c151 => ?_⟩
    · exact h _ hF
    · refine f_X6_at 18 rfl μ9 v8 (fun r12 => ?_)
      refine f_X5_isGoal k1 hk1 μ9 r12 (fun r15 b152 => ?_)
      refine f_X9_withOrWithout (μ9 k2 2) v8 r15 (fun r18 => ?_)
      refine ⟨_, zl_wpl_X3_makeGroups_90 (tms μ9 k2 2 r18) k1 hk1 k2 hk2 r12 v8 ?_ _ (0 : Int32) (tms μ9 k2 2 r18) (Nat.lt_succ_self _) (by first | decide | omega) Zr.rf⟩
      · intro μ32 hf153
        exact ih (v8 + (1 : Int32)) μ32 (lt_m c_lt (by omega)) (lt_p (by assumption) c_lt) (Zr.trans (Zr.st hF (by rw [show kd k2 = 5 from hk2] <;> rfl) (Or.inl (ne43 (K := 5) hk2 (by decide)))) (Zr.up (by decide) hf153))
set_option maxHeartbeats 2000000 in
theorem z_X3_makeGroups (k1 : Nat) (hk1 : kd k1 = 5) (k2 : Nat) (hk2 : kd k2 = 5) (μ : TMem)  {Q : TMem → Prop} (h : ∀ μ9 : TMem, Zr 2 μ μ9 → Q μ9) : wp_X3_makeGroups k1 k2 μ Q := by
  show wp_X6_fill 20 μ (-1 : Int32) (fun (μ1 : TMem) => wp_X1_partOf μ1 (0 : Int32) (fun (r2 : Int32) => wp_X6_put 20 μ1 r2 (0 : Int32) (fun (μ5 : TMem) => wp_X6_put 18 μ5 (0 : Int32) (0 : Int32) (fun (μ6 : TMem) => ∃ n6x, wpl_X3_makeGroups_45 k1 k2 Q n6x (0 : Int32) (tms (tms μ6 k2 1 (1 : Int32)) k2 2 (0 : Int32))))))
  refine z_X6_fill 20 rfl μ (-1 : Int32) (by decide) (fun μ1 hf154 => ?_)
  refine f_X1_partOf μ1 (0 : Int32) (fun r2 => ?_)
  refine z_X6_put 20 rfl μ1 r2 (0 : Int32) (Or.inl (by decide)) (fun μ5 hf155 => ?_)
  refine z_X6_put 18 rfl μ5 (0 : Int32) (0 : Int32) (Or.inl (by decide)) (fun μ6 hf156 => ?_)
  refine ⟨_, zl_wpl_X3_makeGroups_45 (tms (tms μ6 k2 1 (1 : Int32)) k2 2 (0 : Int32)) k1 hk1 k2 hk2 (fun μ9 f9 => h μ9 (Zr.trans (Zr.st (Zr.st (Zr.trans (Zr.trans (Zr.trans (Zr.rf) (Zr.up (by decide) hf154)) (Zr.up (by decide) hf155)) (Zr.up (by decide) hf156)) (by rw [show kd k2 = 5 from hk2] <;> rfl) (Or.inl (ne43 (K := 5) hk2 (by decide)))) (by rw [show kd k2 = 5 from hk2] <;> rfl) (Or.inl (ne43 (K := 5) hk2 (by decide)))) (Zr.up (by decide) f9))) _ (0 : Int32) (tms (tms μ6 k2 1 (1 : Int32)) k2 2 (0 : Int32)) (Nat.lt_succ_self _) (by first | decide | omega) Zr.rf⟩
set_option maxHeartbeats 2000000 in
theorem z_X3_lessen (k1 : Nat) (hk1 : kd k1 = 5) (k2 : Nat) (hk2 : kd k2 = 5) (μ : TMem)  {Q : TMem → Prop} (h : ∀ μ9 : TMem, Zr 2 μ μ9 → Q μ9) : wp_X3_lessen k1 k2 μ Q := by
  show wp_X1_findByParting k1 μ (fun (μ1 : TMem) => wp_X3_makeGroups k1 k2 μ1 (fun (μ2 : TMem) => Q μ2))
  refine z_X1_findByParting k1 hk1 μ (fun μ1 hf157 => ?_)
  refine z_X3_makeGroups k1 hk1 k2 hk2 μ1 (fun μ2 hf158 => ?_)
  exact h _ (Zr.trans (Zr.trans (Zr.rf) (Zr.up (by decide) hf157)) (Zr.up (by decide) hf158))
set_option maxHeartbeats 2000000 in
theorem z_X9_putTogether (k1 : Nat) (hk1 : kd k1 = 2) (k2 : Nat) (hk2 : kd k2 = 2) (μ : TMem) (a3 : Int32) {Q : Int32 → TMem → Prop} (h : ∀ (r : Int32) (μ9 : TMem), isB r → Zr 2 μ μ9 → Q r μ9) : wp_X9_putTogether k1 k2 μ a3 Q := by
  show wp_X9_meetPairs k1 k2 μ (32 : Int32) (1 : Int32) (fun (r2 : Int32) (μ1 : TMem) => (¬ r2 = 0 → (wp_X5_becomePairs 55 μ1 a3 (fun (μ4 : TMem) => wp_X3_lessen 55 57 μ4 (fun (μ5 : TMem) => Q (1 : Int32) μ5)))) ∧ (r2 = 0 → (Q (0 : Int32) μ1)))
  refine z_X9_meetPairs k1 hk1 k2 hk2 μ (32 : Int32) (1 : Int32) (fun r2 μ1 b159 hf160 => ?_)
  refine ⟨fun c161 => ?_, fun c162 => ?_⟩
  · refine z_X5_becomePairs 55 rfl μ1 a3 (fun μ4 hf163 => ?_)
    refine z_X3_lessen 55 rfl 57 rfl μ4 (fun μ5 hf164 => ?_)
    exact h _ _ (by first | assumption | exact Or.inl rfl | exact Or.inr rfl | exact isB_or (by assumption) (by first | assumption | exact Or.inl rfl | exact Or.inr rfl)) (Zr.trans (Zr.trans (Zr.trans (Zr.rf) (Zr.up (by decide) hf160)) (Zr.up (by decide) hf163)) (Zr.up (by decide) hf164))
  · exact h _ _ (by first | assumption | exact Or.inl rfl | exact Or.inr rfl | exact isB_or (by assumption) (by first | assumption | exact Or.inl rfl | exact Or.inr rfl)) (Zr.trans (Zr.rf) (Zr.up (by decide) hf160))
set_option maxHeartbeats 2000000 in
theorem zl_wpl_X1_tellFurther_15 (μ0 : TMem) (k1 : Nat) (hk1 : kd k1 = 5) (v9 : Int32) {K99 : Int32 → TMem → Prop} (hK99 : ∀ (u0 : Int32) (u1 : TMem), isB u0 → Zr 0 μ0 u1 → K99 u0 u1) : ∀ (n : Nat) (v8 : Int32) (v10 : Int32) (μ11 : TMem), ((v9).toInt - (v8).toInt).toNat < n → 0 ≤ (v8).toInt → isB v10 → Zr 0 μ0 μ11 → wpl_X1_tellFurther_15 k1 v9 K99 n v8 v10 μ11 := by
  intro n
  induction n with
  | zero => intro v8 v10 μ11 hm; exact absurd hm (Nat.not_lt_zero _)
  | succ n ih =>
    intro v8 v10 μ11 hm hi bv10 hF
    show (v9 ≤ v8 → (K99 v10 μ11)) ∧ (¬ v9 ≤ v8 → (wp_X6_at 27 μ11 v9 (fun (r13 : Int32) => wp_X9_isIn r13 v8 (fun (r16 : Int32) => (¬ r16 = 0 → (wpl_X1_tellFurther_15 k1 v9 K99 n (v8 + (1 : Int32)) v10 μ11)) ∧ (r16 = 0 → (wp_X1_isLeadingToUnlike k1 μ11 v9 v8 (fun (r18 : Int32) => (r18 = 0 → (wpl_X1_tellFurther_15 k1 v9 K99 n (v8 + (1 : Int32)) v10 μ11)) ∧ (¬ r18 = 0 → (wp_X6_at 27 μ11 v9 (fun (r22 : Int32) => wp_X6_put 27 μ11 v9 (r22 ||| ((1 : Int32) <<< (v8 &&& 31))) (fun (μ25 : TMem) => wp_X6_at 27 μ25 v8 (fun (r26 : Int32) => wp_X6_put 27 μ25 v8 (r26 ||| ((1 : Int32) <<< (v9 &&& 31))) (fun (μ29 : TMem) => wpl_X1_tellFurther_15 k1 v9 K99 n (v8 + (1 : Int32)) (1 : Int32) μ29)))))))))))))
    refine ⟨fun c_ex => ?_, fun c_in => ?_⟩
    · exact hK99 v10 μ11 (by first | assumption | exact Or.inl rfl | exact Or.inr rfl | exact isB_or (by assumption) (by first | assumption | exact Or.inl rfl | exact Or.inr rfl)) hF
    have c_lt : ¬ (v9) ≤ v8 := c_in
    refine f_X6_at 27 rfl μ11 v9 (fun r13 => ?_)
    refine f_X9_isIn r13 v8 (fun r16 b185 => ?_)
    refine ⟨fun c186 => ?_, fun c187 => ?_⟩
    · exact ih (v8 + (1 : Int32)) v10 μ11 (lt_m c_lt (by omega)) (lt_p (by assumption) c_lt) (by first | assumption | exact Or.inl rfl | exact Or.inr rfl | exact isB_or (by assumption) (by first | assumption | exact Or.inl rfl | exact Or.inr rfl)) hF
    · refine f_X1_isLeadingToUnlike k1 hk1 μ11 v9 v8 (fun r18 b188 => ?_)
      refine ⟨fun c189 => ?_, fun c190 => ?_⟩
      · exact ih (v8 + (1 : Int32)) v10 μ11 (lt_m c_lt (by omega)) (lt_p (by assumption) c_lt) (by first | assumption | exact Or.inl rfl | exact Or.inr rfl | exact isB_or (by assumption) (by first | assumption | exact Or.inl rfl | exact Or.inr rfl)) hF
      · refine f_X6_at 27 rfl μ11 v9 (fun r22 => ?_)
        refine z_X6_put 27 rfl μ11 v9 (r22 ||| ((1 : Int32) <<< (v8 &&& 31))) (Or.inl (by decide)) (fun μ25 hf191 => ?_)
        refine f_X6_at 27 rfl μ25 v8 (fun r26 => ?_)
        refine z_X6_put 27 rfl μ25 v8 (r26 ||| ((1 : Int32) <<< (v9 &&& 31))) (Or.inl (by decide)) (fun μ29 hf192 => ?_)
        exact ih (v8 + (1 : Int32)) (1 : Int32) μ29 (lt_m c_lt (by omega)) (lt_p (by assumption) c_lt) (by first | assumption | exact Or.inl rfl | exact Or.inr rfl | exact isB_or (by assumption) (by first | assumption | exact Or.inl rfl | exact Or.inr rfl)) (Zr.trans (Zr.trans hF (Zr.up (by decide) hf191)) (Zr.up (by decide) hf192))
set_option maxHeartbeats 2000000 in
theorem zl_wpl_X1_tellFurther_4 (μ0 : TMem) (k1 : Nat) (hk1 : kd k1 = 5) {Q : Int32 → TMem → Prop} (h : ∀ (r : Int32) (μ9 : TMem), isB r → Zr 0 μ0 μ9 → Q r μ9) : ∀ (n : Nat) (v2 : Int32) (v3 : Int32) (μ4 : TMem), (((μ0 k1 1)).toInt - (v2).toInt).toNat < n → 0 ≤ (v2).toInt → isB v3 → Zr 0 μ0 μ4 → wpl_X1_tellFurther_4 k1 Q n v2 v3 μ4 := by
  intro n
  induction n with
  | zero => intro v2 v3 μ4 hm; exact absurd hm (Nat.not_lt_zero _)
  | succ n ih =>
    intro v2 v3 μ4 hm hi bv3 hF
    show ((μ4 k1 1) ≤ v2 → (isB v3 ∧ Q v3 μ4)) ∧ (¬ (μ4 k1 1) ≤ v2 → (∃ n6x, wpl_X1_tellFurther_15 k1 v2 (fun (u31 : Int32) (μ32 : TMem) => wpl_X1_tellFurther_4 k1 Q n (v2 + (1 : Int32)) u31 μ32) n6x (0 : Int32) v3 μ4))
    refine ⟨fun c_ex => ?_, fun c_in => ?_⟩
    · refine ⟨(by first | assumption | exact Or.inl rfl | exact Or.inr rfl | exact isB_or (by assumption) (by first | assumption | exact Or.inl rfl | exact Or.inr rfl)), ?_⟩
      exact h _ _ (by first | assumption | exact Or.inl rfl | exact Or.inr rfl | exact isB_or (by assumption) (by first | assumption | exact Or.inl rfl | exact Or.inr rfl)) hF
    have e_k1_1 : μ4 k1 1 = μ0 k1 1 := hF.1.1 k1 1 (by rw [show kd k1 = 5 from hk1] <;> rfl)
    have c_lt : ¬ ((μ0 k1 1)) ≤ v2 := by
      rw [e_k1_1] at c_in
      exact c_in
    refine ⟨_, zl_wpl_X1_tellFurther_15 μ4 k1 hk1 v2 ?_ _ (0 : Int32) v3 μ4 (Nat.lt_succ_self _) (by first | decide | omega) (by first | assumption | exact Or.inl rfl | exact Or.inr rfl | exact isB_or (by assumption) (by first | assumption | exact Or.inl rfl | exact Or.inr rfl)) Zr.rf⟩
    · intro u31 μ32 b193 hf194
      exact ih (v2 + (1 : Int32)) u31 μ32 (lt_m c_lt (by omega)) (lt_p (by assumption) c_lt) (by first | assumption | exact Or.inl rfl | exact Or.inr rfl | exact isB_or (by assumption) (by first | assumption | exact Or.inl rfl | exact Or.inr rfl)) (Zr.trans hF (Zr.up (by decide) hf194))
set_option maxHeartbeats 2000000 in
theorem z_X1_tellFurther (k1 : Nat) (hk1 : kd k1 = 5) (μ : TMem)  {Q : Int32 → TMem → Prop} (h : ∀ (r : Int32) (μ9 : TMem), isB r → Zr 0 μ μ9 → Q r μ9) : wp_X1_tellFurther k1 μ Q := by
  show ∃ n0x, wpl_X1_tellFurther_4 k1 Q n0x (0 : Int32) (0 : Int32) μ
  refine ⟨_, zl_wpl_X1_tellFurther_4 μ k1 hk1 (fun r9 μ9 b9 f9 => h r9 μ9 b9 (Zr.trans (Zr.rf) (Zr.up (by decide) f9))) _ (0 : Int32) (0 : Int32) μ (Nat.lt_succ_self _) (by first | decide | omega) (by first | assumption | exact Or.inl rfl | exact Or.inr rfl | exact isB_or (by assumption) (by first | assumption | exact Or.inl rfl | exact Or.inr rfl)) Zr.rf⟩
set_option maxHeartbeats 2000000 in
theorem zl_wpl_X1_findByPairs_2 (μ0 : TMem) (k1 : Nat) (hk1 : kd k1 = 5) {K29 : TMem → Prop} (hK29 : ∀ (u0 : TMem), Zr 0 μ0 u0 → K29 u0) : ∀ (n : Nat) (v2 : Int32) (μ3 : TMem), (((μ0 k1 1)).toInt - (v2).toInt).toNat < n → 0 ≤ (v2).toInt → Zr 0 μ0 μ3 → wpl_X1_findByPairs_2 k1 K29 n v2 μ3 := by
  intro n
  induction n with
  | zero => intro v2 μ3 hm; exact absurd hm (Nat.not_lt_zero _)
  | succ n ih =>
    intro v2 μ3 hm hi hF
    show ((μ3 k1 1) ≤ v2 → (K29 μ3)) ∧ (¬ (μ3 k1 1) ≤ v2 → (wp_X1_ofOtherGoalness k1 μ3 v2 (fun (r5 : Int32) => wp_X6_put 27 μ3 v2 r5 (fun (μ8 : TMem) => wpl_X1_findByPairs_2 k1 K29 n (v2 + (1 : Int32)) μ8))))
    refine ⟨fun c_ex => ?_, fun c_in => ?_⟩
    · exact hK29 μ3 hF
    have e_k1_1 : μ3 k1 1 = μ0 k1 1 := hF.1.1 k1 1 (by rw [show kd k1 = 5 from hk1] <;> rfl)
    have c_lt : ¬ ((μ0 k1 1)) ≤ v2 := by
      rw [e_k1_1] at c_in
      exact c_in
    refine f_X1_ofOtherGoalness k1 hk1 μ3 v2 (fun r5 => ?_)
    refine z_X6_put 27 rfl μ3 v2 r5 (Or.inl (by decide)) (fun μ8 hf198 => ?_)
    exact ih (v2 + (1 : Int32)) μ8 (lt_m c_lt (by omega)) (lt_p (by assumption) c_lt) (Zr.trans hF (Zr.up (by decide) hf198))
set_option maxHeartbeats 2000000 in
theorem zl_wpl_X1_findByPairs_33 (μ0 : TMem) (k1 : Nat) (hk1 : kd k1 = 5) {K56 : TMem → Prop} (hK56 : ∀ (u0 : TMem), Zr 0 μ0 u0 → K56 u0) : ∀ (n : Nat) (v12 : Int32) (v13 : Int32) (μ14 : TMem), (((1024 : Int32)).toInt - (v12).toInt).toNat < n → 0 ≤ (v12).toInt → Zr 0 μ0 μ14 → wpl_X1_findByPairs_33 k1 K56 n v12 v13 μ14 := by
  intro n
  induction n with
  | zero => intro v12 v13 μ14 hm; exact absurd hm (Nat.not_lt_zero _)
  | succ n ih =>
    intro v12 v13 μ14 hm hi hF
    show ((1024 : Int32) ≤ v12 → (K56 μ14)) ∧ (¬ (1024 : Int32) ≤ v12 → ((v13 = 0 → (K56 μ14)) ∧ (¬ v13 = 0 → (wp_X1_tellFurther k1 μ14 (fun (r18 : Int32) (μ17 : TMem) => wpl_X1_findByPairs_33 k1 K56 n (v12 + (1 : Int32)) r18 μ17)))))
    refine ⟨fun c_ex => ?_, fun c_in => ?_⟩
    · exact hK56 μ14 hF
    have c_lt : ¬ ((1024 : Int32)) ≤ v12 := c_in
    refine ⟨fun c199 => ?_, fun c200 => ?_⟩
    · exact hK56 μ14 hF
    · refine z_X1_tellFurther k1 hk1 μ14 (fun r18 μ17 b201 hf202 => ?_)
      exact ih (v12 + (1 : Int32)) r18 μ17 (lt_m c_lt (by omega)) (lt_p (by assumption) c_lt) (Zr.trans hF (Zr.up (by decide) hf202))
set_option maxHeartbeats 2000000 in
theorem zl_wpl_X1_findByPairs_58 (μ0 : TMem) (k1 : Nat) (hk1 : kd k1 = 5) {Q : TMem → Prop} (h : ∀ μ9 : TMem, Zr 0 μ0 μ9 → Q μ9) : ∀ (n : Nat) (v22 : Int32) (μ23 : TMem), (((μ0 k1 1)).toInt - (v22).toInt).toNat < n → 0 ≤ (v22).toInt → Zr 0 μ0 μ23 → wpl_X1_findByPairs_58 k1 Q n v22 μ23 := by
  intro n
  induction n with
  | zero => intro v22 μ23 hm; exact absurd hm (Nat.not_lt_zero _)
  | succ n ih =>
    intro v22 μ23 hm hi hF
    show ((μ23 k1 1) ≤ v22 → (Q μ23)) ∧ (¬ (μ23 k1 1) ≤ v22 → (wp_X1_firstNotUnlike μ23 v22 (fun (r25 : Int32) => wp_X6_put 23 μ23 v22 r25 (fun (μ28 : TMem) => wpl_X1_findByPairs_58 k1 Q n (v22 + (1 : Int32)) μ28))))
    refine ⟨fun c_ex => ?_, fun c_in => ?_⟩
    · exact h _ hF
    have e_k1_1 : μ23 k1 1 = μ0 k1 1 := hF.1.1 k1 1 (by rw [show kd k1 = 5 from hk1] <;> rfl)
    have c_lt : ¬ ((μ0 k1 1)) ≤ v22 := by
      rw [e_k1_1] at c_in
      exact c_in
    refine f_X1_firstNotUnlike μ23 v22 (fun r25 => ?_)
    refine z_X6_put 23 rfl μ23 v22 r25 (Or.inl (by decide)) (fun μ28 hf203 => ?_)
    exact ih (v22 + (1 : Int32)) μ28 (lt_m c_lt (by omega)) (lt_p (by assumption) c_lt) (Zr.trans hF (Zr.up (by decide) hf203))
set_option maxHeartbeats 2000000 in
theorem z_X1_findByPairs (k1 : Nat) (hk1 : kd k1 = 5) (μ : TMem)  {Q : TMem → Prop} (h : ∀ μ9 : TMem, Zr 0 μ μ9 → Q μ9) : wp_X1_findByPairs k1 μ Q := by
  show ∃ n0x, wpl_X1_findByPairs_2 k1 (fun (μ10 : TMem) => ∃ n10x, wpl_X1_findByPairs_33 k1 (fun (μ20 : TMem) => ∃ n20x, wpl_X1_findByPairs_58 k1 Q n20x (0 : Int32) μ20) n10x (0 : Int32) (1 : Int32) μ10) n0x (0 : Int32) μ
  refine ⟨_, zl_wpl_X1_findByPairs_2 μ k1 hk1 ?_ _ (0 : Int32) μ (Nat.lt_succ_self _) (by first | decide | omega) Zr.rf⟩
  · intro μ10 hf204
    refine ⟨_, zl_wpl_X1_findByPairs_33 μ10 k1 hk1 ?_ _ (0 : Int32) (1 : Int32) μ10 (Nat.lt_succ_self _) (by first | decide | omega) Zr.rf⟩
    · intro μ20 hf205
      refine ⟨_, zl_wpl_X1_findByPairs_58 μ20 k1 hk1 (fun μ9 f9 => h μ9 (Zr.trans (Zr.trans (Zr.trans (Zr.rf) (Zr.up (by decide) hf204)) (Zr.up (by decide) hf205)) (Zr.up (by decide) f9))) _ (0 : Int32) μ20 (Nat.lt_succ_self _) (by first | decide | omega) Zr.rf⟩
set_option maxHeartbeats 2000000 in
theorem zl_wpl_X2_becomeRound_36 (μ0 : TMem) (k0 : Nat) (hk0 : kd k0 = 2 ∧ 9 < k0) (k1 : Nat) (hk1 : kd k1 = 2) (v7 : Int32) {K59 : TMem → Prop} (hK59 : ∀ (u0 : TMem), Zr 0 μ0 u0 → K59 u0) : ∀ (n : Nat) (v6 : Int32) (μ8 : TMem), (((3 : Int32)).toInt - (v6).toInt).toNat < n → 0 ≤ (v6).toInt → Zr 0 μ0 μ8 → wpl_X2_becomeRound_36 k0 k1 v7 K59 n v6 μ8 := by
  intro n
  induction n with
  | zero => intro v6 μ8 hm; exact absurd hm (Nat.not_lt_zero _)
  | succ n ih =>
    intro v6 μ8 hm hi hF
    show ((3 : Int32) ≤ v6 → (K59 μ8)) ∧ (¬ (3 : Int32) ≤ v6 → (wp_X2_sources k1 μ8 v7 v6 (fun (r10 : Int32) => wp_X7_put k0 μ8 v7 v6 r10 (fun (μ13 : TMem) => wpl_X2_becomeRound_36 k0 k1 v7 K59 n (v6 + (1 : Int32)) μ13))))
    refine ⟨fun c_ex => ?_, fun c_in => ?_⟩
    · exact hK59 μ8 hF
    have c_lt : ¬ ((3 : Int32)) ≤ v6 := c_in
    refine f_X2_sources k1 hk1 μ8 v7 v6 (fun r10 => ?_)
    refine z_X7_put k0 ⟨Or.inl hk0.1, hk0.2⟩ μ8 v7 v6 r10 (fun μ13 hf242 => ?_)
    exact ih (v6 + (1 : Int32)) μ13 (lt_m c_lt (by omega)) (lt_p (by assumption) c_lt) (Zr.trans hF (Zr.up (by decide) hf242))
set_option maxHeartbeats 2000000 in
theorem zl_wpl_X2_becomeRound_26 (μ0 : TMem) (k0 : Nat) (hk0 : kd k0 = 2 ∧ 9 < k0) (k1 : Nat) (hk1 : kd k1 = 2) {Q : TMem → Prop} (h : ∀ μ9 : TMem, Zr 0 μ0 μ9 → Q μ9) : ∀ (n : Nat) (v2 : Int32) (μ3 : TMem), (((μ0 k0 1)).toInt - (v2).toInt).toNat < n → 0 ≤ (v2).toInt → Zr 0 μ0 μ3 → wpl_X2_becomeRound_26 k0 k1 Q n v2 μ3 := by
  intro n
  induction n with
  | zero => intro v2 μ3 hm; exact absurd hm (Nat.not_lt_zero _)
  | succ n ih =>
    intro v2 μ3 hm hi hF
    show ((μ3 k0 1) ≤ v2 → (Q μ3)) ∧ (¬ (μ3 k0 1) ≤ v2 → (∃ n4x, wpl_X2_becomeRound_36 k0 k1 v2 (fun (μ15 : TMem) => wpl_X2_becomeRound_26 k0 k1 Q n (v2 + (1 : Int32)) μ15) n4x (0 : Int32) μ3))
    refine ⟨fun c_ex => ?_, fun c_in => ?_⟩
    · exact h _ hF
    have e_k0_1 : μ3 k0 1 = μ0 k0 1 := hF.1.1 k0 1 (by rw [show kd k0 = 2 from hk0.1] <;> rfl)
    have c_lt : ¬ ((μ0 k0 1)) ≤ v2 := by
      rw [e_k0_1] at c_in
      exact c_in
    refine ⟨_, zl_wpl_X2_becomeRound_36 μ3 k0 hk0 k1 hk1 v2 ?_ _ (0 : Int32) μ3 (Nat.lt_succ_self _) (by first | decide | omega) Zr.rf⟩
    · intro μ15 hf243
      exact ih (v2 + (1 : Int32)) μ15 (lt_m c_lt (by omega)) (lt_p (by assumption) c_lt) (Zr.trans hF (Zr.up (by decide) hf243))
set_option maxHeartbeats 2000000 in
theorem z_X2_becomeRound (k0 : Nat) (hk0 : kd k0 = 2 ∧ 9 < k0) (k1 : Nat) (hk1 : kd k1 = 2) (μ : TMem)  {Q : TMem → Prop} (h : ∀ μ9 : TMem, Zr 2 μ μ9 → Q μ9) : wp_X2_becomeRound k0 k1 μ Q := by
  show ∃ n0x, wpl_X2_becomeRound_26 k0 k1 Q n0x (0 : Int32) (tms (tms (tms μ k0 1 (μ k1 1)) k0 3 ((tms μ k0 1 (μ k1 1)) k1 2)) k0 2 ((tms (tms μ k0 1 (μ k1 1)) k0 3 ((tms μ k0 1 (μ k1 1)) k1 2)) k1 3))
  refine ⟨_, zl_wpl_X2_becomeRound_26 (tms (tms (tms μ k0 1 (μ k1 1)) k0 3 ((tms μ k0 1 (μ k1 1)) k1 2)) k0 2 ((tms (tms μ k0 1 (μ k1 1)) k0 3 ((tms μ k0 1 (μ k1 1)) k1 2)) k1 3)) k0 hk0 k1 hk1 (fun μ9 f9 => h μ9 (Zr.trans (Zr.st (Zr.st (Zr.st (Zr.rf) (by rw [show kd k0 = 2 from hk0.1] <;> rfl) (Or.inl (ne43 (K := 2) hk0.1 (by decide)))) (by rw [show kd k0 = 2 from hk0.1] <;> rfl) (Or.inl (ne43 (K := 2) hk0.1 (by decide)))) (by rw [show kd k0 = 2 from hk0.1] <;> rfl) (Or.inl (ne43 (K := 2) hk0.1 (by decide)))) (Zr.up (by decide) f9))) _ (0 : Int32) (tms (tms (tms μ k0 1 (μ k1 1)) k0 3 ((tms μ k0 1 (μ k1 1)) k1 2)) k0 2 ((tms (tms μ k0 1 (μ k1 1)) k0 3 ((tms μ k0 1 (μ k1 1)) k1 2)) k1 3)) (Nat.lt_succ_self _) (by first | decide | omega) Zr.rf⟩
set_option maxHeartbeats 2000000 in
theorem z_X3_makeByTurning (k1 : Nat) (hk1 : kd k1 = 2) (k2 : Nat) (hk2 : kd k2 = 5) (μ : TMem)  {Q : Int32 → TMem → Prop} (h : ∀ (r : Int32) (μ9 : TMem), isB r → Zr 2 μ μ9 → Q r μ9) : wp_X3_makeByTurning k1 k2 μ Q := by
  show wp_X2_becomeRound 31 k1 μ (fun (μ1 : TMem) => wp_X3_makeOneWay 31 33 μ1 (fun (r3 : Int32) (μ2 : TMem) => (¬ r3 = 0 → (wp_X2_becomePlain 29 33 μ2 (fun (μ5 : TMem) => wp_X2_becomeRound 31 29 μ5 (fun (μ6 : TMem) => wp_X3_makeOneWay 31 k2 μ6 (fun (r8 : Int32) (μ7 : TMem) => isB r8 ∧ Q r8 μ7))))) ∧ (r3 = 0 → (Q (0 : Int32) μ2))))
  refine z_X2_becomeRound 31 ⟨rfl, by decide⟩ k1 hk1 μ (fun μ1 hf253 => ?_)
  refine z_X3_makeOneWay 31 rfl 33 rfl μ1 (fun r3 μ2 b254 hf255 => ?_)
  refine ⟨fun c256 => ?_, fun c257 => ?_⟩
  · refine z_X2_becomePlain 29 ⟨rfl, by decide⟩ 33 rfl μ2 (fun μ5 hf258 => ?_)
    refine z_X2_becomeRound 31 ⟨rfl, by decide⟩ 29 rfl μ5 (fun μ6 hf259 => ?_)
    refine z_X3_makeOneWay 31 rfl k2 hk2 μ6 (fun r8 μ7 b260 hf261 => ?_)
    refine ⟨(by first | assumption | exact Or.inl rfl | exact Or.inr rfl | exact isB_or (by assumption) (by first | assumption | exact Or.inl rfl | exact Or.inr rfl)), ?_⟩
    exact h _ _ (by first | assumption | exact Or.inl rfl | exact Or.inr rfl | exact isB_or (by assumption) (by first | assumption | exact Or.inl rfl | exact Or.inr rfl)) (Zr.trans (Zr.trans (Zr.trans (Zr.trans (Zr.trans (Zr.rf) (Zr.up (by decide) hf253)) (Zr.up (by decide) hf255)) (Zr.up (by decide) hf258)) (Zr.up (by decide) hf259)) (Zr.up (by decide) hf261))
  · exact h _ _ (by first | assumption | exact Or.inl rfl | exact Or.inr rfl | exact isB_or (by assumption) (by first | assumption | exact Or.inl rfl | exact Or.inr rfl)) (Zr.trans (Zr.trans (Zr.rf) (Zr.up (by decide) hf253)) (Zr.up (by decide) hf255))
set_option maxHeartbeats 2000000 in
theorem z_X3_makeBy (k2 : Nat) (hk2 : kd k2 = 2) (k3 : Nat) (hk3 : kd k3 = 5) (μ : TMem) (a1 : Int32) {Q : Int32 → TMem → Prop} (h : ∀ (r : Int32) (μ9 : TMem), isB r → Zr 2 μ μ9 → Q r μ9) : wp_X3_makeBy k2 k3 μ a1 Q := by
  show (¬ a1 = (3 : Int32) → ((¬ a1 = (2 : Int32) → (wp_X3_makeOneWay k2 33 μ (fun (r4 : Int32) (μ3 : TMem) => (¬ r4 = 0 → (∀ J6 : TMem → Prop, (∀ (μ7 : TMem), (wp_X3_makeGroups 33 k3 μ7 (fun (μ8 : TMem) => Q (1 : Int32) μ8)) → J6 μ7) → ((¬ a1 = (1 : Int32) → (wp_X1_findByParting 33 μ3 (fun (μ10 : TMem) => J6 μ10))) ∧ (a1 = (1 : Int32) → (wp_X1_findByPairs 33 μ3 (fun (μ11 : TMem) => J6 μ11)))))) ∧ (r4 = 0 → (Q (0 : Int32) μ3))))) ∧ (a1 = (2 : Int32) → (wp_X3_makeByTurning k2 k3 μ (fun (r13 : Int32) (μ12 : TMem) => isB r13 ∧ Q r13 μ12))))) ∧ (a1 = (3 : Int32) → (wp_X3_makeOneWay k2 k3 μ (fun (r16 : Int32) (μ15 : TMem) => isB r16 ∧ Q r16 μ15)))
  refine ⟨fun c262 => ?_, fun c263 => ?_⟩
  · refine ⟨fun c264 => ?_, fun c265 => ?_⟩
    · refine z_X3_makeOneWay k2 hk2 33 rfl μ (fun r4 μ3 b266 hf267 => ?_)
      refine ⟨fun c268 => ?_, fun c269 => ?_⟩
      · intro J6 hJ6
        refine ⟨fun c270 => ?_, fun c271 => ?_⟩
        · refine z_X1_findByParting 33 rfl μ3 (fun μ10 hf272 => ?_)
          refine hJ6 μ10 ?_
          refine z_X3_makeGroups 33 rfl k3 hk3 μ10 (fun μ8 hf273 => ?_)
          exact h _ _ (by first | assumption | exact Or.inl rfl | exact Or.inr rfl | exact isB_or (by assumption) (by first | assumption | exact Or.inl rfl | exact Or.inr rfl)) (Zr.trans (Zr.trans (Zr.trans (Zr.rf) (Zr.up (by decide) hf267)) (Zr.up (by decide) hf272)) (Zr.up (by decide) hf273))
        · refine z_X1_findByPairs 33 rfl μ3 (fun μ11 hf274 => ?_)
          refine hJ6 μ11 ?_
          refine z_X3_makeGroups 33 rfl k3 hk3 μ11 (fun μ8 hf275 => ?_)
          exact h _ _ (by first | assumption | exact Or.inl rfl | exact Or.inr rfl | exact isB_or (by assumption) (by first | assumption | exact Or.inl rfl | exact Or.inr rfl)) (Zr.trans (Zr.trans (Zr.trans (Zr.rf) (Zr.up (by decide) hf267)) (Zr.up (by decide) hf274)) (Zr.up (by decide) hf275))
      · exact h _ _ (by first | assumption | exact Or.inl rfl | exact Or.inr rfl | exact isB_or (by assumption) (by first | assumption | exact Or.inl rfl | exact Or.inr rfl)) (Zr.trans (Zr.rf) (Zr.up (by decide) hf267))
    · refine z_X3_makeByTurning k2 hk2 k3 hk3 μ (fun r13 μ12 b276 hf277 => ?_)
      refine ⟨(by first | assumption | exact Or.inl rfl | exact Or.inr rfl | exact isB_or (by assumption) (by first | assumption | exact Or.inl rfl | exact Or.inr rfl)), ?_⟩
      exact h _ _ (by first | assumption | exact Or.inl rfl | exact Or.inr rfl | exact isB_or (by assumption) (by first | assumption | exact Or.inl rfl | exact Or.inr rfl)) (Zr.trans (Zr.rf) (Zr.up (by decide) hf277))
  · refine z_X3_makeOneWay k2 hk2 k3 hk3 μ (fun r16 μ15 b278 hf279 => ?_)
    refine ⟨(by first | assumption | exact Or.inl rfl | exact Or.inr rfl | exact isB_or (by assumption) (by first | assumption | exact Or.inl rfl | exact Or.inr rfl)), ?_⟩
    exact h _ _ (by first | assumption | exact Or.inl rfl | exact Or.inr rfl | exact isB_or (by assumption) (by first | assumption | exact Or.inl rfl | exact Or.inr rfl)) (Zr.trans (Zr.rf) (Zr.up (by decide) hf279))
set_option maxHeartbeats 2000000 in
theorem zl_wpl_X8_count_2 (μ0 : TMem) (k1 : Nat) (hk1 : kd k1 = 5) {K37 : TMem → Prop} (hK37 : ∀ (u0 : TMem), Zr 0 μ0 u0 → K37 u0) : ∀ (n : Nat) (v2 : Int32) (μ3 : TMem), (((μ0 k1 1)).toInt - (v2).toInt).toNat < n → 0 ≤ (v2).toInt → Zr 0 μ0 μ3 → wpl_X8_count_2 k1 K37 n v2 μ3 := by
  intro n
  induction n with
  | zero => intro v2 μ3 hm; exact absurd hm (Nat.not_lt_zero _)
  | succ n ih =>
    intro v2 μ3 hm hi hF
    show ((μ3 k1 1) ≤ v2 → (K37 μ3)) ∧ (¬ (μ3 k1 1) ≤ v2 → (wp_X5_isGoal k1 μ3 v2 (fun (r5 : Int32) => ∀ J8 : Int32 → Prop, (∀ (j9 : Int32), (wp_X6_put 49 μ3 v2 j9 (fun (μ10 : TMem) => wpl_X8_count_2 k1 K37 n (v2 + (1 : Int32)) μ10)) → J8 j9) → ((r5 = 0 → (J8 (0 : Int32))) ∧ (¬ r5 = 0 → (J8 (1 : Int32)))))))
    refine ⟨fun c_ex => ?_, fun c_in => ?_⟩
    · exact hK37 μ3 hF
    have e_k1_1 : μ3 k1 1 = μ0 k1 1 := hF.1.1 k1 1 (by rw [show kd k1 = 5 from hk1] <;> rfl)
    have c_lt : ¬ ((μ0 k1 1)) ≤ v2 := by
      rw [e_k1_1] at c_in
      exact c_in
    refine f_X5_isGoal k1 hk1 μ3 v2 (fun r5 b289 => ?_)
    intro J8 hJ8
    refine ⟨fun c290 => ?_, fun c291 => ?_⟩
    · refine hJ8 (0 : Int32) ?_
      refine z_X6_put 49 rfl μ3 v2 (0 : Int32) (Or.inl (by decide)) (fun μ10 hf292 => ?_)
      exact ih (v2 + (1 : Int32)) μ10 (lt_m c_lt (by omega)) (lt_p (by assumption) c_lt) (Zr.trans hF (Zr.up (by decide) hf292))
    · refine hJ8 (1 : Int32) ?_
      refine z_X6_put 49 rfl μ3 v2 (1 : Int32) (Or.inl (by decide)) (fun μ10 hf293 => ?_)
      exact ih (v2 + (1 : Int32)) μ10 (lt_m c_lt (by omega)) (lt_p (by assumption) c_lt) (Zr.trans hF (Zr.up (by decide) hf293))
set_option maxHeartbeats 2000000 in
theorem zl_wpl_X8_count_47 (μ0 : TMem) (k1 : Nat) (hk1 : kd k1 = 5) (v20 : Int32) {K83 : TMem → Prop} (hK83 : ∀ (u0 : TMem), Zr 0 μ0 u0 → K83 u0) : ∀ (n : Nat) (v19 : Int32) (μ21 : TMem), (((μ0 k1 1)).toInt - (v19).toInt).toNat < n → 0 ≤ (v19).toInt → Zr 0 μ0 μ21 → wpl_X8_count_47 k1 v20 K83 n v19 μ21 := by
  intro n
  induction n with
  | zero => intro v19 μ21 hm; exact absurd hm (Nat.not_lt_zero _)
  | succ n ih =>
    intro v19 μ21 hm hi hF
    show ((μ21 k1 1) ≤ v19 → (K83 μ21)) ∧ (¬ (μ21 k1 1) ≤ v19 → (wp_X8_sumOver k1 μ21 v19 (v20 - (1 : Int32)) (fun (r23 : Int32) => wp_X6_put 49 μ21 ((v20 * (32 : Int32)) + v19) r23 (fun (μ26 : TMem) => wpl_X8_count_47 k1 v20 K83 n (v19 + (1 : Int32)) μ26))))
    refine ⟨fun c_ex => ?_, fun c_in => ?_⟩
    · exact hK83 μ21 hF
    have e_k1_1 : μ21 k1 1 = μ0 k1 1 := hF.1.1 k1 1 (by rw [show kd k1 = 5 from hk1] <;> rfl)
    have c_lt : ¬ ((μ0 k1 1)) ≤ v19 := by
      rw [e_k1_1] at c_in
      exact c_in
    refine f_X8_sumOver k1 hk1 μ21 v19 (v20 - (1 : Int32)) (fun r23 => ?_)
    refine z_X6_put 49 rfl μ21 ((v20 * (32 : Int32)) + v19) r23 (Or.inl (by decide)) (fun μ26 hf294 => ?_)
    exact ih (v19 + (1 : Int32)) μ26 (lt_m c_lt (by omega)) (lt_p (by assumption) c_lt) (Zr.trans hF (Zr.up (by decide) hf294))
set_option maxHeartbeats 2000000 in
theorem zl_wpl_X8_count_39 (μ0 : TMem) (k1 : Nat) (hk1 : kd k1 = 5) {Q : TMem → Prop} (h : ∀ μ9 : TMem, Zr 0 μ0 μ9 → Q μ9) : ∀ (n : Nat) (v15 : Int32) (μ16 : TMem), (((12 : Int32)).toInt + 1 - (v15).toInt).toNat < n → 0 ≤ (v15).toInt → Zr 0 μ0 μ16 → wpl_X8_count_39 k1 Q n v15 μ16 := by
  intro n
  induction n with
  | zero => intro v15 μ16 hm; exact absurd hm (Nat.not_lt_zero _)
  | succ n ih =>
    intro v15 μ16 hm hi hF
    show ((12 : Int32) < v15 → (Q μ16)) ∧ (¬ (12 : Int32) < v15 → (∃ n17x, wpl_X8_count_47 k1 v15 (fun (μ28 : TMem) => wpl_X8_count_39 k1 Q n (v15 + (1 : Int32)) μ28) n17x (0 : Int32) μ16))
    refine ⟨fun c_ex => ?_, fun c_in => ?_⟩
    · exact h _ hF
    have c_lt : ¬ ((12 : Int32)) < v15 := c_in
    refine ⟨_, zl_wpl_X8_count_47 μ16 k1 hk1 v15 ?_ _ (0 : Int32) μ16 (Nat.lt_succ_self _) (by first | decide | omega) Zr.rf⟩
    · intro μ28 hf295
      exact ih (v15 + (1 : Int32)) μ28 (lt_ms c_lt (by decide) (by omega)) (lt_ps (by assumption) c_lt (by decide)) (Zr.trans hF (Zr.up (by decide) hf295))
set_option maxHeartbeats 2000000 in
theorem z_X8_count (k1 : Nat) (hk1 : kd k1 = 5) (μ : TMem)  {Q : TMem → Prop} (h : ∀ μ9 : TMem, Zr 0 μ μ9 → Q μ9) : wp_X8_count k1 μ Q := by
  show ∃ n0x, wpl_X8_count_2 k1 (fun (μ13 : TMem) => ∃ n13x, wpl_X8_count_39 k1 Q n13x (1 : Int32) μ13) n0x (0 : Int32) μ
  refine ⟨_, zl_wpl_X8_count_2 μ k1 hk1 ?_ _ (0 : Int32) μ (Nat.lt_succ_self _) (by first | decide | omega) Zr.rf⟩
  · intro μ13 hf296
    refine ⟨_, zl_wpl_X8_count_39 μ13 k1 hk1 (fun μ9 f9 => h μ9 (Zr.trans (Zr.trans (Zr.rf) (Zr.up (by decide) hf296)) (Zr.up (by decide) f9))) _ (1 : Int32) μ13 (Nat.lt_succ_self _) (by first | decide | omega) Zr.rf⟩
set_option maxHeartbeats 2000000 in
theorem z_X9_machineAt (μ : TMem) (a1 : Int32) {Q : Nat → TMem → Prop} {X : String → TMem → Prop} (h : ∀ (r : Nat) (μ9 : TMem), kd r = 2 → Zr 0 μ μ9 → Q r μ9) (hX : ∀ (E : String) (μ9 : TMem), E ∈ ex_I → Zr 0 μ μ9 → X E μ9) : wp_X9_machineAt μ a1 Q X := by
  show (a1 < 0 → (X "java/lang/IndexOutOfBoundsException" μ)) ∧ (¬ a1 < 0 → ((a1 < (4 : Int32) → (vp_in a1 4 ∧ (Q (2 + 2 * a1.toNatClampNeg) μ))) ∧ (¬ a1 < (4 : Int32) → (X "java/lang/IndexOutOfBoundsException" μ))))
  refine ⟨fun c297 => ?_, fun c298 => ?_⟩
  · exact hX _ _ (by decide) (Zr.rf)
  · refine ⟨fun c299 => ?_, fun c300 => ?_⟩
    · have hv301 : vp_in a1 4 := (by first | exact vp_a (by assumption) (by assumption) (tl_s _) | exact vp_b (by assumption) (by assumption) (tl_s _) | exact vp_a (n := 4) (by assumption) (by assumption) (by decide) | exact vp_b (n := 4) (by assumption) (by assumption) (by decide) | exact vp_c (by assumption) (by assumption))
      refine ⟨hv301, ?_⟩
      exact h _ _ (kd_ma _ (vp_lt (by assumption))) (Zr.rf)
    · exact hX _ _ (by decide) (Zr.rf)
set_option maxHeartbeats 2000000 in
theorem z_X9_checkRange (μ : TMem) (a0 : Int32) (a1 : Int32) (a2 : Int32) {Q : TMem → Prop} {X : String → TMem → Prop} (h : ∀ μ9 : TMem, Zr 0 μ μ9 → Q μ9) (hX : ∀ (E : String) (μ9 : TMem), E ∈ ex_A → Zr 0 μ μ9 → X E μ9) : wp_X9_checkRange μ a0 a1 a2 Q X := by
  show (a0 < a1 → (X "java/lang/IllegalArgumentException" μ)) ∧ (¬ a0 < a1 → ((a0 ≤ a2 → (Q μ)) ∧ (¬ a0 ≤ a2 → (X "java/lang/IllegalArgumentException" μ))))
  refine ⟨fun c302 => ?_, fun c303 => ?_⟩
  · exact hX _ _ (by decide) (Zr.rf)
  · refine ⟨fun c304 => ?_, fun c305 => ?_⟩
    · exact h _ (Zr.rf)
    · exact hX _ _ (by decide) (Zr.rf)
set_option maxHeartbeats 2000000 in
theorem z_X9_checkWord (μ : TMem) (a0 : Int32) (a1 : Int32) {Q : TMem → Prop} {X : String → TMem → Prop} (h : ∀ μ9 : TMem, Zr 0 μ μ9 → Q μ9) (hX : ∀ (E : String) (μ9 : TMem), E ∈ ex_A → Zr 0 μ μ9 → X E μ9) : wp_X9_checkWord μ a0 a1 Q X := by
  show wp_X9_checkRange μ a0 (0 : Int32) (12 : Int32) (fun (μ1 : TMem) => wp_X9_countCodes a0 (fun (r2 : Int32) => wp_X9_checkRange μ1 a1 (0 : Int32) (r2 - (1 : Int32)) (fun (μ3 : TMem) => Q μ3) X)) X
  refine z_X9_checkRange μ a0 (0 : Int32) (12 : Int32) (fun μ1 hf466 => ?_) (fun E9 μ9 e9 f9 => hX E9 μ9 e9 (Zr.trans (Zr.rf) (Zr.up (by decide) f9)))
  refine f_X9_countCodes a0 (fun r2 => ?_)
  refine z_X9_checkRange μ1 a1 (0 : Int32) (r2 - (1 : Int32)) (fun μ3 hf467 => ?_) (fun E9 μ9 e9 f9 => hX E9 μ9 e9 (Zr.trans (Zr.trans (Zr.rf) (Zr.up (by decide) hf466)) (Zr.up (by decide) f9)))
  exact h _ (Zr.trans (Zr.trans (Zr.rf) (Zr.up (by decide) hf466)) (Zr.up (by decide) hf467))
set_option maxHeartbeats 2000000 in
theorem z_X9_makeOrThrow (k2 : Nat) (hk2 : kd k2 = 2) (k3 : Nat) (hk3 : kd k3 = 5) (μ : TMem) (a1 : Int32) {Q : TMem → Prop} {X : String → TMem → Prop} (h : ∀ μ9 : TMem, Zr 2 μ μ9 → Q μ9) (hX : ∀ (E : String) (μ9 : TMem), E ∈ ex_S → Zr 2 μ μ9 → X E μ9) : wp_X9_makeOrThrow k2 k3 μ a1 Q X := by
  show wp_X3_makeBy k2 k3 μ a1 (fun (r2 : Int32) (μ1 : TMem) => (¬ r2 = 0 → (Q μ1)) ∧ (r2 = 0 → (X "java/lang/IllegalStateException" μ1)))
  refine z_X3_makeBy k2 hk2 k3 hk3 μ a1 (fun r2 μ1 b472 hf473 => ?_)
  refine ⟨fun c474 => ?_, fun c475 => ?_⟩
  · exact h _ (Zr.trans (Zr.rf) (Zr.up (by decide) hf473))
  · exact hX _ _ (by decide) (Zr.trans (Zr.rf) (Zr.up (by decide) hf473))
set_option maxHeartbeats 2000000 in
theorem z_X9_after (μ : TMem) (a1 : Int32) (a2 : Int32) (a3 : Int32) (a4 : Int32) {Q : Int32 → TMem → Prop} {X : String → TMem → Prop} (h : ∀ (r : Int32) (μ9 : TMem), Zr 2 μ μ9 → Q r μ9) (hX : ∀ (E : String) (μ9 : TMem), E ∈ ex_IAS → Zr 2 μ μ9 → X E μ9) : wp_X9_after μ a1 a2 a3 a4 Q X := by
  show wp_X9_machineAt μ a1 (fun (k2 : Nat) (μ1 : TMem) => wp_X9_checkWord μ1 a2 a3 (fun (μ3 : TMem) => wp_X9_checkRange μ3 a4 (0 : Int32) (2 : Int32) (fun (μ4 : TMem) => (¬ a4 = 0 → ((¬ a4 = (1 : Int32) → (wp_X9_makeOrThrow k2 57 μ4 (0 : Int32) (fun (μ7 : TMem) => wp_X5_stateAfter 57 μ7 a2 a3 (fun (r8 : Int32) => Q r8 μ7)) X)) ∧ (a4 = (1 : Int32) → (wp_X9_makeOrThrow k2 57 μ4 (3 : Int32) (fun (μ11 : TMem) => wp_X5_stateAfter 57 μ11 a2 a3 (fun (r12 : Int32) => Q r12 μ11)) X)))) ∧ (a4 = 0 → (wp_X2_statesAfter k2 μ4 a2 a3 (fun (r15 : Int32) => Q r15 μ4)))) X) X) X
  refine z_X9_machineAt μ a1 (fun k2 μ1 hk476 hf477 => ?_) (fun E9 μ9 e9 f9 => hX E9 μ9 (ex_sub (by decide) e9) (Zr.trans (Zr.rf) (Zr.up (by decide) f9)))
  refine z_X9_checkWord μ1 a2 a3 (fun μ3 hf478 => ?_) (fun E9 μ9 e9 f9 => hX E9 μ9 (ex_sub (by decide) e9) (Zr.trans (Zr.trans (Zr.rf) (Zr.up (by decide) hf477)) (Zr.up (by decide) f9)))
  refine z_X9_checkRange μ3 a4 (0 : Int32) (2 : Int32) (fun μ4 hf479 => ?_) (fun E9 μ9 e9 f9 => hX E9 μ9 (ex_sub (by decide) e9) (Zr.trans (Zr.trans (Zr.trans (Zr.rf) (Zr.up (by decide) hf477)) (Zr.up (by decide) hf478)) (Zr.up (by decide) f9)))
  refine ⟨fun c480 => ?_, fun c481 => ?_⟩
  · refine ⟨fun c482 => ?_, fun c483 => ?_⟩
    · refine z_X9_makeOrThrow k2 hk476 57 rfl μ4 (0 : Int32) (fun μ7 hf484 => ?_) (fun E9 μ9 e9 f9 => hX E9 μ9 (ex_sub (by decide) e9) (Zr.trans (Zr.trans (Zr.trans (Zr.trans (Zr.rf) (Zr.up (by decide) hf477)) (Zr.up (by decide) hf478)) (Zr.up (by decide) hf479)) (Zr.up (by decide) f9)))
      refine f_X5_stateAfter 57 rfl μ7 a2 a3 (fun r8 => ?_)
      exact h _ _ (Zr.trans (Zr.trans (Zr.trans (Zr.trans (Zr.rf) (Zr.up (by decide) hf477)) (Zr.up (by decide) hf478)) (Zr.up (by decide) hf479)) (Zr.up (by decide) hf484))
    · refine z_X9_makeOrThrow k2 hk476 57 rfl μ4 (3 : Int32) (fun μ11 hf485 => ?_) (fun E9 μ9 e9 f9 => hX E9 μ9 (ex_sub (by decide) e9) (Zr.trans (Zr.trans (Zr.trans (Zr.trans (Zr.rf) (Zr.up (by decide) hf477)) (Zr.up (by decide) hf478)) (Zr.up (by decide) hf479)) (Zr.up (by decide) f9)))
      refine f_X5_stateAfter 57 rfl μ11 a2 a3 (fun r12 => ?_)
      exact h _ _ (Zr.trans (Zr.trans (Zr.trans (Zr.trans (Zr.rf) (Zr.up (by decide) hf477)) (Zr.up (by decide) hf478)) (Zr.up (by decide) hf479)) (Zr.up (by decide) hf485))
  · refine f_X2_statesAfter k2 hk476 μ4 a2 a3 (fun r15 => ?_)
    exact h _ _ (Zr.trans (Zr.trans (Zr.trans (Zr.rf) (Zr.up (by decide) hf477)) (Zr.up (by decide) hf478)) (Zr.up (by decide) hf479))
set_option maxHeartbeats 2000000 in
theorem z_X9_size (μ : TMem) (a1 : Int32) (a2 : Int32) {Q : Int32 → TMem → Prop} {X : String → TMem → Prop} (h : ∀ (r : Int32) (μ9 : TMem), Zr 2 μ μ9 → Q r μ9) (hX : ∀ (E : String) (μ9 : TMem), E ∈ ex_IAS → Zr 2 μ μ9 → X E μ9) : wp_X9_size μ a1 a2 Q X := by
  show wp_X9_machineAt μ a1 (fun (k2 : Nat) (μ1 : TMem) => wp_X9_checkRange μ1 a2 (0 : Int32) (3 : Int32) (fun (μ3 : TMem) => wp_X9_makeOrThrow k2 57 μ3 a2 (fun (μ4 : TMem) => Q (μ4 57 1) μ4) X) X) X
  refine z_X9_machineAt μ a1 (fun k2 μ1 hk486 hf487 => ?_) (fun E9 μ9 e9 f9 => hX E9 μ9 (ex_sub (by decide) e9) (Zr.trans (Zr.rf) (Zr.up (by decide) f9)))
  refine z_X9_checkRange μ1 a2 (0 : Int32) (3 : Int32) (fun μ3 hf488 => ?_) (fun E9 μ9 e9 f9 => hX E9 μ9 (ex_sub (by decide) e9) (Zr.trans (Zr.trans (Zr.rf) (Zr.up (by decide) hf487)) (Zr.up (by decide) f9)))
  refine z_X9_makeOrThrow k2 hk486 57 rfl μ3 a2 (fun μ4 hf489 => ?_) (fun E9 μ9 e9 f9 => hX E9 μ9 (ex_sub (by decide) e9) (Zr.trans (Zr.trans (Zr.trans (Zr.rf) (Zr.up (by decide) hf487)) (Zr.up (by decide) hf488)) (Zr.up (by decide) f9)))
  exact h _ _ (Zr.trans (Zr.trans (Zr.trans (Zr.rf) (Zr.up (by decide) hf487)) (Zr.up (by decide) hf488)) (Zr.up (by decide) hf489))
set_option maxHeartbeats 2000000 in
theorem z_X9_kind (μ : TMem) (a1 : Int32) {Q : Int32 → TMem → Prop} {X : String → TMem → Prop} (h : ∀ (r : Int32) (μ9 : TMem), Zr 2 μ μ9 → Q r μ9) (hX : ∀ (E : String) (μ9 : TMem), E ∈ ex_IS → Zr 2 μ μ9 → X E μ9) : wp_X9_kind μ a1 Q X := by
  show wp_X9_machineAt μ a1 (fun (k2 : Nat) (μ1 : TMem) => wp_X9_makeOrThrow k2 57 μ1 (0 : Int32) (fun (μ3 : TMem) => (¬ (μ3 57 1) = (1 : Int32) → (wp_X5_isTakingLongOnes 57 μ3 (fun (r5 : Int32) => (r5 = 0 → (Q (2 : Int32) μ3)) ∧ (¬ r5 = 0 → (Q (3 : Int32) μ3))))) ∧ ((μ3 57 1) = (1 : Int32) → (wp_X5_isGoal 57 μ3 (0 : Int32) (fun (r9 : Int32) => (r9 = 0 → (Q (0 : Int32) μ3)) ∧ (¬ r9 = 0 → (Q (1 : Int32) μ3)))))) X) X
  refine z_X9_machineAt μ a1 (fun k2 μ1 hk490 hf491 => ?_) (fun E9 μ9 e9 f9 => hX E9 μ9 (ex_sub (by decide) e9) (Zr.trans (Zr.rf) (Zr.up (by decide) f9)))
  refine z_X9_makeOrThrow k2 hk490 57 rfl μ1 (0 : Int32) (fun μ3 hf492 => ?_) (fun E9 μ9 e9 f9 => hX E9 μ9 (ex_sub (by decide) e9) (Zr.trans (Zr.trans (Zr.rf) (Zr.up (by decide) hf491)) (Zr.up (by decide) f9)))
  refine ⟨fun c493 => ?_, fun c494 => ?_⟩
  · refine f_X5_isTakingLongOnes 57 rfl μ3 (fun r5 b495 => ?_)
    refine ⟨fun c496 => ?_, fun c497 => ?_⟩
    · exact h _ _ (Zr.trans (Zr.trans (Zr.rf) (Zr.up (by decide) hf491)) (Zr.up (by decide) hf492))
    · exact h _ _ (Zr.trans (Zr.trans (Zr.rf) (Zr.up (by decide) hf491)) (Zr.up (by decide) hf492))
  · refine f_X5_isGoal 57 rfl μ3 (0 : Int32) (fun r9 b498 => ?_)
    refine ⟨fun c499 => ?_, fun c500 => ?_⟩
    · exact h _ _ (Zr.trans (Zr.trans (Zr.rf) (Zr.up (by decide) hf491)) (Zr.up (by decide) hf492))
    · exact h _ _ (Zr.trans (Zr.trans (Zr.rf) (Zr.up (by decide) hf491)) (Zr.up (by decide) hf492))
set_option maxHeartbeats 2000000 in
theorem z_X9_many (μ : TMem) (a1 : Int32) (a2 : Int32) (a3 : Int32) {Q : Int32 → TMem → Prop} {X : String → TMem → Prop} (h : ∀ (r : Int32) (μ9 : TMem), Zr 2 μ μ9 → Q r μ9) (hX : ∀ (E : String) (μ9 : TMem), E ∈ ex_IAS → Zr 2 μ μ9 → X E μ9) : wp_X9_many μ a1 a2 a3 Q X := by
  show wp_X9_machineAt μ a1 (fun (k2 : Nat) (μ1 : TMem) => wp_X9_checkRange μ1 a3 (0 : Int32) (1 : Int32) (fun (μ3 : TMem) => (¬ a3 = (1 : Int32) → (wp_X9_checkRange μ3 a2 (0 : Int32) (12 : Int32) (fun (μ5 : TMem) => (¬ a3 = (1 : Int32) → (wp_X9_makeOrThrow k2 57 μ5 (0 : Int32) (fun (μ7 : TMem) => wp_X8_count 57 μ7 (fun (μ8 : TMem) => wp_X8_from μ8 (0 : Int32) a2 (fun (r9 : Int32) => Q r9 μ8))) X)) ∧ (a3 = (1 : Int32) → (wp_X2_countOneByOne k2 μ5 a2 (fun (r12 : Int32) => Q r12 μ5)))) X)) ∧ (a3 = (1 : Int32) → (wp_X9_checkRange μ3 a2 (0 : Int32) (5 : Int32) (fun (μ15 : TMem) => (¬ a3 = (1 : Int32) → (wp_X9_makeOrThrow k2 57 μ15 (0 : Int32) (fun (μ17 : TMem) => wp_X8_count 57 μ17 (fun (μ18 : TMem) => wp_X8_from μ18 (0 : Int32) a2 (fun (r19 : Int32) => Q r19 μ18))) X)) ∧ (a3 = (1 : Int32) → (wp_X2_countOneByOne k2 μ15 a2 (fun (r22 : Int32) => Q r22 μ15)))) X))) X) X
  refine z_X9_machineAt μ a1 (fun k2 μ1 hk501 hf502 => ?_) (fun E9 μ9 e9 f9 => hX E9 μ9 (ex_sub (by decide) e9) (Zr.trans (Zr.rf) (Zr.up (by decide) f9)))
  refine z_X9_checkRange μ1 a3 (0 : Int32) (1 : Int32) (fun μ3 hf503 => ?_) (fun E9 μ9 e9 f9 => hX E9 μ9 (ex_sub (by decide) e9) (Zr.trans (Zr.trans (Zr.rf) (Zr.up (by decide) hf502)) (Zr.up (by decide) f9)))
  refine ⟨fun c504 => ?_, fun c505 => ?_⟩
  · refine z_X9_checkRange μ3 a2 (0 : Int32) (12 : Int32) (fun μ5 hf506 => ?_) (fun E9 μ9 e9 f9 => hX E9 μ9 (ex_sub (by decide) e9) (Zr.trans (Zr.trans (Zr.trans (Zr.rf) (Zr.up (by decide) hf502)) (Zr.up (by decide) hf503)) (Zr.up (by decide) f9)))
    refine ⟨fun c507 => ?_, fun c508 => ?_⟩
    · refine z_X9_makeOrThrow k2 hk501 57 rfl μ5 (0 : Int32) (fun μ7 hf509 => ?_) (fun E9 μ9 e9 f9 => hX E9 μ9 (ex_sub (by decide) e9) (Zr.trans (Zr.trans (Zr.trans (Zr.trans (Zr.rf) (Zr.up (by decide) hf502)) (Zr.up (by decide) hf503)) (Zr.up (by decide) hf506)) (Zr.up (by decide) f9)))
      refine z_X8_count 57 rfl μ7 (fun μ8 hf510 => ?_)
      refine f_X8_from μ8 (0 : Int32) a2 (fun r9 => ?_)
      exact h _ _ (Zr.trans (Zr.trans (Zr.trans (Zr.trans (Zr.trans (Zr.rf) (Zr.up (by decide) hf502)) (Zr.up (by decide) hf503)) (Zr.up (by decide) hf506)) (Zr.up (by decide) hf509)) (Zr.up (by decide) hf510))
    · refine f_X2_countOneByOne k2 hk501 μ5 a2 (fun r12 => ?_)
      exact h _ _ (Zr.trans (Zr.trans (Zr.trans (Zr.rf) (Zr.up (by decide) hf502)) (Zr.up (by decide) hf503)) (Zr.up (by decide) hf506))
  · refine z_X9_checkRange μ3 a2 (0 : Int32) (5 : Int32) (fun μ15 hf511 => ?_) (fun E9 μ9 e9 f9 => hX E9 μ9 (ex_sub (by decide) e9) (Zr.trans (Zr.trans (Zr.trans (Zr.rf) (Zr.up (by decide) hf502)) (Zr.up (by decide) hf503)) (Zr.up (by decide) f9)))
    refine ⟨fun c512 => ?_, fun c513 => ?_⟩
    · refine z_X9_makeOrThrow k2 hk501 57 rfl μ15 (0 : Int32) (fun μ17 hf514 => ?_) (fun E9 μ9 e9 f9 => hX E9 μ9 (ex_sub (by decide) e9) (Zr.trans (Zr.trans (Zr.trans (Zr.trans (Zr.rf) (Zr.up (by decide) hf502)) (Zr.up (by decide) hf503)) (Zr.up (by decide) hf511)) (Zr.up (by decide) f9)))
      refine z_X8_count 57 rfl μ17 (fun μ18 hf515 => ?_)
      refine f_X8_from μ18 (0 : Int32) a2 (fun r19 => ?_)
      exact h _ _ (Zr.trans (Zr.trans (Zr.trans (Zr.trans (Zr.trans (Zr.rf) (Zr.up (by decide) hf502)) (Zr.up (by decide) hf503)) (Zr.up (by decide) hf511)) (Zr.up (by decide) hf514)) (Zr.up (by decide) hf515))
    · refine f_X2_countOneByOne k2 hk501 μ15 a2 (fun r22 => ?_)
      exact h _ _ (Zr.trans (Zr.trans (Zr.trans (Zr.rf) (Zr.up (by decide) hf502)) (Zr.up (by decide) hf503)) (Zr.up (by decide) hf511))
set_option maxHeartbeats 2000000 in
theorem z_X9_meetOrThrow (k1 : Nat) (hk1 : kd k1 = 2) (k2 : Nat) (hk2 : kd k2 = 2) (μ : TMem)  {Q : TMem → Prop} {X : String → TMem → Prop} (h : ∀ μ9 : TMem, Zr 2 μ μ9 → Q μ9) (hX : ∀ (E : String) (μ9 : TMem), E ∈ ex_S → Zr 2 μ μ9 → X E μ9) : wp_X9_meetOrThrow k1 k2 μ Q X := by
  show wp_X9_meetPairs k1 k2 μ (200 : Int32) (0 : Int32) (fun (r2 : Int32) (μ1 : TMem) => (¬ r2 = 0 → (Q μ1)) ∧ (r2 = 0 → (X "java/lang/IllegalStateException" μ1)))
  refine z_X9_meetPairs k1 hk1 k2 hk2 μ (200 : Int32) (0 : Int32) (fun r2 μ1 b516 hf517 => ?_)
  refine ⟨fun c518 => ?_, fun c519 => ?_⟩
  · exact h _ (Zr.trans (Zr.rf) (Zr.up (by decide) hf517))
  · exact hX _ _ (by decide) (Zr.trans (Zr.rf) (Zr.up (by decide) hf517))
set_option maxHeartbeats 2000000 in
theorem z_X9_isAlike (μ : TMem) (a1 : Int32) (a2 : Int32) (a3 : Int32) {Q : Int32 → TMem → Prop} {X : String → TMem → Prop} (h : ∀ (r : Int32) (μ9 : TMem), isB r → Zr 2 μ μ9 → Q r μ9) (hX : ∀ (E : String) (μ9 : TMem), E ∈ ex_IAS → Zr 2 μ μ9 → X E μ9) : wp_X9_isAlike μ a1 a2 a3 Q X := by
  show wp_X9_machineAt μ a1 (fun (k2 : Nat) (μ1 : TMem) => wp_X9_machineAt μ1 a2 (fun (k4 : Nat) (μ3 : TMem) => wp_X9_checkRange μ3 a3 (0 : Int32) (1 : Int32) (fun (μ5 : TMem) => (¬ a3 = 0 → (wp_X9_makeOrThrow k2 51 μ5 (0 : Int32) (fun (μ7 : TMem) => wp_X9_makeOrThrow k4 53 μ7 (0 : Int32) (fun (μ8 : TMem) => wp_X5_isSameAs 51 53 μ8 (fun (r9 : Int32) => isB r9 ∧ Q r9 μ8)) X) X)) ∧ (a3 = 0 → (wp_X9_meetOrThrow k2 k4 μ5 (fun (μ13 : TMem) => (¬ (μ13 35 9) = (-1 : Int32) → (Q (0 : Int32) μ13)) ∧ ((μ13 35 9) = (-1 : Int32) → (Q (1 : Int32) μ13))) X))) X) X) X
  refine z_X9_machineAt μ a1 (fun k2 μ1 hk520 hf521 => ?_) (fun E9 μ9 e9 f9 => hX E9 μ9 (ex_sub (by decide) e9) (Zr.trans (Zr.rf) (Zr.up (by decide) f9)))
  refine z_X9_machineAt μ1 a2 (fun k4 μ3 hk522 hf523 => ?_) (fun E9 μ9 e9 f9 => hX E9 μ9 (ex_sub (by decide) e9) (Zr.trans (Zr.trans (Zr.rf) (Zr.up (by decide) hf521)) (Zr.up (by decide) f9)))
  refine z_X9_checkRange μ3 a3 (0 : Int32) (1 : Int32) (fun μ5 hf524 => ?_) (fun E9 μ9 e9 f9 => hX E9 μ9 (ex_sub (by decide) e9) (Zr.trans (Zr.trans (Zr.trans (Zr.rf) (Zr.up (by decide) hf521)) (Zr.up (by decide) hf523)) (Zr.up (by decide) f9)))
  refine ⟨fun c525 => ?_, fun c526 => ?_⟩
  · refine z_X9_makeOrThrow k2 hk520 51 rfl μ5 (0 : Int32) (fun μ7 hf527 => ?_) (fun E9 μ9 e9 f9 => hX E9 μ9 (ex_sub (by decide) e9) (Zr.trans (Zr.trans (Zr.trans (Zr.trans (Zr.rf) (Zr.up (by decide) hf521)) (Zr.up (by decide) hf523)) (Zr.up (by decide) hf524)) (Zr.up (by decide) f9)))
    refine z_X9_makeOrThrow k4 hk522 53 rfl μ7 (0 : Int32) (fun μ8 hf528 => ?_) (fun E9 μ9 e9 f9 => hX E9 μ9 (ex_sub (by decide) e9) (Zr.trans (Zr.trans (Zr.trans (Zr.trans (Zr.trans (Zr.rf) (Zr.up (by decide) hf521)) (Zr.up (by decide) hf523)) (Zr.up (by decide) hf524)) (Zr.up (by decide) hf527)) (Zr.up (by decide) f9)))
    refine f_X5_isSameAs 51 rfl 53 rfl μ8 (fun r9 b529 => ?_)
    refine ⟨(by first | assumption | exact Or.inl rfl | exact Or.inr rfl | exact isB_or (by assumption) (by first | assumption | exact Or.inl rfl | exact Or.inr rfl)), ?_⟩
    exact h _ _ (by first | assumption | exact Or.inl rfl | exact Or.inr rfl | exact isB_or (by assumption) (by first | assumption | exact Or.inl rfl | exact Or.inr rfl)) (Zr.trans (Zr.trans (Zr.trans (Zr.trans (Zr.trans (Zr.rf) (Zr.up (by decide) hf521)) (Zr.up (by decide) hf523)) (Zr.up (by decide) hf524)) (Zr.up (by decide) hf527)) (Zr.up (by decide) hf528))
  · refine z_X9_meetOrThrow k2 hk520 k4 hk522 μ5 (fun μ13 hf530 => ?_) (fun E9 μ9 e9 f9 => hX E9 μ9 (ex_sub (by decide) e9) (Zr.trans (Zr.trans (Zr.trans (Zr.trans (Zr.rf) (Zr.up (by decide) hf521)) (Zr.up (by decide) hf523)) (Zr.up (by decide) hf524)) (Zr.up (by decide) f9)))
    refine ⟨fun c531 => ?_, fun c532 => ?_⟩
    · exact h _ _ (by first | assumption | exact Or.inl rfl | exact Or.inr rfl | exact isB_or (by assumption) (by first | assumption | exact Or.inl rfl | exact Or.inr rfl)) (Zr.trans (Zr.trans (Zr.trans (Zr.trans (Zr.rf) (Zr.up (by decide) hf521)) (Zr.up (by decide) hf523)) (Zr.up (by decide) hf524)) (Zr.up (by decide) hf530))
    · exact h _ _ (by first | assumption | exact Or.inl rfl | exact Or.inr rfl | exact isB_or (by assumption) (by first | assumption | exact Or.inl rfl | exact Or.inr rfl)) (Zr.trans (Zr.trans (Zr.trans (Zr.trans (Zr.rf) (Zr.up (by decide) hf521)) (Zr.up (by decide) hf523)) (Zr.up (by decide) hf524)) (Zr.up (by decide) hf530))
set_option maxHeartbeats 2000000 in
theorem z_X9_pairs (μ : TMem) (a1 : Int32) (a2 : Int32) {Q : Int32 → TMem → Prop} {X : String → TMem → Prop} (h : ∀ (r : Int32) (μ9 : TMem), Zr 2 μ μ9 → Q r μ9) (hX : ∀ (E : String) (μ9 : TMem), E ∈ ex_IS → Zr 2 μ μ9 → X E μ9) : wp_X9_pairs μ a1 a2 Q X := by
  show wp_X9_machineAt μ a1 (fun (k2 : Nat) (μ1 : TMem) => wp_X9_machineAt μ1 a2 (fun (k4 : Nat) (μ3 : TMem) => wp_X9_meetOrThrow k2 k4 μ3 (fun (μ5 : TMem) => Q (μ5 35 8) μ5) X) X) X
  refine z_X9_machineAt μ a1 (fun k2 μ1 hk533 hf534 => ?_) (fun E9 μ9 e9 f9 => hX E9 μ9 (ex_sub (by decide) e9) (Zr.trans (Zr.rf) (Zr.up (by decide) f9)))
  refine z_X9_machineAt μ1 a2 (fun k4 μ3 hk535 hf536 => ?_) (fun E9 μ9 e9 f9 => hX E9 μ9 (ex_sub (by decide) e9) (Zr.trans (Zr.trans (Zr.rf) (Zr.up (by decide) hf534)) (Zr.up (by decide) f9)))
  refine z_X9_meetOrThrow k2 hk533 k4 hk535 μ3 (fun μ5 hf537 => ?_) (fun E9 μ9 e9 f9 => hX E9 μ9 (ex_sub (by decide) e9) (Zr.trans (Zr.trans (Zr.trans (Zr.rf) (Zr.up (by decide) hf534)) (Zr.up (by decide) hf536)) (Zr.up (by decide) f9)))
  exact h _ _ (Zr.trans (Zr.trans (Zr.trans (Zr.rf) (Zr.up (by decide) hf534)) (Zr.up (by decide) hf536)) (Zr.up (by decide) hf537))
set_option maxHeartbeats 2000000 in
theorem z_X9_together (μ : TMem) (a1 : Int32) (a2 : Int32) (a3 : Int32) (a4 : Int32) {Q : Int32 → TMem → Prop} {X : String → TMem → Prop} (h : ∀ (r : Int32) (μ9 : TMem), Zr 2 μ μ9 → Q r μ9) (hX : ∀ (E : String) (μ9 : TMem), E ∈ ex_IAS → Zr 2 μ μ9 → X E μ9) : wp_X9_together μ a1 a2 a3 a4 Q X := by
  show wp_X9_machineAt μ a1 (fun (k2 : Nat) (μ1 : TMem) => wp_X9_machineAt μ1 a2 (fun (k4 : Nat) (μ3 : TMem) => wp_X9_checkRange μ3 a3 (0 : Int32) (3 : Int32) (fun (μ5 : TMem) => wp_X9_checkRange μ5 a4 (-1 : Int32) (12 : Int32) (fun (μ6 : TMem) => wp_X9_putTogether k2 k4 μ6 a3 (fun (r8 : Int32) (μ7 : TMem) => (¬ r8 = 0 → ((¬ a4 = (-1 : Int32) → (wp_X8_count 57 μ7 (fun (μ11 : TMem) => wp_X8_from μ11 (0 : Int32) a4 (fun (r12 : Int32) => Q r12 μ11)))) ∧ (a4 = (-1 : Int32) → (Q (μ7 57 1) μ7)))) ∧ (r8 = 0 → (X "java/lang/IllegalStateException" μ7)))) X) X) X) X
  refine z_X9_machineAt μ a1 (fun k2 μ1 hk538 hf539 => ?_) (fun E9 μ9 e9 f9 => hX E9 μ9 (ex_sub (by decide) e9) (Zr.trans (Zr.rf) (Zr.up (by decide) f9)))
  refine z_X9_machineAt μ1 a2 (fun k4 μ3 hk540 hf541 => ?_) (fun E9 μ9 e9 f9 => hX E9 μ9 (ex_sub (by decide) e9) (Zr.trans (Zr.trans (Zr.rf) (Zr.up (by decide) hf539)) (Zr.up (by decide) f9)))
  refine z_X9_checkRange μ3 a3 (0 : Int32) (3 : Int32) (fun μ5 hf542 => ?_) (fun E9 μ9 e9 f9 => hX E9 μ9 (ex_sub (by decide) e9) (Zr.trans (Zr.trans (Zr.trans (Zr.rf) (Zr.up (by decide) hf539)) (Zr.up (by decide) hf541)) (Zr.up (by decide) f9)))
  refine z_X9_checkRange μ5 a4 (-1 : Int32) (12 : Int32) (fun μ6 hf543 => ?_) (fun E9 μ9 e9 f9 => hX E9 μ9 (ex_sub (by decide) e9) (Zr.trans (Zr.trans (Zr.trans (Zr.trans (Zr.rf) (Zr.up (by decide) hf539)) (Zr.up (by decide) hf541)) (Zr.up (by decide) hf542)) (Zr.up (by decide) f9)))
  refine z_X9_putTogether k2 hk538 k4 hk540 μ6 a3 (fun r8 μ7 b544 hf545 => ?_)
  refine ⟨fun c546 => ?_, fun c547 => ?_⟩
  · refine ⟨fun c548 => ?_, fun c549 => ?_⟩
    · refine z_X8_count 57 rfl μ7 (fun μ11 hf550 => ?_)
      refine f_X8_from μ11 (0 : Int32) a4 (fun r12 => ?_)
      exact h _ _ (Zr.trans (Zr.trans (Zr.trans (Zr.trans (Zr.trans (Zr.trans (Zr.rf) (Zr.up (by decide) hf539)) (Zr.up (by decide) hf541)) (Zr.up (by decide) hf542)) (Zr.up (by decide) hf543)) (Zr.up (by decide) hf545)) (Zr.up (by decide) hf550))
    · exact h _ _ (Zr.trans (Zr.trans (Zr.trans (Zr.trans (Zr.trans (Zr.rf) (Zr.up (by decide) hf539)) (Zr.up (by decide) hf541)) (Zr.up (by decide) hf542)) (Zr.up (by decide) hf543)) (Zr.up (by decide) hf545))
  · exact hX _ _ (by decide) (Zr.trans (Zr.trans (Zr.trans (Zr.trans (Zr.trans (Zr.rf) (Zr.up (by decide) hf539)) (Zr.up (by decide) hf541)) (Zr.up (by decide) hf542)) (Zr.up (by decide) hf543)) (Zr.up (by decide) hf545))
set_option maxHeartbeats 2000000 in
theorem z_X9_isSound (μ : TMem)  {Q : Int32 → TMem → Prop} {X : String → TMem → Prop} (h : ∀ (r : Int32) (μ9 : TMem), isB r → Zr 2 μ μ9 → Q r μ9) (hX : ∀ (E : String) (μ9 : TMem), E ∈ ex_ → Zr 2 μ μ9 → X E μ9) : wp_X9_isSound μ Q X := by
  show wp_X9_machineAt μ (0 : Int32) (fun (k2 : Nat) (μ1 : TMem) => wp_X3_makeBy k2 57 μ1 (0 : Int32) (fun (r4 : Int32) (μ3 : TMem) => (¬ r4 = 0 → (wp_X3_makeBy k2 51 μ3 (1 : Int32) (fun (r7 : Int32) (μ6 : TMem) => (r7 = 0 → (Q (0 : Int32) μ6)) ∧ (¬ r7 = 0 → (wp_X5_isSameAs 51 57 μ6 (fun (r9 : Int32) => (¬ r9 = 0 → (wp_X3_makeBy k2 51 μ6 (2 : Int32) (fun (r14 : Int32) (μ13 : TMem) => (r14 = 0 → (wp_X2_becomePlain 12 57 μ13 (fun (μ16 : TMem) => wp_X3_makeBy 12 51 μ16 (0 : Int32) (fun (r18 : Int32) (μ17 : TMem) => (r18 = 0 → (Q (0 : Int32) μ17)) ∧ (¬ r18 = 0 → (wp_X5_isSameAs 51 57 μ17 (fun (r20 : Int32) => (¬ r20 = 0 → (wp_X9_isTakingTheSame k2 μ17 (fun (r24 : Int32) => isB r24 ∧ Q r24 μ17))) ∧ (r20 = 0 → (Q (0 : Int32) μ17))))))))) ∧ (¬ r14 = 0 → (wp_X5_isSameAs 51 57 μ13 (fun (r28 : Int32) => (¬ r28 = 0 → (wp_X2_becomePlain 12 57 μ13 (fun (μ32 : TMem) => wp_X3_makeBy 12 51 μ32 (0 : Int32) (fun (r34 : Int32) (μ33 : TMem) => (r34 = 0 → (Q (0 : Int32) μ33)) ∧ (¬ r34 = 0 → (wp_X5_isSameAs 51 57 μ33 (fun (r36 : Int32) => (¬ r36 = 0 → (wp_X9_isTakingTheSame k2 μ33 (fun (r40 : Int32) => isB r40 ∧ Q r40 μ33))) ∧ (r36 = 0 → (Q (0 : Int32) μ33))))))))) ∧ (r28 = 0 → (Q (0 : Int32) μ13)))))))) ∧ (r9 = 0 → (Q (0 : Int32) μ6)))))))) ∧ (r4 = 0 → (Q (1 : Int32) μ3)))) X
  refine z_machineAt0 μ (fun k2 μ1 hk556 hf557 => ?_)
  refine z_X3_makeBy k2 hk556 57 rfl μ1 (0 : Int32) (fun r4 μ3 b558 hf559 => ?_)
  refine ⟨fun c560 => ?_, fun c561 => ?_⟩
  · refine z_X3_makeBy k2 hk556 51 rfl μ3 (1 : Int32) (fun r7 μ6 b562 hf563 => ?_)
    refine ⟨fun c564 => ?_, fun c565 => ?_⟩
    · exact h _ _ (by first | assumption | exact Or.inl rfl | exact Or.inr rfl | exact isB_or (by assumption) (by first | assumption | exact Or.inl rfl | exact Or.inr rfl)) (Zr.trans (Zr.trans (Zr.trans (Zr.rf) (Zr.up (by decide) hf557)) (Zr.up (by decide) hf559)) (Zr.up (by decide) hf563))
    · refine f_X5_isSameAs 51 rfl 57 rfl μ6 (fun r9 b566 => ?_)
      refine ⟨fun c567 => ?_, fun c568 => ?_⟩
      · refine z_X3_makeBy k2 hk556 51 rfl μ6 (2 : Int32) (fun r14 μ13 b569 hf570 => ?_)
        refine ⟨fun c571 => ?_, fun c572 => ?_⟩
        · refine z_X2_becomePlain 12 ⟨rfl, by decide⟩ 57 rfl μ13 (fun μ16 hf573 => ?_)
          refine z_X3_makeBy 12 rfl 51 rfl μ16 (0 : Int32) (fun r18 μ17 b574 hf575 => ?_)
          refine ⟨fun c576 => ?_, fun c577 => ?_⟩
          · exact h _ _ (by first | assumption | exact Or.inl rfl | exact Or.inr rfl | exact isB_or (by assumption) (by first | assumption | exact Or.inl rfl | exact Or.inr rfl)) (Zr.trans (Zr.trans (Zr.trans (Zr.trans (Zr.trans (Zr.trans (Zr.rf) (Zr.up (by decide) hf557)) (Zr.up (by decide) hf559)) (Zr.up (by decide) hf563)) (Zr.up (by decide) hf570)) (Zr.up (by decide) hf573)) (Zr.up (by decide) hf575))
          · refine f_X5_isSameAs 51 rfl 57 rfl μ17 (fun r20 b578 => ?_)
            refine ⟨fun c579 => ?_, fun c580 => ?_⟩
            · refine f_X9_isTakingTheSame k2 hk556 μ17 (fun r24 b581 => ?_)
              refine ⟨(by first | assumption | exact Or.inl rfl | exact Or.inr rfl | exact isB_or (by assumption) (by first | assumption | exact Or.inl rfl | exact Or.inr rfl)), ?_⟩
              exact h _ _ (by first | assumption | exact Or.inl rfl | exact Or.inr rfl | exact isB_or (by assumption) (by first | assumption | exact Or.inl rfl | exact Or.inr rfl)) (Zr.trans (Zr.trans (Zr.trans (Zr.trans (Zr.trans (Zr.trans (Zr.rf) (Zr.up (by decide) hf557)) (Zr.up (by decide) hf559)) (Zr.up (by decide) hf563)) (Zr.up (by decide) hf570)) (Zr.up (by decide) hf573)) (Zr.up (by decide) hf575))
            · exact h _ _ (by first | assumption | exact Or.inl rfl | exact Or.inr rfl | exact isB_or (by assumption) (by first | assumption | exact Or.inl rfl | exact Or.inr rfl)) (Zr.trans (Zr.trans (Zr.trans (Zr.trans (Zr.trans (Zr.trans (Zr.rf) (Zr.up (by decide) hf557)) (Zr.up (by decide) hf559)) (Zr.up (by decide) hf563)) (Zr.up (by decide) hf570)) (Zr.up (by decide) hf573)) (Zr.up (by decide) hf575))
        · refine f_X5_isSameAs 51 rfl 57 rfl μ13 (fun r28 b582 => ?_)
          refine ⟨fun c583 => ?_, fun c584 => ?_⟩
          · refine z_X2_becomePlain 12 ⟨rfl, by decide⟩ 57 rfl μ13 (fun μ32 hf585 => ?_)
            refine z_X3_makeBy 12 rfl 51 rfl μ32 (0 : Int32) (fun r34 μ33 b586 hf587 => ?_)
            refine ⟨fun c588 => ?_, fun c589 => ?_⟩
            · exact h _ _ (by first | assumption | exact Or.inl rfl | exact Or.inr rfl | exact isB_or (by assumption) (by first | assumption | exact Or.inl rfl | exact Or.inr rfl)) (Zr.trans (Zr.trans (Zr.trans (Zr.trans (Zr.trans (Zr.trans (Zr.rf) (Zr.up (by decide) hf557)) (Zr.up (by decide) hf559)) (Zr.up (by decide) hf563)) (Zr.up (by decide) hf570)) (Zr.up (by decide) hf585)) (Zr.up (by decide) hf587))
            · refine f_X5_isSameAs 51 rfl 57 rfl μ33 (fun r36 b590 => ?_)
              refine ⟨fun c591 => ?_, fun c592 => ?_⟩
              · refine f_X9_isTakingTheSame k2 hk556 μ33 (fun r40 b593 => ?_)
                refine ⟨(by first | assumption | exact Or.inl rfl | exact Or.inr rfl | exact isB_or (by assumption) (by first | assumption | exact Or.inl rfl | exact Or.inr rfl)), ?_⟩
                exact h _ _ (by first | assumption | exact Or.inl rfl | exact Or.inr rfl | exact isB_or (by assumption) (by first | assumption | exact Or.inl rfl | exact Or.inr rfl)) (Zr.trans (Zr.trans (Zr.trans (Zr.trans (Zr.trans (Zr.trans (Zr.rf) (Zr.up (by decide) hf557)) (Zr.up (by decide) hf559)) (Zr.up (by decide) hf563)) (Zr.up (by decide) hf570)) (Zr.up (by decide) hf585)) (Zr.up (by decide) hf587))
              · exact h _ _ (by first | assumption | exact Or.inl rfl | exact Or.inr rfl | exact isB_or (by assumption) (by first | assumption | exact Or.inl rfl | exact Or.inr rfl)) (Zr.trans (Zr.trans (Zr.trans (Zr.trans (Zr.trans (Zr.trans (Zr.rf) (Zr.up (by decide) hf557)) (Zr.up (by decide) hf559)) (Zr.up (by decide) hf563)) (Zr.up (by decide) hf570)) (Zr.up (by decide) hf585)) (Zr.up (by decide) hf587))
          · exact h _ _ (by first | assumption | exact Or.inl rfl | exact Or.inr rfl | exact isB_or (by assumption) (by first | assumption | exact Or.inl rfl | exact Or.inr rfl)) (Zr.trans (Zr.trans (Zr.trans (Zr.trans (Zr.rf) (Zr.up (by decide) hf557)) (Zr.up (by decide) hf559)) (Zr.up (by decide) hf563)) (Zr.up (by decide) hf570))
      · exact h _ _ (by first | assumption | exact Or.inl rfl | exact Or.inr rfl | exact isB_or (by assumption) (by first | assumption | exact Or.inl rfl | exact Or.inr rfl)) (Zr.trans (Zr.trans (Zr.trans (Zr.rf) (Zr.up (by decide) hf557)) (Zr.up (by decide) hf559)) (Zr.up (by decide) hf563))
  · exact h _ _ (by first | assumption | exact Or.inl rfl | exact Or.inr rfl | exact isB_or (by assumption) (by first | assumption | exact Or.inl rfl | exact Or.inr rfl)) (Zr.trans (Zr.trans (Zr.rf) (Zr.up (by decide) hf557)) (Zr.up (by decide) hf559))
set_option maxHeartbeats 2000000 in
theorem z_X9_digest (μ : TMem)  {Q : Int64 → TMem → Prop} {X : String → TMem → Prop} (h : ∀ (r : Int64) (μ9 : TMem), Zr 2 μ μ9 → Q r μ9) (hX : ∀ (E : String) (μ9 : TMem), E ∈ ex_ → Zr 2 μ μ9 → X E μ9) : wp_X9_digest μ Q X := by
  show ∃ n0x, wpl_X9_digest_6 μ (fun (u10 : Int64) => wp_X9_isSound μ (fun (r12 : Int32) (μ11 : TMem) => (r12 = 0 → (Q ((((((((u10 * (31 : Int64)) + (μ 0 11).toInt64) * (31 : Int64)) + (μ 0 12).toInt64) * (31 : Int64)) + (μ 0 13).toInt64) * (31 : Int64)) + (0 : Int32).toInt64) μ11)) ∧ (¬ r12 = 0 → (Q ((((((((u10 * (31 : Int64)) + (μ 0 11).toInt64) * (31 : Int64)) + (μ 0 12).toInt64) * (31 : Int64)) + (μ 0 13).toInt64) * (31 : Int64)) + (1 : Int32).toInt64) μ11))) X) n0x (0 : Int32) (8025 : Int64)
  refine ⟨_, fl_wpl_X9_digest_6 μ ?_ _ (0 : Int32) (8025 : Int64) (Nat.lt_succ_self _) (by first | decide | omega)⟩
  · intro u10
    refine z_X9_isSound μ (fun r12 μ11 b595 hf596 => ?_) (fun E9 μ9 e9 f9 => hX E9 μ9 e9 (Zr.trans (Zr.rf) (Zr.up (by decide) f9)))
    refine ⟨fun c597 => ?_, fun c598 => ?_⟩
    · exact h _ _ (Zr.trans (Zr.rf) (Zr.up (by decide) hf596))
    · exact h _ _ (Zr.trans (Zr.rf) (Zr.up (by decide) hf596))
theorem y_numberOf (k2 : Nat) (hk2 : kd k2 = 5) (μ : TMem) (a1 : Int32) {Q : Int32 → TMem → Prop} (hS : (μ k2 1).toInt ≤ 32) (h : ∀ (r : Int32) (μ9 : TMem), Zr 2 μ μ9 → (μ9 k2 1).toInt ≤ 32 → Q r μ9) : wp_X3_numberOf k2 μ a1 Q := by
  unfold wp_X3_numberOf
  refine f_X6_find 16 rfl μ a1 (μ k2 1) (fun r1 => ⟨fun _ => h _ _ Zr.rf hS, fun _ => ⟨fun c => ?_, fun _ => h _ _ Zr.rf hS⟩⟩)
  refine z_X6_put 16 rfl μ (μ k2 1) a1 (Or.inl (by decide)) (fun μ6 f6 => h _ _ (zt2 (zu2 f6) hk2) ?_)
  rw [tms_at, zk5 hk2 f6]
  have c1 := l_lt.mp c
  rw [show (32 : Int32).toInt = 32 from rfl] at c1
  have := inc_b (x := μ k2 1) (b := 31) (by omega) (by omega)
  omega
theorem y_makeOneWay_78 (μ0 : TMem) (k1 : Nat) (hk1 : kd k1 = 2) (k2 : Nat) (hk2 : kd k2 = 5) (v15 : Int32) (v16 : Int32) {K122 : TMem → Prop} {Q : Int32 → TMem → Prop} (hK122 : ∀ (u0 : TMem), Zr 2 μ0 u0 → (u0 k2 1).toInt ≤ 32 → K122 u0) (h : ∀ (r : Int32) (μ9 : TMem), isB r → Zr 2 μ0 μ9 → (μ9 k2 1).toInt ≤ 32 → Q r μ9) : ∀ (n : Nat) (v14 : Int32) (μ17 : TMem), (((3 : Int32)).toInt - (v14).toInt).toNat < n → 0 ≤ (v14).toInt → Zr 2 μ0 μ17 → (μ17 k2 1).toInt ≤ 32 → wpl_X3_makeOneWay_78 k1 k2 v15 v16 K122 Q n v14 μ17 := by
  intro n
  induction n with
  | zero => intro v14 μ17 hm; exact absurd hm (Nat.not_lt_zero _)
  | succ n ih =>
    intro v14 μ17 hm hi hF hS
    refine ⟨fun c_ex => hK122 μ17 hF hS, fun c_lt => ?_⟩
    refine f_X2_reach k1 hk1 μ17 v15 v14 (fun r19 => ?_)
    refine y_numberOf k2 hk2 μ17 r19 hS (fun r23 μ22 f22 hS2 => ?_)
    refine ⟨fun _ => ?_, fun _ => h _ _ (Or.inl rfl) (hF.trans f22) hS2⟩
    refine z_X7_put k2 ⟨Or.inr hk2, kd5' hk2⟩ μ22 v16 v14 r23 (fun μ25 f25 => ?_)
    exact ih (v14 + (1 : Int32)) μ25 (lt_m c_lt (by omega)) (lt_p hi c_lt) ((hF.trans f22).trans (zu2 f25)) (by rw [zk5 hk2 f25]; exact hS2)
theorem y_makeOneWay_24 (μ0 : TMem) (k1 : Nat) (hk1 : kd k1 = 2) (k2 : Nat) (hk2 : kd k2 = 5) {Q : Int32 → TMem → Prop} (h : ∀ (r : Int32) (μ9 : TMem), isB r → Zr 2 μ0 μ9 → (μ9 k2 1).toInt ≤ 32 → Q r μ9) : ∀ (n : Nat) (v3 : Int32) (μ4 : TMem), (((32 : Int32)).toInt - (v3).toInt).toNat < n → 0 ≤ (v3).toInt → Zr 2 μ0 μ4 → (μ4 k2 1).toInt ≤ 32 → wpl_X3_makeOneWay_24 k1 k2 Q n v3 μ4 := by
  intro n
  induction n with
  | zero => intro v3 μ4 hm; exact absurd hm (Nat.not_lt_zero _)
  | succ n ih =>
    intro v3 μ4 hm hi hF hS
    refine ⟨fun c_ex => h _ _ (Or.inr rfl) hF hS, fun c_lt => ⟨fun _ => h _ _ (Or.inr rfl) hF hS, fun _ => ?_⟩⟩
    refine f_X6_at 16 rfl μ4 v3 (fun r7 => ?_)
    have key : ∀ j11 : Int32, wp_X9_withOrWithout (μ4 k2 2) v3 j11 (fun (r12 : Int32) => ∃ n12x, wpl_X3_makeOneWay_78 k1 k2 r7 v3 (fun (μ27 : TMem) => wpl_X3_makeOneWay_24 k1 k2 Q n (v3 + (1 : Int32)) μ27) Q n12x (0 : Int32) (tms μ4 k2 2 r12)) := fun j11 => by
      refine f_X9_withOrWithout (μ4 k2 2) v3 j11 (fun r12 => ?_)
      have hS3 : ((tms μ4 k2 2 r12) k2 1).toInt ≤ 32 := by rw [tms_o (by decide)]; exact hS
      exact ⟨_, y_makeOneWay_78 μ0 k1 hk1 k2 hk2 r7 v3 (fun μ27 f27 hS27 => ih (v3 + (1 : Int32)) μ27 (lt_m c_lt (by omega)) (lt_p hi c_lt) f27 hS27) h _ (0 : Int32) _ (Nat.lt_succ_self _) (by decide) (zt2 hF hk2) hS3⟩
    intro J10 hJ10
    exact ⟨fun _ => hJ10 _ (key _), fun _ => hJ10 _ (key _)⟩
theorem y_makeOneWay (k1 : Nat) (hk1 : kd k1 = 2) (k2 : Nat) (hk2 : kd k2 = 5) (μ : TMem) {Q : Int32 → TMem → Prop} (h : ∀ (r : Int32) (μ9 : TMem), isB r → Zr 2 μ μ9 → (μ9 k2 1).toInt ≤ 32 → Q r μ9) : wp_X3_makeOneWay k1 k2 μ Q := by
  refine z_X6_put 16 rfl μ (0 : Int32) (μ k1 3) (Or.inl (by decide)) (fun μ1 f1 => ?_)
  exact ⟨_, y_makeOneWay_24 μ k1 hk1 k2 hk2 h _ (0 : Int32) _ (Nat.lt_succ_self _) (by decide) (zt2 (zt2 (zu2 f1) hk2) hk2) (by rw [tms_o (by decide), tms_at]; decide)⟩
theorem y_groupNumber (k2 : Nat) (hk2 : kd k2 = 5) (μ : TMem) (a1 : Int32) {Q : Int32 → TMem → Prop} {b : Int} (hb : 0 ≤ b) (hb2 : b < 1000) (hS : (μ k2 1).toInt ≤ b) (h : ∀ (r : Int32) (μ9 : TMem), Zr 2 μ μ9 → (μ9 k2 1).toInt ≤ b + 1 → Q r μ9) : wp_X3_groupNumber k2 μ a1 Q := by
  unfold wp_X3_groupNumber
  refine f_X1_partOf μ a1 (fun r1 => ?_)
  refine f_X6_at 20 rfl μ r1 (fun r4 => ?_)
  intro J7 hJ7
  refine ⟨fun _ => ?_, fun _ => ?_⟩
  · exact f_X6_at 20 rfl μ r1 (fun r13 => h _ _ Zr.rf (by omega))
  · refine z_X6_put 20 rfl μ r1 (μ k2 1) (Or.inl (by decide)) (fun μ16 f16 => ?_)
    refine z_X6_put 18 rfl μ16 (μ16 k2 1) a1 (Or.inl (by decide)) (fun μ17 f17 => ?_)
    refine hJ7 _ ?_
    refine f_X6_at 20 rfl _ r1 (fun r9 => h _ _ (zt2 (zu2 (f16.trans f17)) hk2) ?_)
    rw [tms_at, zk5 hk2 (f16.trans f17)]
    exact inc_b hS (by omega)
theorem y_makeGroups_90 (μ0 : TMem) (k1 : Nat) (hk1 : kd k1 = 5) (k2 : Nat) (hk2 : kd k2 = 5) (v21 : Int32) (v22 : Int32) (b : Int) (hb : 0 ≤ b) (hb2 : b < 500) {K122 : TMem → Prop} (hK122 : ∀ (u0 : TMem), Zr 2 μ0 u0 → (u0 k2 1).toInt ≤ b + 3 → K122 u0) : ∀ (n : Nat) (v20 : Int32) (μ23 : TMem), (((3 : Int32)).toInt - (v20).toInt).toNat < n → 0 ≤ (v20).toInt → v20.toInt ≤ 3 → Zr 2 μ0 μ23 → (μ23 k2 1).toInt ≤ b + v20.toInt → wpl_X3_makeGroups_90 k1 k2 v21 v22 K122 n v20 μ23 := by
  intro n
  induction n with
  | zero => intro v20 μ23 hm; exact absurd hm (Nat.not_lt_zero _)
  | succ n ih =>
    intro v20 μ23 hm hi h3 hF hS
    refine ⟨fun c_ex => hK122 μ23 hF (by omega), fun c_lt => ?_⟩
    have c1 := nle c_lt
    have e1 := inc_i c_lt
    rw [show (3 : Int32).toInt = 3 from rfl] at c1
    refine f_X7_at k1 (Or.inr hk1) μ23 v21 v20 (fun r25 => ?_)
    refine y_groupNumber k2 hk2 μ23 r25 (b := b + v20.toInt) (by omega) (by omega) hS (fun r29 μ28 f28 hS2 => ?_)
    refine z_X7_put k2 ⟨Or.inr hk2, kd5' hk2⟩ μ28 v22 v20 r29 (fun μ30 f30 => ?_)
    exact ih (v20 + (1 : Int32)) μ30 (lt_m c_lt (by omega)) (lt_p hi c_lt) (by omega) ((hF.trans f28).trans (zu2 f30)) (by rw [zk5 hk2 f30]; omega)
theorem y_makeGroups_45 (μ0 : TMem) (k1 : Nat) (hk1 : kd k1 = 5) (k2 : Nat) (hk2 : kd k2 = 5) {Q : TMem → Prop} (h : ∀ μ9 : TMem, Zr 2 μ0 μ9 → (μ9 k2 1).toInt ≤ 97 → Q μ9) : ∀ (n : Nat) (v8 : Int32) (μ9 : TMem), (((32 : Int32)).toInt - (v8).toInt).toNat < n → 0 ≤ (v8).toInt → v8.toInt ≤ 32 → Zr 2 μ0 μ9 → (μ9 k2 1).toInt ≤ 1 + 3 * v8.toInt → wpl_X3_makeGroups_45 k1 k2 Q n v8 μ9 := by
  intro n
  induction n with
  | zero => intro v8 μ9 hm; exact absurd hm (Nat.not_lt_zero _)
  | succ n ih =>
    intro v8 μ9 hm hi h32 hF hS
    refine ⟨fun c_ex => h _ hF (by omega), fun c_lt => ⟨fun _ => h _ hF (by omega), fun _ => ?_⟩⟩
    have c1 := nle c_lt
    have e1 := inc_i c_lt
    rw [show (32 : Int32).toInt = 32 from rfl] at c1
    refine f_X6_at 18 rfl μ9 v8 (fun r12 => ?_)
    refine f_X5_isGoal k1 hk1 μ9 r12 (fun r15 b152 => ?_)
    refine f_X9_withOrWithout (μ9 k2 2) v8 r15 (fun r18 => ?_)
    have hS3 : ((tms μ9 k2 2 r18) k2 1).toInt ≤ 1 + 3 * v8.toInt + (0 : Int32).toInt := by rw [tms_o (by decide), ii_0]; omega
    exact ⟨_, y_makeGroups_90 μ0 k1 hk1 k2 hk2 r12 v8 (1 + 3 * v8.toInt) (by omega) (by omega) (fun μ32 f32 hS32 => ih (v8 + (1 : Int32)) μ32 (lt_m c_lt (by omega)) (lt_p hi c_lt) (by omega) f32 (by omega)) _ (0 : Int32) _ (Nat.lt_succ_self _) (by decide) (by decide) (zt2 hF hk2) hS3⟩
theorem y_makeGroups (k1 : Nat) (hk1 : kd k1 = 5) (k2 : Nat) (hk2 : kd k2 = 5) (μ : TMem) {Q : TMem → Prop} (h : ∀ μ9 : TMem, Zr 2 μ μ9 → (μ9 k2 1).toInt ≤ 97 → Q μ9) : wp_X3_makeGroups k1 k2 μ Q := by
  refine z_X6_fill 20 rfl μ (-1 : Int32) (by decide) (fun μ1 f1 => ?_)
  refine f_X1_partOf μ1 (0 : Int32) (fun r2 => ?_)
  refine z_X6_put 20 rfl μ1 r2 (0 : Int32) (Or.inl (by decide)) (fun μ5 f5 => ?_)
  refine z_X6_put 18 rfl μ5 (0 : Int32) (0 : Int32) (Or.inl (by decide)) (fun μ6 f6 => ?_)
  exact ⟨_, y_makeGroups_45 μ k1 hk1 k2 hk2 h _ (0 : Int32) _ (Nat.lt_succ_self _) (by decide) (by decide) (zt2 (zt2 (zu2 ((f1.trans f5).trans f6)) hk2) hk2) (by rw [tms_o (by decide), tms_at]; decide)⟩
theorem y_makeByTurning (k1 : Nat) (hk1 : kd k1 = 2) (k2 : Nat) (hk2 : kd k2 = 5) (μ : TMem) {Q : Int32 → TMem → Prop} (h : ∀ (r : Int32) (μ9 : TMem), isB r → Zr 2 μ μ9 → (r ≠ 0 → (μ9 k2 1).toInt ≤ 97) → Q r μ9) : wp_X3_makeByTurning k1 k2 μ Q := by
  refine z_X2_becomeRound 31 ⟨rfl, by decide⟩ k1 hk1 μ (fun μ1 f1 => ?_)
  refine z_X3_makeOneWay 31 rfl 33 rfl μ1 (fun r3 μ2 b2 f2 => ⟨fun _ => ?_, fun _ => h _ _ (Or.inl rfl) (f1.trans f2) (fun z => absurd rfl z)⟩)
  refine z_X2_becomePlain 29 ⟨rfl, by decide⟩ 33 rfl μ2 (fun μ5 f5 => ?_)
  refine z_X2_becomeRound 31 ⟨rfl, by decide⟩ 29 rfl μ5 (fun μ6 f6 => ?_)
  exact y_makeOneWay 31 rfl k2 hk2 μ6 (fun r8 μ7 b8 f7 hS => ⟨b8, h _ _ b8 ((((f1.trans f2).trans f5).trans f6).trans f7) (fun _ => by omega)⟩)
theorem y_makeBy (k2 : Nat) (hk2 : kd k2 = 2) (k3 : Nat) (hk3 : kd k3 = 5) (μ : TMem) (a1 : Int32) {Q : Int32 → TMem → Prop} (h : ∀ (r : Int32) (μ9 : TMem), isB r → Zr 2 μ μ9 → (r ≠ 0 → (μ9 k3 1).toInt ≤ 97) → Q r μ9) : wp_X3_makeBy k2 k3 μ a1 Q := by
  refine ⟨fun _ => ⟨fun _ => ?_, fun _ => ?_⟩, fun _ => ?_⟩
  · refine z_X3_makeOneWay k2 hk2 33 rfl μ (fun r4 μ3 b4 f3 => ⟨fun _ => ?_, fun _ => h _ _ (Or.inl rfl) f3 (fun z => absurd rfl z)⟩)
    intro J6 hJ6
    refine ⟨fun _ => ?_, fun _ => ?_⟩
    · refine z_X1_findByParting 33 rfl μ3 (fun μ10 f10 => hJ6 μ10 ?_)
      exact y_makeGroups 33 rfl k3 hk3 μ10 (fun μ8 f8 hS => h _ _ (Or.inr rfl) ((f3.trans (zu2 f10)).trans f8) (fun _ => hS))
    · refine z_X1_findByPairs 33 rfl μ3 (fun μ10 f10 => hJ6 μ10 ?_)
      exact y_makeGroups 33 rfl k3 hk3 μ10 (fun μ8 f8 hS => h _ _ (Or.inr rfl) ((f3.trans (zu2 f10)).trans f8) (fun _ => hS))
  · exact y_makeByTurning k2 hk2 k3 hk3 μ (fun r μ9 b9 f9 hS => ⟨b9, h _ _ b9 f9 hS⟩)
  · exact y_makeOneWay k2 hk2 k3 hk3 μ (fun r μ9 b9 f9 hS => ⟨b9, h _ _ b9 f9 (fun _ => by omega)⟩)
theorem y_makeOrThrow (k2 : Nat) (hk2 : kd k2 = 2) (k3 : Nat) (hk3 : kd k3 = 5) (μ : TMem) (a1 : Int32) {Q : TMem → Prop} {X : String → TMem → Prop} (h : ∀ μ9 : TMem, Zr 2 μ μ9 → (μ9 k3 1).toInt ≤ 97 → Q μ9) (hX : ∀ (E : String) (μ9 : TMem), E ∈ ex_S → Zr 2 μ μ9 → X E μ9) : wp_X9_makeOrThrow k2 k3 μ a1 Q X :=
  y_makeBy k2 hk2 k3 hk3 μ a1 (fun r μ9 b9 f9 hS => ⟨fun c => h _ f9 (hS c), fun _ => hX _ _ (by decide) f9⟩)
theorem z_X9_text (μ : TMem) (a1 : Int32) (a2 : Int32) {Q : TMem → Prop} {X : String → TMem → Prop} (h : ∀ μ9 : TMem, Zr 2 μ μ9 → Q μ9) (hX : ∀ (E : String) (μ9 : TMem), E ∈ ex_IAS → Zr 2 μ μ9 → X E μ9) : wp_X9_text μ a1 a2 Q X := by
  refine z_X9_machineAt μ a1 (fun k2 μ1 hk2 f1 => ?_) (fun E μ9 e9 f9 => hX E μ9 (ex_sub (by decide) e9) (zu2 f9))
  refine z_X9_checkRange μ1 a2 (0 : Int32) (3 : Int32) (fun μ3 f3 => ?_) (fun E μ9 e9 f9 => hX E μ9 (ex_sub (by decide) e9) (zu2 (f1.trans f9)))
  exact y_makeOrThrow k2 hk2 57 rfl μ3 a2 (fun μ4 f4 hS => ⟨by omega, h _ ((zu2 (f1.trans f3)).trans f4)⟩) (fun E μ9 e9 f9 => hX E μ9 (ex_sub (by decide) e9) ((zu2 (f1.trans f3)).trans f9))
theorem z_X9_word (μ : TMem) (a1 : Int32) (a2 : Int32) {Q : TMem → Prop} {X : String → TMem → Prop} (h : ∀ μ9 : TMem, Zr 2 μ μ9 → Q μ9) (hX : ∀ (E : String) (μ9 : TMem), E ∈ ex_IAS → Zr 2 μ μ9 → X E μ9) : wp_X9_word μ a1 a2 Q X := by
  refine z_X9_machineAt μ a1 (fun k2 μ1 hk2 f1 => ?_) (fun E μ9 e9 f9 => hX E μ9 (ex_sub (by decide) e9) (zu2 f9))
  refine ⟨fun _ => ?_, fun _ => hX _ _ (by decide) (zu2 f1)⟩
  refine z_X9_makeOrThrow k2 hk2 57 rfl μ1 (0 : Int32) (fun μ4 f4 => ?_) (fun E μ9 e9 f9 => hX E μ9 (ex_sub (by decide) e9) ((zu2 f1).trans f9))
  exact z_X8_count 57 rfl μ4 (fun μ5 f5 => h _ (((zu2 f1).trans f4).trans (f5.up (by decide))))
theorem z_X9_apart (μ : TMem) (a1 : Int32) (a2 : Int32) {Q : TMem → Prop} {X : String → TMem → Prop} (hG : GB μ) (h : ∀ μ9 : TMem, Zr 2 μ μ9 → Q μ9) (hX : ∀ (E : String) (μ9 : TMem), E ∈ ex_IS → Zr 2 μ μ9 → X E μ9) : wp_X9_apart μ a1 a2 Q X := by
  refine z_X9_machineAt μ a1 (fun k2 μ1 hk2 f1 => ?_) (fun E μ9 e9 f9 => hX E μ9 (ex_sub (by decide) e9) (zu2 f9))
  refine z_X9_machineAt μ1 a2 (fun k4 μ3 hk4 f3 => ?_) (fun E μ9 e9 f9 => hX E μ9 (ex_sub (by decide) e9) (zu2 (f1.trans f9)))
  refine z_X9_meetOrThrow k2 hk2 k4 hk4 μ3 (fun μ5 f5 => ?_) (fun E μ9 e9 f9 => hX E μ9 (ex_sub (by decide) e9) ((zu2 (f1.trans f3)).trans f9))
  have f9 := (zu2 (f1.trans f3)).trans f5
  exact ⟨fun _ => ⟨f9.1.2 hG, h _ f9⟩, fun _ => h _ f9⟩
end ZFR
end
/-! part 9saq.sim -/
section
section SIMS
variable {μ ν : TMem} {S : Nat → AM} {a r k t : Int32} {a1 a2 a3 a4 a5 : Int32} {m : Nat} {A : AM}
theorem aC_AV {n : Nat} (h1 : 1 ≤ n) (h7 : n ≤ 7) : AV (aC n) := ⟨h1, h7, by show nn 1 < 2 ^ n; rw [show nn 1 = 1 from by decide]; exact Nat.one_lt_two_pow (by omega), by show nn 0 < 2 ^ n; rw [nn_0]; exact Nat.two_pow_pos n, fun j _ => by show nn 0 < 2 ^ n; rw [nn_0]; exact Nat.two_pow_pos n, fun _ _ => rfl⟩
theorem wW_lt {x b : Int32} {u n : Nat} (hx : nn x < 2 ^ n) (hu : u < n) (hn : n ≤ 7) : nn (wW x u b) < 2 ^ n := by
  rw [wW]
  split
  · rw [nn_and]; exact Nat.lt_of_le_of_lt Nat.and_le_left hx
  · rw [nn_or, nn_two u (by omega)]
    exact Nat.or_lt_two_pow hx (Nat.pow_lt_pow_right (by decide) hu)
theorem aI_AV {i : Nat} {v : Int32} (hv : AV A) (hi : i < 3 * A.1) (h : nn v < 2 ^ A.1) : AV (aI A i v) := by
  obtain ⟨h1, h2, h3, h4, h5, h6⟩ := hv
  refine ⟨h1, h2, h3, h4, fun j hj => ?_, fun j hj => ?_⟩
  · show nn (if j = i then v else A.2.2.2 j) < 2 ^ A.1
    split
    · exact h
    · exact h5 j hj
  · have hj' : 3 * A.1 ≤ j := hj
    show (if j = i then v else A.2.2.2 j) = 0
    rw [if_neg (by omega)]
    exact h6 j hj
theorem aK_AV {g x : Int32} (hv : AV A) (h : nn x < 2 ^ A.1) : AV (aK A g x) := by
  obtain ⟨h1, h2, h3, h4, h5, h6⟩ := hv
  rw [aK]
  split
  · exact ⟨h1, h2, h, h4, h5, h6⟩
  · exact ⟨h1, h2, h3, h, h5, h6⟩
theorem aKv_lt {g : Int32} (hv : AV A) : nn (aKv A g) < 2 ^ A.1 := by
  obtain ⟨h1, h2, h3, h4, h5, h6⟩ := hv
  rw [aKv]
  split <;> assumption
theorem aT_AV (hv : AV A) : AV (aT A) := by
  obtain ⟨v1, v7, vs, vg, vc, vz⟩ := hv
  exact ⟨v1, v7, vg, vs, fun j hj => by
    have hj' : j < 3 * A.1 := hj
    show nn (if j < 3 * A.1 then SRg A.2.2.2 (j / 3) (j % 3) A.1 else 0) < 2 ^ A.1
    rw [if_pos hj']; exact SRg_lt (by omega), fun j hj => by
    have hj' : 3 * A.1 ≤ j := hj
    show (if j < 3 * A.1 then SRg A.2.2.2 (j / 3) (j % 3) A.1 else 0) = 0
    rw [if_neg (by omega)]⟩
theorem grow_AV (hv : AV A) (h7 : A.1 < 7) : AV (A.1 + 1, A.2) := by
  obtain ⟨v1, v7, vs, vg, vc, vz⟩ := hv
  have hp : 2 ^ A.1 ≤ 2 ^ (A.1 + 1) := Nat.pow_le_pow_right (by decide) (by omega)
  refine ⟨by show 1 ≤ A.1 + 1; omega, by show A.1 + 1 ≤ 7; omega, Nat.lt_of_lt_of_le vs hp, Nat.lt_of_lt_of_le vg hp, fun j hj => ?_, fun j hj => vz j (by have hj' : 3 * (A.1 + 1) ≤ j := hj; omega)⟩
  show nn (A.2.2.2 j) < 2 ^ (A.1 + 1)
  by_cases e : j < 3 * A.1
  · exact Nat.lt_of_lt_of_le (vc j e) hp
  · rw [vz j (by omega), nn_0]; exact Nat.two_pow_pos _
theorem aP_AV {o : Option DF} {D : DF} (h : SM7 o D) : AV (aP D) := by
  obtain ⟨_, h7, h1, hT⟩ := h
  refine ⟨h1, h7, by show nn 1 < 2 ^ D.1; rw [show nn 1 = 1 from by decide]; exact Nat.one_lt_two_pow (by omega), s_lt2 (fun i hi => ?_), fun j hj => ?_, fun j hj => ?_⟩
  · have hi' : D.1 ≤ i := hi
    show (nn (gmk D.2.2 D.1)).testBit i = false
    by_cases e : i < 32
    · rw [gmk_bit D.1 (by omega) i, decide_eq_false (by omega)]; rfl
    · exact s_big (nn_lt _) (by omega)
  · have hj' : j < 3 * D.1 := hj
    show nn (if j < 3 * D.1 then (1 : Int32) <<< (nI (D.2.1 j) &&& 31) else 0) < 2 ^ D.1
    have := hT j hj'
    rw [if_pos hj', nn_two _ (by omega)]
    exact Nat.pow_lt_pow_right (by decide) this
  · have hj' : 3 * D.1 ≤ j := hj
    show (if j < 3 * D.1 then (1 : Int32) <<< (nI (D.2.1 j) &&& 31) else 0) = 0
    rw [if_neg (by omega)]
/-- both memories hold the same machines and numbers -/
def SIM (μ ν : TMem) : Prop := ∃ (S : Nat → AM) (a r k t : Int32), AVs S ∧ CSt μ S a r k ∧ RSt ν S a r k t
theorem SIM.ri (h : SIM μ ν) : RI ν := by
  obtain ⟨S, a, r, k, t, hv, hc, hr⟩ := h
  exact hr.ri hv
theorem SIM.gb (h : SIM μ ν) : GB μ := by
  obtain ⟨S, a, r, k, t, hv, hc, hr⟩ := h
  exact hc.2.2.2.2
theorem RSt.thn (h : RSt ν S a r k t) : ν 0 7 = t := h.2.2.2.2
theorem IN_nI {n : Nat} {lo hi : Int} (h1 : lo ≤ n) (h2 : (n : Int) ≤ hi) (h : n < 2 ^ 31) : IN (nI n) lo hi := by
  rw [IN, nI_toInt h]; exact ⟨h1, h2⟩
theorem nI_injS {x : Int32} {m n : Nat} (h : x = nI m) (h' : x = nI n) (hm : m < 2 ^ 31) (hn : n < 2 ^ 31) : m = n := (nI_eq hm hn).mp (h.symm.trans h')
abbrev PP := Int32 → Int64 → TMem → Int32 → TMem → Prop
/-- what must be shown of a call: both memories alike again, both answers the same, or both thrown -/
abbrev HPP (P : PP) : Prop := ∀ (k : Int32) (nv : Int64) (μ9 : TMem) (b : Int32) (ν9 : TMem), SIM μ9 ν9 → ν9 0 7 = k → (k = 0 → nv = b.toInt64) → P k nv μ9 b ν9
abbrev IOBn := "java/lang/IndexOutOfBoundsException"
abbrev IAEn := "java/lang/IllegalArgumentException"
abbrev ISEn := "java/lang/IllegalStateException"
variable {P : PP}
theorem ph_ok {S' : Nat → AM} {a' r' k' : Int32} {μ9 ν9 : TMem} {b : Int32} (hP : HPP P) (hv : AVs S') (hc : CSt μ9 S' a' r' k') (hr : RSt ν9 S' a' r' k' 0) : P 0 b.toInt64 μ9 b ν9 := hP _ _ _ _ _ ⟨S', a', r', k', 0, hv, hc, hr⟩ hr.thn (fun _ => rfl)
theorem ph_x {S' : Nat → AM} {a' r' k' z : Int32} {μ9 ν9 : TMem} {b : Int32} {nv : Int64} (hP : HPP P) (hv : AVs S') (hc : CSt μ9 S' a' r' k') (hr : RSt ν9 S' a' r' k' z) (hz : z ≠ 0) : P z nv μ9 b ν9 := hP _ _ _ _ _ ⟨S', a', r', k', z, hv, hc, hr⟩ hr.thn (fun e => absurd e hz)
theorem gs_begin (hP : HPP P) (h : SIM μ ν) (nv : Int64) : wp_X9_begin μ a1 a2 (fun r μ9 => wp_X11_begin ν a1 a2 (fun b ν9 => P 0 r.toInt64 μ9 b ν9)) (fun E μ9 => (E = IOBn ∧ wp_X11_begin ν a1 a2 (fun b ν9 => P 1 nv μ9 b ν9)) ∨ (E = IAEn ∧ wp_X11_begin ν a1 a2 (fun b ν9 => P 2 nv μ9 b ν9))) := by
  obtain ⟨S, a, r, k, t, hv, hc, hr⟩ := h
  have ok : ∀ {m n}, m < 4 → a1 = nI m → a2 = nI n → 1 ≤ n → n ≤ 7 → M1 a1 ∧ IN a2 1 7 := fun hm e e2 n1 n7 => ⟨e ▸ M1_nI hm, e2 ▸ IN_nI (by omega) (by omega) (by omega)⟩
  refine ee_begin hc hv (fun m n hm e e2 n1 n7 μ9 c9 => ?_) (fun z => Or.inl ⟨rfl, ?_⟩) (fun w z => Or.inr ⟨rfl, ?_⟩)
  · refine rr_begin hr hv (fun m' n' hm' e' e2' n1' n7' ν9 r9 => ?_) (fun z => absurd (ok hm e e2 n1 n7).1 z) (fun _ z => absurd (ok hm e e2 n1 n7).2 z)
    cases nI_injS e e' (by omega) (by omega)
    cases nI_injS e2 e2' (by omega) (by omega)
    exact ph_ok hP (hv.up (aC_AV n1 n7)) c9 r9
  · exact rr_begin hr hv (fun m' n' hm' e' e2' n1' n7' ν9 r9 => absurd (ok hm' e' e2' n1' n7').1 z) (fun _ b ν9 r9 => ph_x hP hv hc r9 (by decide)) (fun w => absurd w z)
  · exact rr_begin hr hv (fun m' n' hm' e' e2' n1' n7' ν9 r9 => absurd (ok hm' e' e2' n1' n7').2 z) (fun w' => absurd w w') (fun _ _ b ν9 r9 => ph_x hP hv hc r9 (by decide))
theorem ARG.ok {f s u : Nat} (h : ARG S a1 a2 a3 a4 m f s u) (hv : AVs S) : ARS S a1 a2 a4 ∧ IN a3 0 2 := by
  obtain ⟨hm, e1, e2, e4, e3, hf, hu, hs⟩ := h
  have := (hv m hm).2.1
  exact ⟨⟨m, hm, e1, e2 ▸ STn_nI hf (by omega), e4 ▸ STn_nI hu (by omega)⟩, e3 ▸ IN_nI (by omega) (by omega) (by omega)⟩
theorem ARG.uq {m' f s u f' s' u' : Nat} (h : ARG S a1 a2 a3 a4 m f s u) (h' : ARG S a1 a2 a3 a4 m' f' s' u') (hv : AVs S) : m' = m ∧ f' = f ∧ s' = s ∧ u' = u := by
  obtain ⟨hm, e1, e2, e4, e3, hf, hu, hs⟩ := h
  obtain ⟨hm', e1', e2', e4', e3', hf', hu', hs'⟩ := h'
  have := (hv m hm).2.1
  have := (hv m' hm').2.1
  exact ⟨nI_injS e1' e1 (by omega) (by omega), nI_injS e2' e2 (by omega) (by omega), nI_injS e3' e3 (by omega) (by omega), nI_injS e4' e4 (by omega) (by omega)⟩
theorem gs_arrow (hP : HPP P) (h : SIM μ ν) (nv : Int64) : wp_X9_arrow μ a1 a2 a3 a4 a5 (fun r μ9 => wp_X11_arrow ν a1 a2 a3 a4 a5 (fun b ν9 => P 0 r.toInt64 μ9 b ν9)) (fun E μ9 => (E = IOBn ∧ wp_X11_arrow ν a1 a2 a3 a4 a5 (fun b ν9 => P 1 nv μ9 b ν9)) ∨ (E = IAEn ∧ wp_X11_arrow ν a1 a2 a3 a4 a5 (fun b ν9 => P 2 nv μ9 b ν9))) := by
  obtain ⟨S, a, r, k, t, hv, hc, hr⟩ := h
  refine ee_arrow hc hv (fun m f s u g μ9 c9 => ?_) (fun z => Or.inl ⟨rfl, ?_⟩) (fun w z => Or.inr ⟨rfl, ?_⟩)
  · refine rr_arrow hr hv (fun m' f' s' u' g' ν9 r9 => ?_) (fun z => absurd (g.ok hv).1 z) (fun _ z => absurd (g.ok hv).2 z)
    obtain ⟨rfl, rfl, rfl, rfl⟩ := g.uq g' hv
    obtain ⟨hm, _, _, _, _, hf, hu, hs⟩ := g
    exact ph_ok hP (hv.up (aI_AV (hv _ hm) (by omega) (wW_lt ((hv _ hm).2.2.2.2.1 _ (by omega)) hu (hv _ hm).2.1))) c9 r9
  · exact rr_arrow hr hv (fun m' f' s' u' g' ν9 r9 => absurd (g'.ok hv).1 z) (fun _ b ν9 r9 => ph_x hP hv hc r9 (by decide)) (fun w => absurd w z)
  · exact rr_arrow hr hv (fun m' f' s' u' g' ν9 r9 => absurd (g'.ok hv).2 z) (fun w' => absurd w w') (fun _ _ b ν9 r9 => ph_x hP hv hc r9 (by decide))
theorem gs_lead (hP : HPP P) (h : SIM μ ν) (nv : Int64) : wp_X9_lead μ a1 a2 a3 a4 (fun r μ9 => wp_X11_lead ν a1 a2 a3 a4 (fun b ν9 => P 0 r.toInt64 μ9 b ν9)) (fun E μ9 => (E = IOBn ∧ wp_X11_lead ν a1 a2 a3 a4 (fun b ν9 => P 1 nv μ9 b ν9)) ∨ (E = IAEn ∧ wp_X11_lead ν a1 a2 a3 a4 (fun b ν9 => P 2 nv μ9 b ν9))) := by
  obtain ⟨S, a, r, k, t, hv, hc, hr⟩ := h
  refine ee_lead hc hv (fun m f s u g μ9 c9 => ?_) (fun z => Or.inl ⟨rfl, ?_⟩) (fun w z => Or.inr ⟨rfl, ?_⟩)
  · refine rr_lead hr hv (fun m' f' s' u' g' ν9 r9 => ?_) (fun z => absurd (g.ok hv).1 z) (fun _ z => absurd (g.ok hv).2 z)
    obtain ⟨rfl, rfl, rfl, rfl⟩ := g.uq g' hv
    obtain ⟨hm, _, _, _, _, hf, hu, hs⟩ := g
    have h7 := (hv _ hm).2.1
    exact ph_ok hP (hv.up (aI_AV (hv _ hm) (by omega) (by rw [nn_two _ (by omega)]; exact Nat.pow_lt_pow_right (by decide) hu))) c9 r9
  · exact rr_lead hr hv (fun m' f' s' u' g' ν9 r9 => absurd (g'.ok hv).1 z) (fun _ b ν9 r9 => ph_x hP hv hc r9 (by decide)) (fun w => absurd w z)
  · exact rr_lead hr hv (fun m' f' s' u' g' ν9 r9 => absurd (g'.ok hv).2 z) (fun w' => absurd w w') (fun _ _ b ν9 r9 => ph_x hP hv hc r9 (by decide))
theorem gs_mark (hP : HPP P) (h : SIM μ ν) (nv : Int64) : wp_X9_mark μ a1 a2 a3 a4 (fun r μ9 => wp_X11_mark ν a1 a2 a3 a4 (fun b ν9 => P 0 r.toInt64 μ9 b ν9)) (fun E μ9 => (E = IOBn ∧ wp_X11_mark ν a1 a2 a3 a4 (fun b ν9 => P 1 nv μ9 b ν9))) := by
  obtain ⟨S, a, r, k, t, hv, hc, hr⟩ := h
  have ok : ∀ {m u : Nat}, m < 4 → a1 = nI m → a2 = nI u → u < (S m).1 → ∃ m, m < 4 ∧ a1 = nI m ∧ STn a2 (S m).1 := fun {m u} hm e e2 hu => ⟨m, hm, e, e2 ▸ STn_nI hu (by have := (hv m hm).2.1; omega)⟩
  refine ee_mark hc hv (fun m u hm e e2 hu μ9 c9 => ?_) (fun z => ⟨rfl, ?_⟩)
  · refine rr_mark hr hv (fun m' u' hm' e' e2' hu' ν9 r9 => ?_) (fun z => absurd (ok hm e e2 hu) z)
    have := (hv m hm).2.1
    have := (hv m' hm').2.1
    cases nI_injS e e' (by omega) (by omega)
    cases nI_injS e2 e2' (by omega) (by omega)
    exact ph_ok hP (hv.up (aK_AV (hv m hm) (wW_lt (aKv_lt (hv m hm)) hu (hv m hm).2.1))) c9 r9
  · exact rr_mark hr hv (fun m' u' hm' e' e2' hu' ν9 r9 => absurd (ok hm' e' e2' hu') z) (fun _ b ν9 r9 => ph_x hP hv hc r9 (by decide))
theorem gs_sow (hP : HPP P) (h : SIM μ ν) (nv : Int64) : wp_X9_sow μ a1 a2 a3 a4 (fun r μ9 => wp_X11_sow ν a1 a2 a3 a4 (fun b ν9 => P 0 r.toInt64 μ9 b ν9)) (fun E μ9 => (E = IOBn ∧ wp_X11_sow ν a1 a2 a3 a4 (fun b ν9 => P 1 nv μ9 b ν9)) ∨ (E = IAEn ∧ wp_X11_sow ν a1 a2 a3 a4 (fun b ν9 => P 2 nv μ9 b ν9))) := by
  obtain ⟨S, a, r, k, t, hv, hc, hr⟩ := h
  have ok : ∀ {m n}, m < 4 → a1 = nI m → a3 = nI n → 1 ≤ n → n ≤ 7 → M1 a1 ∧ IN a3 1 7 := fun hm e e2 n1 n7 => ⟨e ▸ M1_nI hm, e2 ▸ IN_nI (by omega) (by omega) (by omega)⟩
  refine ee_sow hc hv (fun m n hm e e2 n1 n7 i2 i4 μ9 c9 => ?_) (fun z => Or.inl ⟨rfl, ?_⟩) (fun w z => Or.inr ⟨rfl, ?_⟩)
  · refine rr_sow hr hv (fun m' n' hm' e' e2' n1' n7' _ _ ν9 r9 => ?_) (fun z => absurd (ok hm e e2 n1 n7).1 z) (fun _ z => absurd ⟨i2, (ok hm e e2 n1 n7).2, i4⟩ z)
    cases nI_injS e e' (by omega) (by omega)
    cases nI_injS e2 e2' (by omega) (by omega)
    exact ph_ok hP (hv.up (aS_AV n1 n7 i2)) c9 r9
  · exact rr_sow hr hv (fun m' n' hm' e' e2' n1' n7' _ _ ν9 r9 => absurd (ok hm' e' e2' n1' n7').1 z) (fun _ b ν9 r9 => ph_x hP hv hc r9 (by decide)) (fun w => absurd w z)
  · exact rr_sow hr hv (fun m' n' hm' e' e2' n1' n7' i2 i4 ν9 r9 => absurd ⟨i2, (ok hm' e' e2' n1' n7').2, i4⟩ z) (fun w' => absurd w w') (fun _ _ b ν9 r9 => ph_x hP hv hc r9 (by decide))
theorem ONE2_nI {m' : Nat} (hm : m < 4) (hm' : m' < 4) (e : a1 = nI m) (e' : a2 = nI m') : ONE2 a1 a2 := ⟨e ▸ M1_nI hm, e' ▸ M1_nI hm'⟩
theorem gs_copy (hP : HPP P) (h : SIM μ ν) (nv : Int64) : wp_X9_copy μ a1 a2 (fun r μ9 => wp_X11_copy ν a1 a2 (fun b ν9 => P 0 r.toInt64 μ9 b ν9)) (fun E μ9 => (E = IOBn ∧ wp_X11_copy ν a1 a2 (fun b ν9 => P 1 nv μ9 b ν9))) := by
  obtain ⟨S, a, r, k, t, hv, hc, hr⟩ := h
  refine ee_copy hc hv (fun m m' hm hm' e e' v bv μ9 c9 => ?_) (fun z => ⟨rfl, ?_⟩)
  · refine rr_copy hr hv (fun n n' hn hn' f f' v' bv' ν9 r9 => ?_) (fun z => absurd (ONE2_nI hm hm' e e') z)
    cases nI_injS e f (by omega) (by omega)
    cases nI_injS e' f' (by omega) (by omega)
    cases bv.uniq bv'.sym
    exact ph_ok hP (hv.up (hv m hm)) c9 r9
  · exact rr_copy hr hv (fun n n' hn hn' f f' v' bv' ν9 r9 => absurd (ONE2_nI hn hn' f f') z) (fun _ b ν9 r9 => ph_x hP hv hc r9 (by decide))
theorem gs_swap (hP : HPP P) (h : SIM μ ν) (nv : Int64) : wp_X9_swap μ a1 a2 (fun r μ9 => wp_X11_swap ν a1 a2 (fun b ν9 => P 0 r.toInt64 μ9 b ν9)) (fun E μ9 => (E = IOBn ∧ wp_X11_swap ν a1 a2 (fun b ν9 => P 1 nv μ9 b ν9))) := by
  obtain ⟨S, a, r, k, t, hv, hc, hr⟩ := h
  refine ee_swap hc hv (fun m m' hm hm' e e' v bv μ9 c9 => ?_) (fun z => ⟨rfl, ?_⟩)
  · refine rr_swap hr hv (fun n n' hn hn' f f' v' bv' ν9 r9 => ?_) (fun z => absurd (ONE2_nI hm hm' e e') z)
    cases nI_injS e f (by omega) (by omega)
    cases nI_injS e' f' (by omega) (by omega)
    cases bv.uniq bv'
    exact ph_ok hP ((hv.up (hv m' hm')).up (hv m hm)) c9 r9
  · exact rr_swap hr hv (fun n n' hn hn' f f' v' bv' ν9 r9 => absurd (ONE2_nI hn hn' f f') z) (fun _ b ν9 r9 => ph_x hP hv hc r9 (by decide))
theorem gs_turn (hP : HPP P) (h : SIM μ ν) (nv : Int64) : wp_X9_turn μ a1 (fun r μ9 => wp_X11_turn ν a1 (fun b ν9 => P 0 r.toInt64 μ9 b ν9)) (fun E μ9 => (E = IOBn ∧ wp_X11_turn ν a1 (fun b ν9 => P 1 nv μ9 b ν9))) := by
  obtain ⟨S, a, r, k, t, hv, hc, hr⟩ := h
  refine ee_turn hc hv (fun m hm e μ9 c9 => ?_) (fun z => ⟨rfl, ?_⟩)
  · refine rr_turn hr hv (fun n hn f ν9 r9 => ?_) (fun z => absurd (e ▸ M1_nI hm) z)
    cases nI_injS e f (by omega) (by omega)
    exact ph_ok hP (hv.up (aT_AV (hv m hm))) c9 r9
  · exact rr_turn hr hv (fun n hn f ν9 r9 => absurd (f ▸ M1_nI hn) z) (fun _ b ν9 r9 => ph_x hP hv hc r9 (by decide))
theorem gs_other (hP : HPP P) (h : SIM μ ν) (nv : Int64) : wp_X9_other μ a1 (fun r μ9 => wp_X11_other ν a1 (fun b ν9 => P 0 r.toInt64 μ9 b ν9)) (fun E μ9 => (E = IOBn ∧ wp_X11_other ν a1 (fun b ν9 => P 1 nv μ9 b ν9))) := by
  obtain ⟨S, a, r, k, t, hv, hc, hr⟩ := h
  refine ee_other hc hv (fun m hm e g μ9 c9 => ?_) (fun m hm e g μ9 c9 => ?_) (fun z => ⟨rfl, ?_⟩)
  · refine rr_other hr hv (fun n hn f g' ν9 r9 => ?_) (fun n hn f g' ν9 r9 => ?_) (fun z => absurd (e ▸ M1_nI hm) z)
    · cases nI_injS e f (by omega) (by omega)
      exact ph_ok hP (hv.up (aO_AV (hv m hm))) c9 r9
    · cases nI_injS e f (by omega) (by omega)
      exact absurd g g'
  · refine rr_other hr hv (fun n hn f g' ν9 r9 => ?_) (fun n hn f g' ν9 r9 => ?_) (fun z => absurd (e ▸ M1_nI hm) z)
    · cases nI_injS e f (by omega) (by omega)
      exact absurd g' g
    · exact ph_ok hP hv c9 r9
  · exact rr_other hr hv (fun n hn f g ν9 r9 => absurd (f ▸ M1_nI hn) z) (fun n hn f g ν9 r9 => absurd (f ▸ M1_nI hn) z) (fun _ b ν9 r9 => ph_x hP hv hc r9 (by decide))
theorem gs_grow (hP : HPP P) (h : SIM μ ν) (nv : Int64) : wp_X9_grow μ a1 (fun r μ9 => wp_X11_grow ν a1 (fun b ν9 => P 0 r.toInt64 μ9 b ν9)) (fun E μ9 => (E = IOBn ∧ wp_X11_grow ν a1 (fun b ν9 => P 1 nv μ9 b ν9))) := by
  obtain ⟨S, a, r, k, t, hv, hc, hr⟩ := h
  refine ee_grow hc hv (fun m hm e g μ9 c9 => ?_) (fun m hm e g μ9 c9 => ?_) (fun z => ⟨rfl, ?_⟩)
  · refine rr_grow hr hv (fun n hn f g' ν9 r9 => ?_) (fun n hn f g' ν9 r9 => ?_) (fun z => absurd (e ▸ M1_nI hm) z)
    · cases nI_injS e f (by omega) (by omega)
      exact ph_ok hP (hv.up (grow_AV (hv m hm) g)) c9 r9
    · cases nI_injS e f (by omega) (by omega)
      exact absurd g g'
  · refine rr_grow hr hv (fun n hn f g' ν9 r9 => ?_) (fun n hn f g' ν9 r9 => ?_) (fun z => absurd (e ▸ M1_nI hm) z)
    · cases nI_injS e f (by omega) (by omega)
      exact absurd g' g
    · exact ph_ok hP hv c9 r9
  · exact rr_grow hr hv (fun n hn f g ν9 r9 => absurd (f ▸ M1_nI hn) z) (fun n hn f g ν9 r9 => absurd (f ▸ M1_nI hn) z) (fun _ b ν9 r9 => ph_x hP hv hc r9 (by decide))
theorem gs_drop (hP : HPP P) (h : SIM μ ν) (nv : Int64) : wp_X9_drop μ a1 a2 (fun r μ9 => wp_X11_drop ν a1 a2 (fun b ν9 => P 0 r.toInt64 μ9 b ν9)) (fun E μ9 => (E = IOBn ∧ wp_X11_drop ν a1 a2 (fun b ν9 => P 1 nv μ9 b ν9))) := by
  obtain ⟨S, a, r, k, t, hv, hc, hr⟩ := h
  have ok : ∀ {m u : Nat}, m < 4 → a1 = nI m → u < (S m).1 → a2 = nI u → ∃ m, m < 4 ∧ a1 = nI m ∧ STn a2 (S m).1 := fun {m u} hm e hu e2 => ⟨m, hm, e, e2 ▸ STn_nI hu (by have := (hv m hm).2.1; omega)⟩
  have uq : ∀ {m u m' u' : Nat}, m < 4 → a1 = nI m → u < (S m).1 → a2 = nI u → m' < 4 → a1 = nI m' → u' < (S m').1 → a2 = nI u' → m' = m ∧ u' = u := fun {m u m' u'} hm e hu e2 hm' e' hu' e2' => by
    have := (hv m hm).2.1
    have := (hv m' hm').2.1
    exact ⟨nI_injS e' e (by omega) (by omega), nI_injS e2' e2 (by omega) (by omega)⟩
  refine ee_drop hc hv (fun m u hm e hu e2 g μ9 c9 => ?_) (fun m u hm e hu e2 g μ9 c9 => ?_) (fun z => ⟨rfl, ?_⟩)
  · refine rr_drop hr hv (fun m' u' hm' e' hu' e2' g' ν9 r9 => ?_) (fun m' u' hm' e' hu' e2' g' ν9 r9 => ?_) (fun z => absurd (ok hm e hu e2) z)
    · obtain ⟨rfl, rfl⟩ := uq hm e hu e2 hm' e' hu' e2'
      exact ph_ok hP (hv.up (aD_AV (hv _ hm) hu g)) c9 r9
    · obtain ⟨rfl, rfl⟩ := uq hm e hu e2 hm' e' hu' e2'
      exact absurd g' g
  · refine rr_drop hr hv (fun m' u' hm' e' hu' e2' g' ν9 r9 => ?_) (fun m' u' hm' e' hu' e2' g' ν9 r9 => ?_) (fun z => absurd (ok hm e hu e2) z)
    · obtain ⟨rfl, rfl⟩ := uq hm e hu e2 hm' e' hu' e2'
      exact absurd g g'
    · exact ph_ok hP hv c9 r9
  · exact rr_drop hr hv (fun m' u' hm' e' hu' e2' g' ν9 r9 => absurd (ok hm' e' hu' e2') z) (fun m' u' hm' e' hu' e2' g' ν9 r9 => absurd (ok hm' e' hu' e2') z) (fun _ b ν9 r9 => ph_x hP hv hc r9 (by decide))
theorem SM7.uq {o : Option DF} {D D' : DF} (h : SM7 o D) (h' : SM7 o D') : D' = D := by
  have := h'.1.symm.trans h.1
  cases this
  rfl
theorem gs_make (hP : HPP P) (h : SIM μ ν) (nv : Int64) : wp_X9_make μ a1 a2 a3 (fun r μ9 => wp_X11_make ν a1 a2 a3 (fun b ν9 => P 0 r.toInt64 μ9 b ν9)) (fun E μ9 => (E = IOBn ∧ wp_X11_make ν a1 a2 a3 (fun b ν9 => P 1 nv μ9 b ν9))) := by
  obtain ⟨S, a, r, k, t, hv, hc, hr⟩ := h
  refine ee_make hc hv (fun m m' D hm hm' e e' g μ9 c9 => ?_) (fun m m' hm hm' e e' g μ9 c9 => ?_) (fun z => ⟨rfl, ?_⟩)
  · refine rr_make hr hv (fun n n' D' hn hn' f f' g' ν9 r9 => ?_) (fun n n' hn hn' f f' g' ν9 r9 => ?_) (fun z => absurd (ONE2_nI hm hm' e e') z)
    · cases nI_injS e f (by omega) (by omega)
      cases nI_injS e' f' (by omega) (by omega)
      cases g.uq g'
      exact ph_ok hP (hv.up (aP_AV g)) c9 r9
    · cases nI_injS e f (by omega) (by omega)
      exact absurd g.2.1 (g' _ g.1)
  · refine rr_make hr hv (fun n n' D' hn hn' f f' g' ν9 r9 => ?_) (fun n n' hn hn' f f' g' ν9 r9 => ?_) (fun z => absurd (ONE2_nI hm hm' e e') z)
    · cases nI_injS e f (by omega) (by omega)
      exact absurd g'.2.1 (g _ g'.1)
    · exact ph_ok hP hv c9 r9
  · exact rr_make hr hv (fun n n' D' hn hn' f f' g' ν9 r9 => absurd (ONE2_nI hn hn' f f') z) (fun n n' hn hn' f f' g' ν9 r9 => absurd (ONE2_nI hn hn' f f') z) (fun _ b ν9 r9 => ph_x hP hv hc r9 (by decide))
theorem gs_combine (hP : HPP P) (h : SIM μ ν) (nv : Int64) : wp_X9_combine μ a1 a2 a3 a4 (fun r μ9 => wp_X11_combine ν a1 a2 a3 a4 (fun b ν9 => P 0 r.toInt64 μ9 b ν9)) (fun E μ9 => (E = IOBn ∧ wp_X11_combine ν a1 a2 a3 a4 (fun b ν9 => P 1 nv μ9 b ν9)) ∨ (E = IAEn ∧ wp_X11_combine ν a1 a2 a3 a4 (fun b ν9 => P 2 nv μ9 b ν9))) := by
  obtain ⟨S, a, r, k, t, hv, hc, hr⟩ := h
  have ok : ∀ {m m' mi w : Nat}, m < 4 → m' < 4 → mi < 4 → a1 = nI m → a2 = nI m' → a4 = nI mi → a3 = nI w → w ≤ 3 → (ONE2 a1 a2 ∧ M1 a4) ∧ IN a3 0 3 := fun hm hm' hmi e e' ei ew hw => ⟨⟨ONE2_nI hm hm' e e', ei ▸ M1_nI hmi⟩, ew ▸ IN_nI (by omega) (by omega) (by omega)⟩
  refine ee_combine hc hv (fun m m' mi w D hm hm' hmi e e' ei ew hw g μ9 c9 => ?_) (fun m m' mi w hm hm' hmi e e' ei ew hw g μ9 c9 => ?_) (fun z => Or.inl ⟨rfl, ?_⟩) (fun w z => Or.inr ⟨rfl, ?_⟩)
  · refine rr_combine hr hv (fun n n' ni x D' hn hn' hni f f' fi fx hx g' ν9 r9 => ?_) (fun n n' ni x hn hn' hni f f' fi fx hx g' ν9 r9 => ?_) (fun z => absurd (ok hm hm' hmi e e' ei ew hw).1 z) (fun _ z => absurd (ok hm hm' hmi e e' ei ew hw).2 z)
    · cases nI_injS e f (by omega) (by omega)
      cases nI_injS e' f' (by omega) (by omega)
      cases nI_injS ei fi (by omega) (by omega)
      cases nI_injS ew fx (by omega) (by omega)
      cases g.uq g'
      exact ph_ok hP (hv.up (aP_AV g)) c9 r9
    · cases nI_injS e f (by omega) (by omega)
      cases nI_injS e' f' (by omega) (by omega)
      cases nI_injS ew fx (by omega) (by omega)
      exact absurd g.2.1 (g' _ g.1)
  · refine rr_combine hr hv (fun n n' ni x D' hn hn' hni f f' fi fx hx g' ν9 r9 => ?_) (fun n n' ni x hn hn' hni f f' fi fx hx g' ν9 r9 => ?_) (fun z => absurd (ok hm hm' hmi e e' ei ew hw).1 z) (fun _ z => absurd (ok hm hm' hmi e e' ei ew hw).2 z)
    · cases nI_injS e f (by omega) (by omega)
      cases nI_injS e' f' (by omega) (by omega)
      cases nI_injS ew fx (by omega) (by omega)
      exact absurd g'.2.1 (g _ g'.1)
    · exact ph_ok hP hv c9 r9
  · exact rr_combine hr hv (fun n n' ni x D' hn hn' hni f f' fi fx hx g' ν9 r9 => absurd (ok hn hn' hni f f' fi fx hx).1 z) (fun n n' ni x hn hn' hni f f' fi fx hx g' ν9 r9 => absurd (ok hn hn' hni f f' fi fx hx).1 z) (fun _ b ν9 r9 => ph_x hP hv hc r9 (by decide)) (fun w => absurd w z)
  · exact rr_combine hr hv (fun n n' ni x D' hn hn' hni f f' fi fx hx g' ν9 r9 => absurd (ok hn hn' hni f f' fi fx hx).2 z) (fun n n' ni x hn hn' hni f f' fi fx hx g' ν9 r9 => absurd (ok hn hn' hni f f' fi fx hx).2 z) (fun w' => absurd w w') (fun _ _ b ν9 r9 => ph_x hP hv hc r9 (by decide))
end SIMS
end
/-! part 9sas.sim2 -/
section
section SIMT
variable {μ ν : TMem} {S : Nat → AM} {a r k t : Int32} {a1 a2 a3 a4 a5 : Int32} {m : Nat} {A : AM} {Q : Int32 → TMem → Prop} {X : String → TMem → Prop} {Qi : Int32 → Prop} {P : PP}
theorem RSt.fa {ν9 : TMem} (h : RSt ν S a r k t) (f : FA ν ν9) : RSt ν9 S a r k (ν9 0 7) := by
  obtain ⟨h1, h2, h3, h4, h5⟩ := h
  have f2 := f.2
  refine ⟨fun i hi => ?_, by rw [f2 0 4 (Or.inr (by decide))]; exact h2, by rw [f2 0 5 (Or.inr (by decide))]; exact h3, by rw [f2 0 6 (Or.inr (by decide))]; exact h4, rfl⟩
  obtain ⟨g1, g2, g3, g4⟩ := h1 i hi
  exact ⟨by rw [f2 1 i (Or.inl (by decide))]; exact g1, by rw [f2 2 i (Or.inl (by decide))]; exact g2, by rw [f2 3 i (Or.inl (by decide))]; exact g3, fun j hj => by rw [f2 4 _ (Or.inl (by decide))]; exact g4 j hj⟩
theorem SIM.pass {lv : Nat} {μ9 ν9 : TMem} (h : SIM μ ν) (f : Zr lv μ μ9) (g : FA ν ν9) : SIM μ9 ν9 := by
  obtain ⟨S, a, r, k, t, hv, hc, hr⟩ := h
  exact ⟨S, a, r, k, _, hv, hc.keep f.zf, hr.fa g⟩
/-- one thing told of a machine -/
noncomputable def TLV (A : AM) (w : Int32) : Int32 := if w = 0 then nI A.1 else if w = 1 then AC A else if w = 2 then A.2.1 else if w = 3 then A.2.2.1 else @ite _ (aPl A) (Classical.propDecidable _) 1 0
theorem ee_tell (hc : CSt μ S a r k) (hv : AVs S) (hok : ∀ m, m < 4 → a1 = nI m → IN a2 0 4 → Q (TLV (S m) a2) μ) (h1 : ¬ M1 a1 → X "java/lang/IndexOutOfBoundsException" μ) (h2 : M1 a1 → ¬ IN a2 0 4 → X "java/lang/IllegalArgumentException" μ) : wp_X9_tell μ a1 a2 Q X := by
  refine e_mach (fun m hm em => e_rng (fun w => ?_) (fun z => h2 (em ▸ M1_nI hm) z)) h1
  have hM := hc.1 m hm
  have v7 := (hv m hm).2.1
  have tm := tlm hm
  have g := hok m hm em w
  refine ⟨fun e => ?_, fun n0 => ⟨fun e => ?_, fun n1 => ⟨fun e => ?_, fun n2 => ⟨fun e => ?_, fun n3 => ?_⟩⟩⟩⟩
  · rw [TLV, if_pos e] at g
    rw [hM.1]; exact g
  · rw [TLV, if_neg n0, if_pos e] at g
    exact e_countA hM.1 (by omega) (by omega) hM.2.2.2 g
  · rw [TLV, if_neg n0, if_neg n1, if_pos e] at g
    rw [hM.2.1]; exact g
  · rw [TLV, if_neg n0, if_neg n1, if_neg n2, if_pos e] at g
    rw [hM.2.2.1]; exact g
  · rw [TLV, if_neg n0, if_neg n1, if_neg n2, if_neg n3] at g
    refine e_isPlain hM (by omega) (by omega) (fun p => ⟨fun z => absurd z (by decide), fun _ => ?_⟩) (fun p => ⟨fun _ => ?_, fun z => absurd rfl z⟩)
    · rw [if_pos p] at g; exact g
    · rw [if_neg p] at g; exact g
theorem rr_tell (h : RSt ν S a r k t) (hv : AVs S) (hok : ∀ m, m < 4 → a1 = nI m → IN a2 0 4 → ∀ ν9, RSt ν9 S a r k 0 → Q (TLV (S m) a2) ν9) (h1 : ¬ M1 a1 → ∀ b ν9, RSt ν9 S a r k 1 → Q b ν9) (h2 : M1 a1 → ¬ IN a2 0 4 → ∀ b ν9, RSt ν9 S a r k 2 → Q b ν9) : wp_X11_tell ν a1 a2 Q := by
  refine rr_one (fun m hm em => rr_in (fun w => th_ok ⟨fun _ => ?_, fun q => absurd rfl q⟩) (fun z => th_2 ⟨fun q => absurd q (by decide), fun _ => h2 (em ▸ M1_nI hm) z _ _ (h.thr 2)⟩)) (fun z => rr_in (fun w => th_1 ⟨fun q => absurd q (by decide), fun _ => h1 z _ _ (h.thr 1)⟩) (fun w => th_1 ⟨fun q => absurd q (by decide), fun _ => h1 z _ _ (h.thr 1)⟩))
  have h0 := h.thr 0
  have hR := h0.1 m hm
  have g := hok m hm em w _ h0
  have im : (nI m).toNatClampNeg = m := nI_clamp (by omega)
  rw [em]
  generalize hN : tms ν 0 7 0 = N at *
  refine ⟨fun n0 => ⟨fun n1 => ⟨fun n2 => ⟨fun n3 => ?_, fun e => ?_⟩, fun e => ?_⟩, fun e => ?_⟩, fun e => ?_⟩
  · rw [TLV, if_neg n0, if_neg n1, if_neg n2, if_neg n3] at g
    refine rr_isPlain hm hR (hv m hm) (fun p => ⟨fun z => absurd z (by decide), fun _ => ?_⟩) (fun p => ⟨fun _ => ?_, fun z => absurd rfl z⟩)
    · rw [if_pos p] at g; exact g
    · rw [if_neg p] at g; exact g
  · rw [TLV, if_neg n0, if_neg n1, if_neg n2, if_pos e] at g
    refine ⟨s_in hm (by omega), ?_⟩
    rw [im, hR.2.2.1]; exact g
  · rw [TLV, if_neg n0, if_neg n1, if_pos e] at g
    refine ⟨s_in hm (by omega), ?_⟩
    rw [im, hR.2.1]; exact g
  · rw [TLV, if_neg n0, if_pos e] at g
    exact rr_arrowsOf hm hR (hv m hm) g
  · rw [TLV, if_pos e] at g
    refine ⟨s_in hm (by omega), ?_⟩
    rw [im, hR.1]; exact g
theorem gs_tell (hP : HPP P) (h : SIM μ ν) (nv : Int64) : wp_X9_tell μ a1 a2 (fun r μ9 => wp_X11_tell ν a1 a2 (fun b ν9 => P 0 r.toInt64 μ9 b ν9)) (fun E μ9 => (E = IOBn ∧ wp_X11_tell ν a1 a2 (fun b ν9 => P 1 nv μ9 b ν9)) ∨ (E = IAEn ∧ wp_X11_tell ν a1 a2 (fun b ν9 => P 2 nv μ9 b ν9))) := by
  obtain ⟨S, a, r, k, t, hv, hc, hr⟩ := h
  refine ee_tell hc hv (fun m hm e w => ?_) (fun z => Or.inl ⟨rfl, ?_⟩) (fun w z => Or.inr ⟨rfl, ?_⟩)
  · refine rr_tell hr hv (fun m' hm' e' w' ν9 r9 => ?_) (fun z => absurd (e ▸ M1_nI hm) z) (fun _ z => absurd w z)
    cases nI_injS e e' (by omega) (by omega)
    exact ph_ok hP hv hc r9
  · exact rr_tell hr hv (fun m' hm' e' w' ν9 r9 => absurd (e' ▸ M1_nI hm') z) (fun _ b ν9 r9 => ph_x hP hv hc r9 (by decide)) (fun w => absurd w z)
  · exact rr_tell hr hv (fun m' hm' e' w' ν9 r9 => absurd w' z) (fun w' => absurd w w') (fun _ _ b ν9 r9 => ph_x hP hv hc r9 (by decide))
/-- a machine and one of its states -/
def MST (S : Nat → AM) (x y : Int32) : Prop := ∃ m, m < 4 ∧ x = nI m ∧ STn y (S m).1
theorem MST.mk {f : Nat} (hm : m < 4) (e : a1 = nI m) (e2 : a2 = nI f) (hf : f < (S m).1) (hv : AVs S) : MST S a1 a2 := ⟨m, hm, e, e2 ▸ STn_nI hf (by have := (hv m hm).2.1; omega)⟩
theorem MST.no (hm : m < 4) (e : a1 = nI m) (z : ¬ STn a2 (S m).1) : ¬ MST S a1 a2 := fun ⟨m', hm', e', e4⟩ => z (by rw [nI_inj4 hm hm' (e.symm.trans e')]; exact e4)
theorem ee_arrows (hc : CSt μ S a r k) (hv : AVs S) (hok : ∀ m f s, m < 4 → a1 = nI m → a2 = nI f → a3 = nI s → f < (S m).1 → s < 3 → Q ((S m).2.2.2 (3 * f + s)) μ) (h1 : ¬ MST S a1 a2 → X "java/lang/IndexOutOfBoundsException" μ) (h2 : MST S a1 a2 → ¬ IN a3 0 2 → X "java/lang/IllegalArgumentException" μ) : wp_X9_arrows μ a1 a2 a3 Q X := by
  refine e_mach (fun m hm em => ?_) (fun z => h1 (fun ⟨m, hm, e, _⟩ => z (e ▸ M1_nI hm)))
  have hM := hc.1 m hm
  have v7 := (hv m hm).2.1
  have tm := tlm hm
  refine e_stat hM.1 (by omega) (fun f hf ef => e_sign (fun s hs es => ?_) (fun z => h2 (MST.mk hm em ef hf hv) z)) (fun z => h1 (MST.no hm em z))
  have g := hok m f s hm em ef es hf hs
  rw [ef, es]
  refine e_atN (by omega) ?_
  rw [hM.2.2.2 _ (by omega)]
  exact g
theorem rr_arrows (h : RSt ν S a r k t) (hv : AVs S) (hok : ∀ m f s, m < 4 → a1 = nI m → a2 = nI f → a3 = nI s → f < (S m).1 → s < 3 → ∀ ν9, RSt ν9 S a r k 0 → Q ((S m).2.2.2 (3 * f + s)) ν9) (h1 : ¬ MST S a1 a2 → ∀ b ν9, RSt ν9 S a r k 1 → Q b ν9) (h2 : MST S a1 a2 → ¬ IN a3 0 2 → ∀ b ν9, RSt ν9 S a r k 2 → Q b ν9) : wp_X11_arrows ν a1 a2 a3 Q := by
  have bad : ¬ MST S a1 a2 → wp_X11_isIn a3 (0 : Int32) (2 : Int32) (fun (r4 : Int32) => wp_X11_isThrown ν 0 r4 (fun (r6 : Int32) (μ5 : TMem) => (r6 = 0 → (wp_X11_key a1 a2 a3 (fun (r8 : Int32) => vp_in r8 (ml 4) ∧ (Q (μ5 4 r8.toNatClampNeg) μ5)))) ∧ (¬ r6 = 0 → (Q (0 : Int32) μ5)))) := fun z => rr_in (fun _ => th_1 ⟨fun q => absurd q (by decide), fun _ => h1 z _ _ (h.thr 1)⟩) (fun _ => th_1 ⟨fun q => absurd q (by decide), fun _ => h1 z _ _ (h.thr 1)⟩)
  refine rr_one (fun m hm em => fun J hJ => ⟨fun z => absurd z (by decide), fun _ => ?_⟩) (fun z => fun J hJ => ⟨fun _ => hJ _ (bad (fun ⟨m, hm, e, _⟩ => z (e ▸ M1_nI hm))), fun w => absurd rfl w⟩)
  have v1 := (hv m hm).1
  have v7 := (hv m hm).2.1
  have hR0 := h.1 m hm
  rw [em]
  refine rr_st hm hR0.1 v1 v7 (fun f hf ef => ⟨fun z => absurd z (by decide), fun _ => hJ _ (rr_in (fun w => th_ok ⟨fun _ => ?_, fun q => absurd rfl q⟩) (fun w => th_2 ⟨fun q => absurd q (by decide), fun _ => h2 (MST.mk hm em ef hf hv) w _ _ (h.thr 2)⟩))⟩) (fun z => ⟨fun _ => hJ _ (bad (MST.no hm em z)), fun w => absurd rfl w⟩)
  obtain ⟨s, es, s0, s2⟩ := IN_ex w (by decide)
  have s2' : (s : Int) ≤ 2 := s2
  have h0 := h.thr 0
  have hR := h0.1 m hm
  have g := hok m f s hm em ef es hf (by omega) _ h0
  rw [em, ef, es]
  refine rr_key ⟨s_in (show _ < 84 by omega) (by omega), ?_⟩
  rw [nI_clamp (by omega), Nat.add_assoc, hR.2.2.2 _ (by omega)]
  exact g
theorem gs_arrows (hP : HPP P) (h : SIM μ ν) (nv : Int64) : wp_X9_arrows μ a1 a2 a3 (fun r μ9 => wp_X11_arrows ν a1 a2 a3 (fun b ν9 => P 0 r.toInt64 μ9 b ν9)) (fun E μ9 => (E = IOBn ∧ wp_X11_arrows ν a1 a2 a3 (fun b ν9 => P 1 nv μ9 b ν9)) ∨ (E = IAEn ∧ wp_X11_arrows ν a1 a2 a3 (fun b ν9 => P 2 nv μ9 b ν9))) := by
  obtain ⟨S, a, r, k, t, hv, hc, hr⟩ := h
  have ok : ∀ {s : Nat}, a3 = nI s → s < 3 → IN a3 0 2 := fun e h => e ▸ IN_nI (by omega) (by omega) (by omega)
  refine ee_arrows hc hv (fun m f s hm e ef es hf hs => ?_) (fun z => Or.inl ⟨rfl, ?_⟩) (fun w z => Or.inr ⟨rfl, ?_⟩)
  · refine rr_arrows hr hv (fun m' f' s' hm' e' ef' es' hf' hs' ν9 r9 => ?_) (fun z => absurd (MST.mk hm e ef hf hv) z) (fun _ z => absurd (ok es hs) z)
    have := (hv m hm).2.1
    have := (hv m' hm').2.1
    cases nI_injS e e' (by omega) (by omega)
    cases nI_injS ef ef' (by omega) (by omega)
    cases nI_injS es es' (by omega) (by omega)
    exact ph_ok hP hv hc r9
  · exact rr_arrows hr hv (fun m' f' s' hm' e' ef' es' hf' hs' ν9 r9 => absurd (MST.mk hm' e' ef' hf' hv) z) (fun _ b ν9 r9 => ph_x hP hv hc r9 (by decide)) (fun w => absurd w z)
  · exact rr_arrows hr hv (fun m' f' s' hm' e' ef' es' hf' hs' ν9 r9 => absurd (ok es' hs') z) (fun w' => absurd w w') (fun _ _ b ν9 r9 => ph_x hP hv hc r9 (by decide))
theorem gs_house (hP : HPP P) (h : SIM μ ν) (nv : Int64) : wp_X9_house μ a1 (fun r μ9 => wp_X11_house ν a1 (fun b ν9 => P 0 r.toInt64 μ9 b ν9)) (fun E μ9 => (E = IAEn ∧ wp_X11_house ν a1 (fun b ν9 => P 1 nv μ9 b ν9))) := by
  obtain ⟨S, a, r, k, t, hv, hc, hr⟩ := h
  have h0 := hr.thr 0
  refine e_rng (fun w => ?_) (fun z => ⟨rfl, rr_in (fun w => absurd w z) (fun _ => th_1 ⟨fun q => absurd q (by decide), fun _ => ph_x hP hv hc (hr.thr 1) (by decide)⟩)⟩)
  have R : ∀ nv9 : Int64, (∀ b, b = (if a1 = 0 then a else if a1 = 1 then r else k) → P 0 nv9 μ b (tms ν 0 7 0)) → wp_X11_house ν a1 (fun b ν9 => P 0 nv9 μ b ν9) := fun nv9 hh => rr_in (fun _ => th_ok ⟨fun _ => ⟨fun n0 => ⟨fun n1 => hh _ (by rw [if_neg n0, if_neg n1]; exact h0.2.2.2.1), fun e => hh _ (by rw [if_neg n0, if_pos e]; exact h0.2.2.1)⟩, fun e => hh _ (by rw [if_pos e]; exact h0.2.1)⟩, fun q => absurd rfl q⟩) (fun z => absurd w z)
  refine ⟨fun e => R _ (fun b hb => ?_), fun n0 => ⟨fun e => R _ (fun b hb => ?_), fun n1 => R _ (fun b hb => ?_)⟩⟩
  · rw [if_pos e] at hb
    rw [hb, hc.2.1]
    exact ph_ok hP hv hc h0
  · rw [if_neg n0, if_pos e] at hb
    rw [hb, hc.2.2.1]
    exact ph_ok hP hv hc h0
  · rw [if_neg n0, if_neg n1] at hb
    rw [hb, hc.2.2.2.1]
    exact ph_ok hP hv hc h0
theorem gs_knock {P : Int32 → TMem → Int32 → TMem → Prop} (hP : ∀ x μ9 ν9, SIM μ9 ν9 → P x μ9 x ν9) (h : SIM μ ν) : wp_X9_knock μ (fun r μ9 => wp_X11_knock ν (fun b ν9 => P r μ9 b ν9)) := by
  obtain ⟨S, a, r, k, t, hv, hc, hr⟩ := h
  have h0 := hr.thr 0
  obtain ⟨h1, h2, h3, h4, h5⟩ := hc
  have e : (tms μ 0 13 (μ 0 13 + 1)) 0 13 = k + 1 := by simp [tms_ix, h4]
  have e' : (tms (tms ν 0 7 0) 0 6 ((tms ν 0 7 0) 0 6 + 1)) 0 6 = k + 1 := by rw [h0.2.2.2.1]; simp [tms_ix]
  have g : SIM (tms μ 0 13 (μ 0 13 + 1)) (tms (tms ν 0 7 0) 0 6 ((tms ν 0 7 0) 0 6 + 1)) := by
    refine ⟨S, a, r, k + 1, 0, hv, ⟨fun i hi => (h1 i hi).same (tms_ne (by omega)) (tms_ne (by omega)), by simp [tms_ix, h2], by simp [tms_ix, h3], e, fun i => by rw [tms_ne (by decide)]; exact h5 i⟩, ?_⟩
    generalize tms ν 0 7 0 = N at *
    obtain ⟨q1, q2, q3, q4, q5⟩ := h0
    refine ⟨fun i hi => ?_, by simp [tms_ix, q2], by simp [tms_ix, q3], e', by simp [tms_ix, q5]⟩
    obtain ⟨g1, g2, g3, g4⟩ := q1 i hi
    exact ⟨by rw [tms_ne (by decide)]; exact g1, by rw [tms_ne (by decide)]; exact g2, by rw [tms_ne (by decide)]; exact g3, fun j hj => by rw [tms_ne (by decide)]; exact g4 j hj⟩
  show P ((tms μ 0 13 (μ 0 13 + 1)) 0 13) _ ((tms (tms ν 0 7 0) 0 6 ((tms ν 0 7 0) 0 6 + 1)) 0 6) _
  rw [e, e']
  exact hP _ _ _ g
/-- where a word leads -/
def SAf (f : Nat → Nat → Nat) : Nat → Nat → Nat → Nat
  | 0, _, x => x
  | l + 1, w, x => SAf f l (w / 3) (f x (w % 3))
/-- a machine's way by a sign -/
def RA9 (A : AM) : Nat → Nat → Nat := RC A.1 (fun j => nn (A.2.2.2 j))
theorem e_statesAfter {l w k0 : Nat} (hM : HM μ k0 A) (h32 : A.1 ≤ 32) (hr : 3 * A.1 ≤ tl (k0 + 1)) (hl : l < 2 ^ 30) (hw : w < 2 ^ 31) (h : ∀ r, nn r = SAf (RA9 A) l w (nn A.2.1) → Qi r) : wp_X2_statesAfter k0 μ (nI l) (nI w) Qi := by
  have hcg : ∀ (x s : Nat), s < 3 → RC A.1 (fun j => nn (μ (k0 + 1) j)) x s = RA9 A x s := fun x s hs => RCg_congr _ (fun i hi => by show nn (μ (k0 + 1) (3 * i + s)) = _; rw [hM.2.2.2 _ (by omega)])
  have L : ∀ (nf i y : Nat) (x : Int32), l - i < nf → i ≤ l → y < 2 ^ 31 → SAf (RA9 A) (l - i) y (nn x) = SAf (RA9 A) l w (nn A.2.1) → wpl_X2_statesAfter_11 k0 μ (nI l) Qi nf (nI i) (nI y) x := by
    intro nf
    induction nf with
    | zero => intro i y x hk; exact absurd hk (Nat.not_lt_zero _)
    | succ nf ih =>
      intro i y x hk hi hy e
      refine ⟨fun c => ?_, fun c => ?_⟩
      · rw [nI_leI (by omega) (by omega)] at c
        rw [show l - i = 0 by omega] at e
        exact h x e
      rw [nI_leI (by omega) (by omega)] at c
      rw [show (3 : Int32) = nI 3 from rfl, s_mod (by decide) hy (by decide), s_div (by decide) hy (by decide), nI_1]
      refine e_reach hM.1 h32 hr (Nat.mod_lt _ (by decide)) (fun r hr => ih (i + 1) (y / 3) r (by omega) (by omega) (by omega) ?_)
      rw [hr, hcg _ _ (Nat.mod_lt _ (by decide)), ← e, show l - i = l - (i + 1) + 1 by omega]
      rfl
  have g := L (l + 1) 0 w A.2.1 (by omega) (by omega) hw rfl
  rw [nI_0] at g
  unfold wp_X2_statesAfter
  rw [hM.2.1]
  exact ⟨_, g⟩
theorem s_isIn1 {x : Int32} {i : Nat} (hi : i < 32) : (x >>> (nI i &&& 31)) &&& (1 : Int32) = 1 ↔ (nn x).testBit i = true := by
  have h := s_isIn (x := x) hi
  have q : (x >>> (nI i &&& 31)) &&& (1 : Int32) = 0 ∨ (x >>> (nI i &&& 31)) &&& (1 : Int32) = 1 := by
    rw [nn_eq, nn_eq, nn_and, nn_0, show nn 1 = 1 from by decide, Nat.and_one_is_mod]
    omega
  rcases q with q | q
  · have := h.mp q
    rw [q, this]
    exact ⟨fun z => absurd z (by decide), fun z => absurd z (by decide)⟩
  · refine ⟨fun _ => ?_, fun _ => q⟩
    cases e : (nn x).testBit i with
    | true => rfl
    | false => exact absurd ((h.mpr e).symm.trans q) (by decide)
theorem rr_setAfter {l w : Nat} (hm : m < 4) (hR : HR ν m A) (hv : AV A) (hl : l < 2 ^ 30) (hw : w < 2 ^ 31) (h : ∀ r, nn r = SAf (RA9 A) l w (nn A.2.1) → Qi r) : wp_X11_setAfter ν (nI m) (nI l) (nI w) Qi := by
  obtain ⟨b1, b2, b3, b4⟩ := hR
  have v7 := hv.2.1
  have im : (nI m).toNatClampNeg = m := nI_clamp (by omega)
  have L26 : ∀ (v12 v14 v16 : Int32) (y : Nat) (K : Int32 → Prop), y < 2 ^ 31 → (∀ u, nn u = RA9 A (nn v14) (y % 3) → K u) → ∀ (nf i : Nat) (v : Int32), A.1 - i < nf → i ≤ A.1 → nn v = RCg (fun j => nn (A.2.2.2 j)) (nn v14) (y % 3) i → wpl_X11_setAfter_26 ν v12 (nI y) v14 (nI m) v16 K nf (nI i) v := by
    intro v12 v14 v16 y K hy hK nf
    induction nf with
    | zero => intro i v hk; exact absurd hk (Nat.not_lt_zero _)
    | succ nf ih =>
      intro i v hk hi hV
      have hy3 := Nat.mod_lt y (show 0 < 3 by decide)
      refine ⟨s_in hm (by omega), ?_⟩
      rw [im, b1, nI_leI (by omega) (by omega)]
      refine ⟨fun c => ?_, fun c => ?_⟩
      · rw [show i = A.1 by omega] at hV
        exact hK v hV
      refine ⟨fun z => ?_, fun z => ?_⟩
      · rw [s_isIn1 (by omega)] at z
        rw [nI_1]
        exact ih (i + 1) v (by omega) (by omega) (by rw [RCg, if_neg z]; exact hV)
      · rw [s_isIn1 (by omega)] at z
        rw [show (3 : Int32) = nI 3 from rfl, s_mod (by decide) hy (by decide)]
        refine rr_key ⟨s_in (show _ < 84 by omega) (by omega), ?_⟩
        rw [nI_clamp (by omega), Nat.add_assoc, b4 _ (by omega), nI_1]
        exact ih (i + 1) _ (by omega) (by omega) (by rw [nn_or, RCg, if_pos z, hV])
  have L : ∀ (nf i y : Nat) (x : Int32), l - i < nf → i ≤ l → y < 2 ^ 31 → SAf (RA9 A) (l - i) y (nn x) = SAf (RA9 A) l w (nn A.2.1) → wpl_X11_setAfter_14 ν (nI m) (nI l) Qi nf (nI i) (nI y) x := by
    intro nf
    induction nf with
    | zero => intro i y x hk; exact absurd hk (Nat.not_lt_zero _)
    | succ nf ih =>
      intro i y x hk hi hy e
      refine ⟨fun c => ?_, fun c => ?_⟩
      · rw [nI_leI (by omega) (by omega)] at c
        rw [show l - i = 0 by omega] at e
        exact h x e
      rw [nI_leI (by omega) (by omega)] at c
      have g := L26 (nI i) x (nI l) y (fun u23 => wpl_X11_setAfter_14 ν (nI m) (nI l) Qi nf (nI i + (1 : Int32)) (nI y / (3 : Int32)) u23) hy (fun u hu => ?_) (A.1 + 1) 0 0 (by omega) (by omega) nn_0
      · rw [nI_0] at g
        exact ⟨_, g⟩
      · rw [show (3 : Int32) = nI 3 from rfl, s_div (by decide) hy (by decide), nI_1]
        refine ih (i + 1) (y / 3) u (by omega) (by omega) (by omega) ?_
        rw [hu, ← e, show l - i = l - (i + 1) + 1 by omega]
        rfl
  have g := L (l + 1) 0 w A.2.1 (by omega) (by omega) hw rfl
  rw [nI_0] at g
  refine ⟨s_in hm (by omega), ?_⟩
  rw [im, b2]
  exact ⟨_, g⟩
theorem p3_le {l : Nat} (h : l ≤ 12) : 1 ≤ 3 ^ l ∧ 3 ^ l ≤ 531441 := ⟨Nat.one_le_pow _ _ (by decide), by have := Nat.pow_le_pow_right (show 0 < 3 by decide) h; exact this⟩
theorem e_codes {l : Nat} (hl : l ≤ 12) (h : Qi (nI (3 ^ l))) : wp_X9_countCodes (nI l) Qi := by
  have L : ∀ (nf i : Nat), l - i < nf → i ≤ l → wpl_X9_countCodes_4 (nI l) Qi nf (nI i) (nI (3 ^ i)) := by
    intro nf
    induction nf with
    | zero => intro i hk; exact absurd hk (Nat.not_lt_zero _)
    | succ nf ih =>
      intro i hk hi
      refine ⟨fun c => ?_, fun c => ?_⟩
      · rw [nI_leI (by omega) (by omega)] at c
        rw [show i = l by omega]
        exact h
      rw [nI_leI (by omega) (by omega)] at c
      rw [show (3 : Int32) = nI 3 from rfl, s_mul, ← Nat.pow_succ, nI_1]
      exact ih (i + 1) (by omega) (by omega)
  exact ⟨_, L (l + 1) 0 (by omega) (by omega)⟩
theorem rr_power {l : Nat} (hl : l ≤ 12) (h : Qi (nI (3 ^ l))) : wp_X11_power (nI l) Qi := by
  have L : ∀ (nf i : Nat), l - i < nf → i ≤ l → wpl_X11_power_4 (nI l) Qi nf (nI i) (nI (3 ^ i)) := by
    intro nf
    induction nf with
    | zero => intro i hk; exact absurd hk (Nat.not_lt_zero _)
    | succ nf ih =>
      intro i hk hi
      refine ⟨fun c => ?_, fun c => ?_⟩
      · rw [nI_leI (by omega) (by omega)] at c
        rw [show i = l by omega]
        exact h
      rw [nI_leI (by omega) (by omega)] at c
      rw [show (3 : Int32) = nI 3 from rfl, s_mul, ← Nat.pow_succ, nI_1]
      exact ih (i + 1) (by omega) (by omega)
  exact ⟨_, L (l + 1) 0 (by omega) (by omega)⟩
/-- a word: its length, its code -/
def WRD (x y : Int32) : Prop := ∃ l w : Nat, l ≤ 12 ∧ x = nI l ∧ y = nI w ∧ w < 3 ^ l
theorem e_word {Qv : TMem → Prop} (h : ∀ l w : Nat, l ≤ 12 → a2 = nI l → a3 = nI w → w < 3 ^ l → Qv μ) (hX : ¬ WRD a2 a3 → X "java/lang/IllegalArgumentException" μ) : wp_X9_checkWord μ a2 a3 Qv X := by
  refine e_rng (fun z => ?_) (fun z => hX (fun ⟨l, w, hl, e, _, _⟩ => z (e ▸ IN_nI (by show (0 : Int) ≤ l; omega) (by show (l : Int) ≤ 12; omega) (by omega))))
  obtain ⟨l, e, _, h12⟩ := IN_ex z (by decide)
  have hl : l ≤ 12 := by have h12' : (l : Int) ≤ 12 := h12; omega
  obtain ⟨p1, p2⟩ := p3_le hl
  have e1 : nI (3 ^ l) - (1 : Int32) = nI (3 ^ l - 1) := by rw [show (1 : Int32) = nI 1 from rfl, s_sub (by omega) (by omega)]
  have ei : (nI (3 ^ l - 1)).toInt = ((3 ^ l - 1 : Nat) : Int) := nI_toInt (by omega)
  rw [e]
  refine e_codes hl (e_rng (fun z2 => ?_) (fun z2 => hX (fun ⟨l', w, hl', e', ew, hw⟩ => z2 ?_)))
  · rw [e1, ei] at z2
    obtain ⟨w, ew, _, h2⟩ := IN_ex z2 (by decide)
    exact h l w hl e ew (by omega)
  · cases nI_injS e e' (by omega) (by omega)
    rw [e1, ei, ew]
    exact IN_nI (by show (0 : Int) ≤ w; omega) (by omega) (by omega)
theorem rr_word (h1 : ∀ l w : Nat, l ≤ 12 → a2 = nI l → a3 = nI w → w < 3 ^ l → Qi 1) (h0 : ¬ WRD a2 a3 → Qi 0) : wp_X11_isWord a2 a3 Qi := by
  refine rr_in (fun z => ⟨fun q => absurd q (by decide), fun _ => ?_⟩) (fun z => ⟨fun _ => h0 (fun ⟨l, w, hl, e, _, _⟩ => z (e ▸ IN_nI (by show (0 : Int) ≤ l; omega) (by show (l : Int) ≤ 12; omega) (by omega))), fun q => absurd rfl q⟩)
  obtain ⟨l, e, _, h12⟩ := IN_ex z (by decide)
  have hl : l ≤ 12 := by have h12' : (l : Int) ≤ 12 := h12; omega
  obtain ⟨p1, p2⟩ := p3_le hl
  have e1 : nI (3 ^ l) - (1 : Int32) = nI (3 ^ l - 1) := by rw [show (1 : Int32) = nI 1 from rfl, s_sub (by omega) (by omega)]
  have ei : (nI (3 ^ l - 1)).toInt = ((3 ^ l - 1 : Nat) : Int) := nI_toInt (by omega)
  rw [e]
  refine rr_power hl (rr_in (fun z2 => ⟨fun q => absurd q (by decide), fun _ => ?_⟩) (fun z2 => ⟨fun _ => h0 (fun ⟨l', w, hl', e', ew, hw⟩ => z2 ?_), fun q => absurd rfl q⟩))
  · rw [e1, ei] at z2
    obtain ⟨w, ew, _, h2⟩ := IN_ex z2 (by decide)
    exact h1 l w hl e ew (by omega)
  · cases nI_injS e e' (by omega) (by omega)
    rw [e1, ei, ew]
    exact IN_nI (by show (0 : Int) ≤ w; omega) (by omega) (by omega)
/-- as HPP, of an answer that is yes or no -/
abbrev HPB (P : PP) : Prop := ∀ (k : Int32) (nv : Int64) (μ9 : TMem) (b : Int32) (ν9 : TMem), SIM μ9 ν9 → ν9 0 7 = k → (k = 0 → nv = if b = 0 then 0 else 1) → P k nv μ9 b ν9
theorem phb_ok {S' : Nat → AM} {a' r' k' : Int32} {μ9 ν9 : TMem} {b : Int32} (hP : HPB P) (hv : AVs S') (hc : CSt μ9 S' a' r' k') (hr : RSt ν9 S' a' r' k' 0) : P 0 (if b = 0 then 0 else 1) μ9 b ν9 := hP _ _ _ _ _ ⟨S', a', r', k', 0, hv, hc, hr⟩ hr.thn (fun _ => rfl)
theorem phb_x {S' : Nat → AM} {a' r' k' z : Int32} {μ9 ν9 : TMem} {b : Int32} {nv : Int64} (hP : HPB P) (hv : AVs S') (hc : CSt μ9 S' a' r' k') (hr : RSt ν9 S' a' r' k' z) (hz : z ≠ 0) : P z nv μ9 b ν9 := hP _ _ _ _ _ ⟨S', a', r', k', z, hv, hc, hr⟩ hr.thn (fun e => absurd e hz)
def TKv (A : AM) (l w : Nat) : Int32 := if SAf (RA9 A) l w (nn A.2.1) &&& nn A.2.2.1 = 0 then 0 else 1
theorem ee_takes (hc : CSt μ S a r k) (hv : AVs S) (hok : ∀ m l w, m < 4 → a1 = nI m → l ≤ 12 → a2 = nI l → a3 = nI w → w < 3 ^ l → Q (TKv (S m) l w) μ) (h1 : ¬ M1 a1 → X "java/lang/IndexOutOfBoundsException" μ) (h2 : M1 a1 → ¬ WRD a2 a3 → X "java/lang/IllegalArgumentException" μ) : wp_X9_takes μ a1 a2 a3 Q X := by
  refine e_mach (fun m hm em => e_word (fun l w hl el ew hw => ?_) (fun z => h2 (em ▸ M1_nI hm) z)) h1
  have hM := hc.1 m hm
  have v7 := (hv m hm).2.1
  have tm := tlm hm
  have p2 := (p3_le hl).2
  have g := hok m l w hm em hl el ew hw
  rw [el, ew]
  refine e_statesAfter hM (by omega) (by omega) (by omega) (by omega) (fun x hx => ?_)
  have e : x &&& (S m).2.2.1 = 0 ↔ SAf (RA9 (S m)) l w (nn (S m).2.1) &&& nn (S m).2.2.1 = 0 := by rw [← hx, ← nn_and, nn_eq, nn_0]
  rw [TKv] at g
  rw [hM.2.2.1, e]
  refine ⟨fun z => ⟨Or.inl rfl, ?_⟩, fun z => ⟨Or.inr rfl, ?_⟩⟩
  · rw [if_pos z] at g; exact g
  · rw [if_neg z] at g; exact g
theorem rr_takes (h : RSt ν S a r k t) (hv : AVs S) (hok : ∀ m l w, m < 4 → a1 = nI m → l ≤ 12 → a2 = nI l → a3 = nI w → w < 3 ^ l → ∀ ν9, RSt ν9 S a r k 0 → Q (TKv (S m) l w) ν9) (h1 : ¬ M1 a1 → ∀ b ν9, RSt ν9 S a r k 1 → Q b ν9) (h2 : M1 a1 → ¬ WRD a2 a3 → ∀ b ν9, RSt ν9 S a r k 2 → Q b ν9) : wp_X11_takes ν a1 a2 a3 Q := by
  refine rr_one (fun m hm em => rr_word (fun l w hl el ew hw => th_ok ⟨fun q => absurd rfl q, fun _ => ?_⟩) (fun z => th_2 ⟨fun _ => h2 (em ▸ M1_nI hm) z _ _ (h.thr 2), fun q => absurd q (by decide)⟩)) (fun z => rr_word (fun _ _ _ _ _ _ => th_1 ⟨fun _ => h1 z _ _ (h.thr 1), fun q => absurd q (by decide)⟩) (fun _ => th_1 ⟨fun _ => h1 z _ _ (h.thr 1), fun q => absurd q (by decide)⟩))
  have h0 := h.thr 0
  have hR := h0.1 m hm
  have g := hok m l w hm em hl el ew hw _ h0
  have im : (nI m).toNatClampNeg = m := nI_clamp (by omega)
  have p2 := (p3_le hl).2
  rw [em, el, ew]
  generalize hN : tms ν 0 7 0 = N at *
  refine rr_setAfter hm hR (hv m hm) (by omega) (by omega) (fun x hx => ⟨s_in hm (by omega), ?_⟩)
  have e : x &&& (S m).2.2.1 = 0 ↔ SAf (RA9 (S m)) l w (nn (S m).2.1) &&& nn (S m).2.2.1 = 0 := by rw [← hx, ← nn_and, nn_eq, nn_0]
  rw [TKv] at g
  rw [im, hR.2.2.1, e]
  refine ⟨fun z => ?_, fun z => ?_⟩
  · rw [if_pos z] at g; exact g
  · rw [if_neg z] at g; exact g
theorem gs_takes (hP : HPB P) (h : SIM μ ν) (nv : Int64) : wp_X9_takes μ a1 a2 a3 (fun r μ9 => wp_X11_takes ν a1 a2 a3 (fun b ν9 => P 0 (if r = 0 then 0 else 1) μ9 b ν9)) (fun E μ9 => (E = IOBn ∧ wp_X11_takes ν a1 a2 a3 (fun b ν9 => P 1 nv μ9 b ν9)) ∨ (E = IAEn ∧ wp_X11_takes ν a1 a2 a3 (fun b ν9 => P 2 nv μ9 b ν9))) := by
  obtain ⟨S, a, r, k, t, hv, hc, hr⟩ := h
  refine ee_takes hc hv (fun m l w hm e hl el ew hw => ?_) (fun z => Or.inl ⟨rfl, ?_⟩) (fun w z => Or.inr ⟨rfl, ?_⟩)
  · refine rr_takes hr hv (fun m' l' w' hm' e' hl' el' ew' hw' ν9 r9 => ?_) (fun z => absurd (e ▸ M1_nI hm) z) (fun _ z => absurd ⟨l, w, hl, el, ew, hw⟩ z)
    have p2 := (p3_le hl).2
    have p2' := (p3_le hl').2
    cases nI_injS e e' (by omega) (by omega)
    cases nI_injS el el' (by omega) (by omega)
    cases nI_injS ew ew' (by omega) (by omega)
    exact phb_ok hP hv hc r9
  · exact rr_takes hr hv (fun m' l' w' hm' e' hl' el' ew' hw' ν9 r9 => absurd (e' ▸ M1_nI hm') z) (fun _ b ν9 r9 => phb_x hP hv hc r9 (by decide)) (fun w => absurd w z)
  · exact rr_takes hr hv (fun m' l' w' hm' e' hl' el' ew' hw' ν9 r9 => absurd ⟨l', w', hl', el', ew', hw'⟩ z) (fun w' => absurd w w') (fun _ _ b ν9 r9 => phb_x hP hv hc r9 (by decide))
theorem SIM0 : SIM MU0 NU0 := by
  refine ⟨fun _ => (1, 1, 0, fun _ => 0), 0, 0, 0, 0, fun m hm => ⟨show (1 : Nat) ≤ 1 by decide, show (1 : Nat) ≤ 7 by decide, show nn 1 < 2 ^ 1 by decide, show nn 0 < 2 ^ 1 by decide, fun j _ => show nn 0 < 2 ^ 1 by decide, fun j _ => rfl⟩, ⟨fun m hm => ?_, rfl, rfl, rfl, GB0⟩, ⟨fun m hm => ?_, rfl, rfl, rfl, rfl⟩⟩
  · rcases (show m = 0 ∨ m = 1 ∨ m = 2 ∨ m = 3 by omega) with rfl | rfl | rfl | rfl <;> exact ⟨rfl, rfl, rfl, fun j _ => rfl⟩
  · rcases (show m = 0 ∨ m = 1 ∨ m = 2 ∨ m = 3 by omega) with rfl | rfl | rfl | rfl <;> exact ⟨by decide, by decide, rfl, fun j _ => rfl⟩
end SIMT
end
/-! part 9sat.sim3 -/
section
section SIMU
variable {μ ν : TMem} {S : Nat → AM} {a r k t : Int32} {a1 a2 a3 a4 a5 : Int32} {m : Nat} {A : AM} {D : DF} {Q : Int32 → TMem → Prop} {X : String → TMem → Prop} {Qi : Int32 → Prop} {P : PP}
theorem nI_nn (x : Int32) : nI (nn x) = x := nn_inj (nn_nI (nn_lt x))
theorem nn_is {x : Int32} {n : Nat} (h : nn x = n) : x = nI n := by rw [← h, nI_nn]
/-- a one-way machine's way -/
def DW (D : DF) (x s : Nat) : Nat := D.2.1 (3 * x + s)
theorem e_stateAfter {l w k0 : Nat} (hk : kd k0 = 5) (h : HP μ k0 D) (hl : l < 2 ^ 30) (hw : w < 2 ^ 31) (hQ : Qi (nI (SAf (DW D) l w 0))) : wp_X5_stateAfter k0 μ (nI l) (nI w) Qi := by
  have q := (kd5 hk).2
  obtain ⟨h1, h2, h3, h4, h5, h6⟩ := h
  have L : ∀ (nf i y x : Nat), l - i < nf → i ≤ l → y < 2 ^ 31 → x < D.1 → SAf (DW D) (l - i) y x = SAf (DW D) l w 0 → wpl_X5_stateAfter_8 k0 μ (nI l) Qi nf (nI i) (nI y) (nI x) := by
    intro nf
    induction nf with
    | zero => intro i y x hk; exact absurd hk (Nat.not_lt_zero _)
    | succ nf ih =>
      intro i y x hk hi hy hx e
      have hy3 := Nat.mod_lt y (show 0 < 3 by decide)
      refine ⟨fun c => ?_, fun c => ?_⟩
      · rw [nI_leI (by omega) (by omega)] at c
        rw [show l - i = 0 by omega] at e
        rw [← e] at hQ
        exact hQ
      rw [nI_leI (by omega) (by omega)] at c
      rw [show (3 : Int32) = nI 3 from rfl, s_mod (by decide) hy (by decide), s_div (by decide) hy (by decide), nI_1]
      refine e_atN (by omega) ?_
      rw [h5 _ (by omega)]
      refine ih (i + 1) (y / 3) _ (by omega) (by omega) (by omega) (h3 _ (by omega)) ?_
      rw [← e, show l - i = l - (i + 1) + 1 by omega]
      rfl
  have g := L (l + 1) 0 w 0 (by omega) (by omega) hw (by omega) rfl
  rw [nI_0] at g
  exact ⟨_, g⟩
theorem rr_stateAfter {l w nf : Nat} {f : Nat → Int32} (h : HF nf f D) (hl : l < 2 ^ 30) (hw : w < 2 ^ 31) (hQ : Q (nI (SAf (DW D) l w 0)) ν) : ∃ z, wpl_X11_after_88_28 ν f nf (nI l) Q z 0 (nI w) 0 := by
  obtain ⟨h1, h2, h3, h4, h5, h6⟩ := h
  have L : ∀ (z i y x : Nat), l - i < z → i ≤ l → y < 2 ^ 31 → x < D.1 → SAf (DW D) (l - i) y x = SAf (DW D) l w 0 → wpl_X11_after_88_28 ν f nf (nI l) Q z (nI i) (nI y) (nI x) := by
    intro z
    induction z with
    | zero => intro i y x hk; exact absurd hk (Nat.not_lt_zero _)
    | succ z ih =>
      intro i y x hk hi hy hx e
      have hy3 := Nat.mod_lt y (show 0 < 3 by decide)
      refine ⟨fun c => ?_, fun c => ?_⟩
      · rw [nI_leI (by omega) (by omega)] at c
        rw [show l - i = 0 by omega] at e
        rw [← e] at hQ
        exact hQ
      rw [nI_leI (by omega) (by omega)] at c
      have p4 : (4 : Int32) * nI x + nI (y % 3) = nI (4 * x + y % 3) := by rw [show (4 : Int32) = nI 4 from rfl, s_mul, nI_add]
      rw [show (3 : Int32) = nI 3 from rfl, s_mod (by decide) hy (by decide), s_div (by decide) hy (by decide), nI_1, p4, nI_clamp (by omega), h5 _ _ hx hy3]
      refine ⟨s_in (by omega) (by omega), ih (i + 1) (y / 3) _ (by omega) (by omega) (by omega) (h3 _ (by omega)) ?_⟩
      rw [← e, show l - i = l - (i + 1) + 1 by omega]
      rfl
  have g := L (l + 1) 0 w 0 (by omega) (by omega) hw (by omega) rfl
  rw [nI_0] at g
  exact ⟨_, g⟩
/-- what after tells -/
def AFV (A : AM) (h : Int32) (l w : Nat) : Option Int32 := if h = 0 then some (nI (SAf (RA9 A) l w (nn A.2.1))) else (if h = 1 then OWM A else LSM A).map (fun D => nI (SAf (DW D) l w 0))
abbrev WDD (x y : Int32) (l w : Nat) : Prop := l ≤ 12 ∧ x = nI l ∧ y = nI w ∧ w < 3 ^ l
theorem ee_after (hc : CSt μ S a r k) (hv : AVs S) (hok : ∀ m l w v, m < 4 → a1 = nI m → WDD a2 a3 l w → IN a4 0 2 → AFV (S m) a4 l w = some v → ∀ μ9, CSt μ9 S a r k → Q v μ9) (h1 : ¬ M1 a1 → X "java/lang/IndexOutOfBoundsException" μ) (h2 : M1 a1 → ¬ (WRD a2 a3 ∧ IN a4 0 2) → X "java/lang/IllegalArgumentException" μ) (h3 : ∀ m l w, m < 4 → a1 = nI m → WDD a2 a3 l w → IN a4 0 2 → AFV (S m) a4 l w = none → ∀ μ9, CSt μ9 S a r k → X "java/lang/IllegalStateException" μ9) : wp_X9_after μ a1 a2 a3 a4 Q X := by
  refine e_mach (fun m hm em => e_word (fun l w hl el ew hw => e_rng (fun z4 => ?_) (fun z => h2 (em ▸ M1_nI hm) (fun q => z q.2))) (fun z => h2 (em ▸ M1_nI hm) (fun q => z q.1))) h1
  have hM := hc.1 m hm
  have v7 := (hv m hm).2.1
  have tm := tlm hm
  have p2 := (p3_le hl).2
  have hok' := hok m l w
  have h3' := h3 m l w hm em ⟨hl, el, ew, hw⟩ z4
  have hok2 := fun v => hok' v hm em ⟨hl, el, ew, hw⟩ z4
  have go : ∀ (D : DF) (μ7 : TMem), AFV (S m) a4 l w = some (nI (SAf (DW D) l w 0)) → HP μ7 57 D → ZF μ μ7 → wp_X5_stateAfter 57 μ7 a2 a3 (fun r8 => Q r8 μ7) := fun D μ7 e hP hz => by
    rw [el, ew]
    exact e_stateAfter rfl hP (by omega) (by omega) (hok2 _ e μ7 (hc.keep hz))
  refine ⟨fun n0 => ⟨fun n1 => ?_, fun e => ?_⟩, fun e => ?_⟩
  · have ea : AFV (S m) a4 l w = (LSM (S m)).map (fun D => nI (SAf (DW D) l w 0)) := by rw [AFV, if_neg n0, if_neg n1]
    refine e_makeBy0 (kdm hm) (k2 := 57) rfl (by decide) hM (by omega) (by omega) (fun D μ7 e hP hz => ⟨fun _ => go D μ7 (by rw [ea, e]; rfl) hP hz, fun q => absurd q (by decide)⟩) (fun e μ7 hz => ⟨fun q => absurd rfl q, fun _ => h3' (by rw [ea, e]; rfl) μ7 (hc.keep hz)⟩)
  · have ea : AFV (S m) a4 l w = (OWM (S m)).map (fun D => nI (SAf (DW D) l w 0)) := by rw [AFV, if_neg n0, if_pos e]
    refine e_makeBy3 (kdm hm) (k2 := 57) rfl hM (by omega) (by omega) (fun D μ7 e hP hz => ⟨fun _ => go D μ7 (by rw [ea, e]; rfl) hP hz, fun q => absurd q (by decide)⟩) (fun e μ7 hz => ⟨fun q => absurd rfl q, fun _ => h3' (by rw [ea, e]; rfl) μ7 (hc.keep hz)⟩)
  · rw [el, ew]
    refine e_statesAfter hM (by omega) (by omega) (by omega) (by omega) (fun x hx => ?_)
    rw [nn_is hx]
    exact hok2 _ (by rw [AFV, if_pos e]) μ hc
theorem rr_after (h : RSt ν S a r k t) (hv : AVs S) (hok : ∀ m l w v, m < 4 → a1 = nI m → WDD a2 a3 l w → IN a4 0 2 → AFV (S m) a4 l w = some v → ∀ ν9, RSt ν9 S a r k 0 → Q v ν9) (h1 : ¬ M1 a1 → ∀ b ν9, RSt ν9 S a r k 1 → Q b ν9) (h2 : M1 a1 → ¬ (WRD a2 a3 ∧ IN a4 0 2) → ∀ b ν9, RSt ν9 S a r k 2 → Q b ν9) (h3 : ∀ m l w, m < 4 → a1 = nI m → WDD a2 a3 l w → IN a4 0 2 → AFV (S m) a4 l w = none → ∀ b ν9, RSt ν9 S a r k 3 → Q b ν9) : wp_X11_after ν a1 a2 a3 a4 Q := by
  refine rr_one (fun m hm em => rr_word (fun l w hl el ew hw => fun J hJ => ⟨fun q => absurd q (by decide), fun _ => rr_in (fun z4 => ⟨fun q => absurd q (by decide), fun _ => hJ _ (th_ok ⟨fun _ => ?_, fun q => absurd rfl q⟩)⟩) (fun z => ⟨fun _ => hJ _ (th_2 ⟨fun q => absurd q (by decide), fun _ => h2 (em ▸ M1_nI hm) (fun q => z q.2) _ _ (h.thr 2)⟩), fun q => absurd rfl q⟩)⟩) (fun z => fun J hJ => ⟨fun _ => hJ _ (th_2 ⟨fun q => absurd q (by decide), fun _ => h2 (em ▸ M1_nI hm) (fun q => z q.1) _ _ (h.thr 2)⟩), fun q => absurd rfl q⟩)) (fun z => ?_)
  · have h0 := h.thr 0
    have hR := h0.1 m hm
    have hok2 := fun v => hok m l w v hm em ⟨hl, el, ew, hw⟩ z4
    have h3' := h3 m l w hm em ⟨hl, el, ew, hw⟩ z4
    have p2 := (p3_le hl).2
    rw [em, el, ew]
    generalize hN : tms ν 0 7 0 = N at *
    refine ⟨fun n0 J9 hJ9 => ?_, fun e => ?_⟩
    · refine ⟨fun n1 => hJ9 _ ?_, fun e => hJ9 _ ?_⟩
      · have ea : AFV (S m) a4 l w = (LSM (S m)).map (fun D => nI (SAf (DW D) l w 0)) := by rw [AFV, if_neg n0, if_neg n1]
        refine rr_found0 hm hR (hv m hm) (fun D nf g e hF => ⟨(fun z => nomatch z), fun n6 f7 z => ?_⟩) (fun e => ⟨fun _ => ⟨fun q => absurd q (by decide), fun _ => h3' (by rw [ea, e]; rfl) _ _ (h0.thr 3)⟩, (fun _ _ z => nomatch z)⟩)
        cases z
        exact ⟨fun _ => rr_stateAfter hF (by omega) (by omega) (hok2 _ (by rw [ea, e]; rfl) _ (h0.thr 0)), fun q => absurd rfl q⟩
      · have ea : AFV (S m) a4 l w = (OWM (S m)).map (fun D => nI (SAf (DW D) l w 0)) := by rw [AFV, if_neg n0, if_pos e]
        refine rr_found3 hm hR (hv m hm) (fun D nf g e hF => ⟨(fun z => nomatch z), fun n6 f7 z => ?_⟩) (fun e => ⟨fun _ => ⟨fun q => absurd q (by decide), fun _ => h3' (by rw [ea, e]; rfl) _ _ (h0.thr 3)⟩, (fun _ _ z => nomatch z)⟩)
        cases z
        exact ⟨fun _ => rr_stateAfter hF (by omega) (by omega) (hok2 _ (by rw [ea, e]; rfl) _ (h0.thr 0)), fun q => absurd rfl q⟩
    · refine rr_setAfter hm hR (hv m hm) (by omega) (by omega) (fun x hx => ?_)
      rw [nn_is hx]
      exact hok2 _ (by rw [AFV, if_pos e]) _ h0
  · have bad : ∀ j4 : Int32, wp_X11_isThrown ν 0 j4 (fun (r6 : Int32) (μ5 : TMem) => (r6 = 0 → ((¬ a4 = 0 → (∀ J9 : Int32 → Prop, (∀ (j10 : Int32), (wp_X11_found μ5 a1 j10 (fun (r37 : Option AI) => (r37 = none → (wp_X11_isCrowded_n μ5 (3 : Int32) (fun (r17 : Int32) (μ16 : TMem) => (r17 = 0 → (∃ n18x, wpl_X11_after_88 μ16 a2 Q n18x (0 : Int32) a3 (0 : Int32))) ∧ (¬ r17 = 0 → (Q (0 : Int32) μ16))))) ∧ (∀ (n14 : Nat) (f15 : Nat → Int32), r37 = some (n14, f15) → (wp_X11_isCrowded μ5 n14 f15 (3 : Int32) (fun (r27 : Int32) (μ26 : TMem) => (r27 = 0 → (∃ n28x, wpl_X11_after_88_28 μ26 f15 n14 a2 Q n28x (0 : Int32) a3 (0 : Int32))) ∧ (¬ r27 = 0 → (Q (0 : Int32) μ26))))))) → J9 j10) → ((¬ a4 = (1 : Int32) → (J9 (0 : Int32))) ∧ (a4 = (1 : Int32) → (J9 (3 : Int32)))))) ∧ (a4 = 0 → (wp_X11_setAfter μ5 a1 a2 a3 (fun (r41 : Int32) => Q r41 μ5))))) ∧ (¬ r6 = 0 → (Q (0 : Int32) μ5))) := fun j4 => th_1 ⟨fun q => absurd q (by decide), fun _ => h1 z _ _ (h.thr 1)⟩
    refine rr_word (fun l w hl el ew hw => fun J hJ => ⟨fun q => absurd q (by decide), fun _ => rr_in (fun z4 => ⟨fun q => absurd q (by decide), fun _ => hJ _ (bad _)⟩) (fun z => ⟨fun _ => hJ _ (bad _), fun q => absurd rfl q⟩)⟩) (fun z => fun J hJ => ⟨fun _ => hJ _ (bad _), fun q => absurd rfl q⟩)
theorem WDD.wrd {l w : Nat} (h : WDD a2 a3 l w) : WRD a2 a3 := ⟨l, w, h⟩
theorem WDD.uq {l w l' w' : Nat} (h : WDD a2 a3 l w) (h' : WDD a2 a3 l' w') : l' = l ∧ w' = w := by
  obtain ⟨hl, el, ew, hw⟩ := h
  obtain ⟨hl', el', ew', hw'⟩ := h'
  have p2 := (p3_le hl).2
  have p2' := (p3_le hl').2
  exact ⟨nI_injS el' el (by omega) (by omega), nI_injS ew' ew (by omega) (by omega)⟩
theorem gs_after (hP : HPP P) (h : SIM μ ν) (nv : Int64) : wp_X9_after μ a1 a2 a3 a4 (fun r μ9 => wp_X11_after ν a1 a2 a3 a4 (fun b ν9 => P 0 r.toInt64 μ9 b ν9)) (fun E μ9 => (E = IOBn ∧ wp_X11_after ν a1 a2 a3 a4 (fun b ν9 => P 1 nv μ9 b ν9)) ∨ (E = IAEn ∧ wp_X11_after ν a1 a2 a3 a4 (fun b ν9 => P 2 nv μ9 b ν9)) ∨ (E = ISEn ∧ wp_X11_after ν a1 a2 a3 a4 (fun b ν9 => P 3 nv μ9 b ν9))) := by
  obtain ⟨S, a, r, k, t, hv, hc, hr⟩ := h
  refine ee_after hc hv (fun m l w v hm e hw z4 ev μ9 c9 => ?_) (fun z => Or.inl ⟨rfl, ?_⟩) (fun w z => Or.inr (Or.inl ⟨rfl, ?_⟩)) (fun m l w hm e hw z4 ev μ9 c9 => Or.inr (Or.inr ⟨rfl, ?_⟩))
  · refine rr_after hr hv (fun m' l' w' v' hm' e' hw' z4' ev' ν9 r9 => ?_) (fun z => absurd (e ▸ M1_nI hm) z) (fun _ z => absurd ⟨hw.wrd, z4⟩ z) (fun m' l' w' hm' e' hw' z4' ev' b ν9 r9 => ?_)
    all_goals
      cases nI_injS e e' (by omega) (by omega)
      obtain ⟨rfl, rfl⟩ := hw.uq hw'
      rw [ev] at ev'
      cases ev'
    exact ph_ok hP hv c9 r9
  · exact rr_after hr hv (fun m' l' w' v' hm' e' hw' z4' ev' ν9 r9 => absurd (e' ▸ M1_nI hm') z) (fun _ b ν9 r9 => ph_x hP hv hc r9 (by decide)) (fun w => absurd w z) (fun m' l' w' hm' e' hw' z4' ev' b ν9 r9 => absurd (e' ▸ M1_nI hm') z)
  · exact rr_after hr hv (fun m' l' w' v' hm' e' hw' z4' ev' ν9 r9 => absurd ⟨hw'.wrd, z4'⟩ z) (fun w' => absurd w w') (fun _ _ b ν9 r9 => ph_x hP hv hc r9 (by decide)) (fun m' l' w' hm' e' hw' z4' ev' b ν9 r9 => absurd ⟨hw'.wrd, z4'⟩ z)
  · refine rr_after hr hv (fun m' l' w' v' hm' e' hw' z4' ev' ν9 r9 => ?_) (fun z => absurd (e ▸ M1_nI hm) z) (fun _ z => absurd ⟨hw.wrd, z4⟩ z) (fun m' l' w' hm' e' hw' z4' ev' b ν9 r9 => ph_x hP hv c9 r9 (by decide))
    cases nI_injS e e' (by omega) (by omega)
    obtain ⟨rfl, rfl⟩ := hw.uq hw'
    rw [ev] at ev'
    cases ev'
end SIMU
end
/-! part 9sau.sim4 -/
section
section SIMV
variable {μ ν : TMem} {S : Nat → AM} {a r k t : Int32} {a1 a2 a3 a4 a5 : Int32} {m m' : Nat} {A B : AM} {D D1 D2 : DF} {Q : Int32 → TMem → Prop} {X : String → TMem → Prop} {Qi : Int32 → Prop} {Qo : Option AI → Prop} {P : PP}
theorem EXs_only {lim : Nat} {f : Nat → Nat → Nat} {u : Nat → Bool} {L' T' : List Nat} : ∀ (k : Nat) (L T : List Nat), (∀ i, i + 1 < L.length → u (L.getD i 0) = false) → EXs lim f u k L T = some (L', T') → ∀ i, i + 1 < L'.length → u (L'.getD i 0) = false := by
  intro k
  induction k with
  | zero => intro L T _ h; cases h
  | succ k ih =>
    intro L T hu h
    rw [EXs] at h
    by_cases hd : 3 * L.length ≤ T.length ∨ u (L.getD (L.length - 1) 0) = true
    · rw [if_pos hd] at h
      cases h
      exact hu
    · rw [if_neg hd] at h
      by_cases hm : nxt f L T ∈ L
      · rw [if_pos hm] at h
        exact ih _ _ hu h
      · rw [if_neg hm] at h
        by_cases hl : lim ≤ L.length
        · rw [if_pos hl] at h; cases h
        · rw [if_neg hl] at h
          refine ih _ _ (fun i hi => ?_) h
          rw [List.length_append] at hi
          simp only [List.length_cons, List.length_nil] at hi
          rw [getD_app (by omega)]
          by_cases e : i + 1 < L.length
          · exact hu i e
          · have e2 : i = L.length - 1 := by omega
            have := fun z => hd (Or.inr z)
            rw [e2]
            simpa using this
theorem EX_only {lim x0 : Nat} {f : Nat → Nat → Nat} {u : Nat → Bool} {L T : List Nat} (h : EX lim f u x0 = some (L, T)) : ∀ i, i + 1 < L.length → u (L.getD i 0) = false := EXs_only _ _ _ (fun i hi => by simp at hi) h
/-- whether the last pair that was met parts two machines -/
def APT (D1 D2 : DF) (L : List Nat) : Bool := uM D1 D2 (L.getD (L.length - 1) 0)
theorem APT_iff {lim : Nat} {L T : List Nat} (hl : 1 ≤ lim) (h : MR9 D1 D2 lim 0 = some (L, T)) : (∀ x ∈ L, uM D1 D2 x = false) ↔ APT D1 D2 L = false := by
  have e := EX.inv hl h
  have h1 := e.1.2.1
  refine ⟨fun z => z _ (getD_mem (by omega)), fun z x hx => ?_⟩
  have i1 := idx_lt hx
  have i2 := getD_idx hx
  by_cases e2 : L.idxOf x + 1 < L.length
  · have := EX_only h _ e2
    rw [i2, uW, decide_eq_true rfl, Bool.true_and] at this
    exact this
  · rw [← i2, show L.idxOf x = L.length - 1 by omega]
    exact z
theorem rr_pairsOf (hm : m < 4) (hm' : m' < 4) (hA : HR ν m A) (hB : HR ν m' B) (vA : AV A) (vB : AV B) (h1 : ∀ (D1 D2 : DF) (L T : List Nat) (f : Nat → Int32), PRS A B 200 0 = some (D1, D2, L, T) → MR9 D1 D2 200 0 = some (L, T) → MF9 D1 D2 200 L f → Qo (some (604, f))) (h0 : PRS A B 200 0 = none → Qo none) : wp_X11_pairsOf ν (nI m) (nI m') Qo := by
  refine rr_oneWayA hm hA vA (fun D1 n4 f5 e1 F1 => ⟨(fun z => nomatch z), fun n4' f5' z => ?_⟩) (fun e1 => ⟨fun _ => rr_oneWayA hm' hB vB (fun D2 n15 f16 e2 F2 => ⟨(fun z => nomatch z), fun _ _ _ => h0 (by rw [PRS, e1]; rfl)⟩) (fun e2 => ⟨fun _ => h0 (by rw [PRS, e1]; rfl), (fun _ _ z => nomatch z)⟩), (fun _ _ z => nomatch z)⟩)
  cases z
  refine rr_oneWayA hm' hB vB (fun D2 n15 f16 e2 F2 => ⟨(fun z => nomatch z), fun n15' f16' z => ?_⟩) (fun e2 => ⟨fun _ => h0 (by rw [PRS, e1, e2]; rfl), (fun _ _ z => nomatch z)⟩)
  cases z
  have z0 : (0 : Int32).toNatClampNeg = 0 := rfl
  refine rr_met (lim := 200) (w := 0) (v16 := 1) F1 F2 (by omega) (by omega) ⟨fun q => absurd q (by decide), fun q => absurd rfl q⟩ (fun L T f19 hR hM => ?_) (fun hR f19 hf => ?_)
  · have m0 := hM.1
    have mL := hM.2.1
    refine ⟨s_in (a := 0) (by omega) (by omega), ?_⟩
    rw [z0, m0]
    refine ⟨fun _ => h1 D1 D2 L T f19 ?_ hR hM, fun q => absurd (by rw [show (200 : Int32) = nI 200 from rfl, nI_leI (by omega) (by omega)]; omega) q⟩
    rw [PRS, e1, e2]
    show (MR9 D1 D2 200 0).map _ = _
    rw [hR]
    rfl
  · refine ⟨s_in (a := 0) (by omega) (by omega), ?_⟩
    rw [z0, hf]
    refine ⟨fun q => absurd q (by decide), fun _ => h0 ?_⟩
    rw [PRS, e1, e2]
    show (MR9 D1 D2 200 0).map _ = _
    rw [hR]
    rfl
/-- how many pairs of two machines are met -/
def PAV (A B : AM) : Option Int32 := (PRS A B 200 0).map fun p => nI p.2.2.1.length
theorem ee_pairs (hc : CSt μ S a r k) (hv : AVs S) (hok : ∀ m m' v, m < 4 → m' < 4 → a1 = nI m → a2 = nI m' → PAV (S m) (S m') = some v → ∀ μ9, CSt μ9 S a r k → Q v μ9) (h1 : ¬ ONE2 a1 a2 → X "java/lang/IndexOutOfBoundsException" μ) (h3 : ∀ m m', m < 4 → m' < 4 → a1 = nI m → a2 = nI m' → PAV (S m) (S m') = none → ∀ μ9, CSt μ9 S a r k → X "java/lang/IllegalStateException" μ9) : wp_X9_pairs μ a1 a2 Q X := by
  refine e_mach (fun m hm em => e_mach (fun m' hm' em' => ?_) (fun z => h1 (fun w => z w.2))) (fun z => h1 (fun w => z w.1))
  have v7 := (hv m hm).2.1
  have v7' := (hv m' hm').2.1
  have tm := tlm hm
  have tm' := tlm hm'
  refine e_meetPairs (lim := 200) (v := 0) (kdm hm) (kdm hm') (hc.1 m hm) (hc.1 m' hm') (by omega) (by omega) (by omega) (by omega) (by omega) (by omega) hc.2.2.2.2 (fun D1 D2 L T μ8 μ9 e hR hM _ _ hz => ⟨fun _ => ?_, fun q => absurd q (by decide)⟩) (fun e μ9 hz => ⟨fun q => absurd rfl q, fun _ => h3 m m' hm hm' em em' (by rw [PAV, e]; rfl) μ9 (hc.keep hz)⟩)
  show Q (μ9 35 8) μ9
  rw [hM.2.2.2.1]
  exact hok m m' _ hm hm' em em' (by rw [PAV, e]; rfl) μ9 (hc.keep hz)
theorem rr_pairs (h : RSt ν S a r k t) (hv : AVs S) (hok : ∀ m m' v, m < 4 → m' < 4 → a1 = nI m → a2 = nI m' → PAV (S m) (S m') = some v → ∀ ν9, RSt ν9 S a r k 0 → Q v ν9) (h1 : ¬ ONE2 a1 a2 → ∀ b ν9, RSt ν9 S a r k 1 → Q b ν9) (h3 : ∀ m m', m < 4 → m' < 4 → a1 = nI m → a2 = nI m' → PAV (S m) (S m') = none → ∀ b ν9, RSt ν9 S a r k 2 → Q b ν9) : wp_X11_pairs ν a1 a2 Q := by
  refine rr_two (fun m m' hm hm' em em' => th_ok ⟨fun _ => ?_, fun q => absurd rfl q⟩) (fun z => th_1 ⟨fun q => absurd q (by decide), fun _ => h1 z _ _ (h.thr 1)⟩)
  have h0 := h.thr 0
  rw [em, em']
  refine rr_pairsOf hm hm' (h0.1 m hm) (h0.1 m' hm') (hv m hm) (hv m' hm') (fun D1 D2 L T f e hR hM => ⟨(fun z => nomatch z), fun n10 f11 z => ?_⟩) (fun e => ⟨fun _ => ⟨fun q => absurd q (by decide), fun _ => h3 m m' hm hm' em em' (by rw [PAV, e]; rfl) _ _ (h0.thr 2)⟩, (fun _ _ z => nomatch z)⟩)
  cases z
  refine ⟨fun _ => ⟨s_in (a := 0) (by omega) (by omega), ?_⟩, fun q => absurd rfl q⟩
  show Q (f 0) _
  rw [hM.1]
  exact hok m m' _ hm hm' em em' (by rw [PAV, e]; rfl) _ (h0.thr 0)
theorem gs_pairs (hP : HPP P) (h : SIM μ ν) (nv : Int64) : wp_X9_pairs μ a1 a2 (fun r μ9 => wp_X11_pairs ν a1 a2 (fun b ν9 => P 0 r.toInt64 μ9 b ν9)) (fun E μ9 => (E = IOBn ∧ wp_X11_pairs ν a1 a2 (fun b ν9 => P 1 nv μ9 b ν9)) ∨ (E = ISEn ∧ wp_X11_pairs ν a1 a2 (fun b ν9 => P 2 nv μ9 b ν9))) := by
  obtain ⟨S, a, r, k, t, hv, hc, hr⟩ := h
  refine ee_pairs hc hv (fun m m' v hm hm' e e' ev μ9 c9 => ?_) (fun z => Or.inl ⟨rfl, ?_⟩) (fun m m' hm hm' e e' ev μ9 c9 => Or.inr ⟨rfl, ?_⟩)
  · refine rr_pairs hr hv (fun n n' v' hn hn' f f' ev' ν9 r9 => ?_) (fun z => absurd (ONE2_nI hm hm' e e') z) (fun n n' hn hn' f f' ev' b ν9 r9 => ?_)
    all_goals
      cases nI_injS e f (by omega) (by omega)
      cases nI_injS e' f' (by omega) (by omega)
      rw [ev] at ev'
      cases ev'
    exact ph_ok hP hv c9 r9
  · exact rr_pairs hr hv (fun n n' v' hn hn' f f' ev' ν9 r9 => absurd (ONE2_nI hn hn' f f') z) (fun _ b ν9 r9 => ph_x hP hv hc r9 (by decide)) (fun n n' hn hn' f f' ev' b ν9 r9 => absurd (ONE2_nI hn hn' f f') z)
  · refine rr_pairs hr hv (fun n n' v' hn hn' f f' ev' ν9 r9 => ?_) (fun z => absurd (ONE2_nI hm hm' e e') z) (fun n n' hn hn' f f' ev' b ν9 r9 => ph_x hP hv c9 r9 (by decide))
    cases nI_injS e f (by omega) (by omega)
    cases nI_injS e' f' (by omega) (by omega)
    rw [ev] at ev'
    cases ev'
/-- the same one-way machine -/
def dSm (D1 D2 : DF) : Prop := D1.1 = D2.1 ∧ (∀ i, i < D1.1 → D1.2.2 i = D2.2.2 i) ∧ ∀ j, j < 3 * D1.1 → D1.2.1 j = D2.2.1 j
theorem e_dSame {k0 k1 : Nat} (hk0 : kd k0 = 5) (hk1 : kd k1 = 5) (hA : HP μ k0 D1) (hB : HP μ k1 D2) (h1 : dSm D1 D2 → Qi 1) (h0 : ¬ dSm D1 D2 → Qi 0) : wp_X5_isSameAs k0 k1 μ Qi := by
  have q0 := (kd5 hk0).2
  have q1 := (kd5 hk1).2
  obtain ⟨b1, b2, b3, b4, b5, b6⟩ := hA
  obtain ⟨d1, d2, d3, d4, d5, d6⟩ := hB
  refine e_sameT (c := fun j => nI (D1.2.1 j)) (c' := fun j => nI (D2.2.1 j)) b4 d4 b2 d2 (by omega) (by omega) b5 d5 (fun e1 e2 e3 => ⟨Or.inr rfl, h1 ⟨e1, fun i hi => ?_, fun j hj => ?_⟩⟩) (fun w => ⟨Or.inl rfl, h0 (fun w2 => w ?_)⟩)
  · have x1 := b6 i (by omega)
    have x2 := d6 i (by omega)
    rw [decide_eq_true hi, Bool.true_and] at x1
    rw [decide_eq_true (by omega), Bool.true_and, ← e2, x1] at x2
    exact x2
  · have y1 := b3 j hj
    have y2 := d3 j (by omega)
    exact (nI_eq (by omega) (by omega)).mp (e3 j hj)
  · obtain ⟨w1, w2, w3⟩ := w2
    refine ⟨w1, nn_inj (s_ext (fun i => ?_)), fun j hj => by show nI _ = nI _; rw [w3 j hj]⟩
    by_cases hi : i < 32
    · rw [b6 i hi, d6 i hi, ← w1]
      by_cases e : i < D1.1
      · rw [w2 i e]
      · rw [decide_eq_false e, Bool.false_and, Bool.false_and]
    · rw [s_big (nn_lt _) (by omega), s_big (nn_lt _) (by omega)]
theorem rr_dSame {n12 n35 : Nat} {f13 f36 : Nat → Int32} (hA : HF n12 f13 D1) (hB : HF n35 f36 D2) (h1 : dSm D1 D2 → Q 1 ν) (h0 : ¬ dSm D1 D2 → Q 0 ν) : ∀ J49 : Int32 → Prop, (∀ (j50 : Int32), (∃ n50x, wpl_X11_isAlike_130 ν f13 n12 f36 n35 Q n50x (0 : Int32) j50) → J49 j50) → ((¬ (nI n12) = (nI n35) → (J49 (0 : Int32))) ∧ ((nI n12) = (nI n35) → (J49 (1 : Int32)))) := by
  obtain ⟨b1, b2, b3, b4, b5, b6⟩ := hA
  obtain ⟨d1, d2, d3, d4, d5, d6⟩ := hB
  have bad : ¬ dSm D1 D2 → ∀ x, wpl_X11_isAlike_130 ν f13 n12 f36 n35 Q 1 x 0 := fun z x => ⟨fun _ => ⟨Or.inl rfl, h0 z⟩, fun q => absurd rfl q⟩
  intro J hJ
  refine ⟨fun z => hJ _ ⟨1, bad (fun w => z (by rw [b4, d4, w.1])) _⟩, fun z => hJ _ ?_⟩
  rw [nI_eq (by omega) (by omega)] at z
  have hn : D1.1 = D2.1 := by omega
  have good : (∀ j, j < n12 → f13 j = f36 j) → dSm D1 D2 := fun hj => by
    refine ⟨hn, fun i hi => ?_, fun j hj' => ?_⟩
    · have := hj (4 * i + 3) (by omega)
      rw [b6 i hi, d6 i (by omega)] at this
      exact bi_inj.mp this
    · have h3 := Nat.mod_lt j (show 0 < 3 by decide)
      have e := hj (4 * (j / 3) + j % 3) (by omega)
      rw [b5 _ _ (by omega) h3, d5 _ _ (by omega) h3, show 3 * (j / 3) + j % 3 = j by omega] at e
      have y1 := b3 j hj'
      have y2 := d3 j (by omega)
      exact (nI_eq (by omega) (by omega)).mp e
  have L : ∀ (z x : Nat), n12 - x < z → x ≤ n12 → (∀ j, j < x → f13 j = f36 j) → wpl_X11_isAlike_130 ν f13 n12 f36 n35 Q (z + 1) (nI x) 1 := by
    intro z
    induction z with
    | zero => intro x hk; exact absurd hk (Nat.not_lt_zero _)
    | succ z ih =>
      intro x hk hx hj
      refine ⟨fun q => absurd q (by decide), fun _ => ⟨fun c => ?_, fun c => ?_⟩⟩
      · rw [nI_leI (by omega) (by omega)] at c
        exact ⟨Or.inr rfl, h1 (good (fun j hj' => hj j (by omega)))⟩
      rw [nI_leI (by omega) (by omega)] at c
      refine ⟨s_in (by omega) (by omega), s_in (by omega) (by omega), ?_⟩
      rw [nI_clamp (by omega), nI_1]
      refine ⟨fun q => ⟨fun _ => ⟨Or.inl rfl, h0 (fun w => q ?_)⟩, fun q => absurd rfl q⟩, fun q => ih (x + 1) (by omega) (by omega) (fun j hj' => ?_)⟩
      · obtain ⟨w1, w2, w3⟩ := w
        have h4 := Nat.mod_lt x (show 0 < 4 by decide)
        have ex : x = 4 * (x / 4) + x % 4 := by omega
        by_cases e : x % 4 = 3
        · rw [ex, e, b6 _ (by omega), d6 _ (by omega), w2 _ (by omega)]
        · rw [ex, b5 _ _ (by omega) (by omega), d5 _ _ (by omega) (by omega), w3 _ (by omega)]
      · by_cases e : j = x
        · rw [e]; exact q
        · exact hj j (by omega)
  exact ⟨_, L (n12 + 1) 0 (by omega) (Nat.zero_le _) (fun j hj => absurd hj (Nat.not_lt_zero _))⟩
theorem rr_isApart {L T : List Nat} {f : Nat → Int32} (hm : m < 4) (hm' : m' < 4) (hA : HR ν m A) (hB : HR ν m' B) (vA : AV A) (vB : AV B) (hP : PRS A B 200 0 = some (D1, D2, L, T)) (hM : MF9 D1 D2 200 L f) (h : Qi (bi (APT D1 D2 L))) : wp_X11_isApart ν (nI m) (nI m') 604 f Qi := by
  have fst : ∀ {D1' D2' : DF}, OWM A = some D1' → OWM B = some D2' → D1' = D1 ∧ D2' = D2 := fun e1 e2 => by
    rw [PRS, e1, e2] at hP
    obtain ⟨x, _, hx⟩ := Option.map_eq_some_iff.mp (show (MR9 _ _ 200 0).map _ = _ from hP)
    cases hx
    exact ⟨rfl, rfl⟩
  have no1 : OWM A ≠ none := fun e1 => by rw [PRS, e1] at hP; cases hP
  have no2 : OWM B ≠ none := fun e2 => by
    rw [PRS, e2] at hP
    cases e : OWM A with
    | none => exact no1 e
    | some x => rw [e] at hP; cases hP
  refine rr_oneWayA hm hA vA (fun D1' n4 f5 e1 F1 => ⟨(fun z => nomatch z), fun n4' f5' z => ?_⟩) (fun e1 => absurd e1 no1)
  cases z
  refine rr_oneWayA hm' hB vB (fun D2' n15 f16 e2 F2 => ⟨(fun z => nomatch z), fun n15' f16' z => ?_⟩) (fun e2 => absurd e2 no2)
  cases z
  obtain ⟨rfl, rfl⟩ := fst e1 e2
  obtain ⟨m1, m2, m3, m4, m5⟩ := hM
  have e0 : (f (0 : Int32).toNatClampNeg) = nI L.length := m1
  have ex : ((3 : Int32) * nI L.length) - (2 : Int32) = nI (3 * (L.length - 1) + 1) := by
    rw [show (3 : Int32) = nI 3 from rfl, s_mul, show (2 : Int32) = nI 2 from rfl, s_sub (by omega) (by omega)]
    congr 1
    omega
  rw [e0, ex]
  refine ⟨s_in (a := 0) (by omega) (by omega), s_in (by omega) (by omega), ?_⟩
  rw [nI_clamp (by omega), m5 _ (by omega)]
  refine rr_unlike F1 F2 (m4 _ (getD_mem (by omega))) ⟨?_, h⟩
  rw [bi]
  split
  · exact Or.inr rfl
  · exact Or.inl rfl
/-- what making the least leaves as it was -/
def FB (k2 : Nat) (μ μ9 : TMem) : Prop := ∀ k, k ≠ 17 → k ≠ 19 → k ≠ 21 → k ≠ 24 → k ≠ 26 → k ≠ 33 → k ≠ 34 → k ≠ k2 → k ≠ k2 + 1 → μ9 k = μ k
theorem FB.zf {k2 : Nat} {μ9 : TMem} (hk : kd k2 = 5) (h : FB k2 μ μ9) : ZF μ μ9 := by
  have q := kd5 hk
  refine ⟨fun k hk => h k (by omega) (by omega) (by omega) (by omega) (by omega) (by omega) (by omega) (by omega) (by omega), fun g i => ?_⟩
  rw [h 43 (by omega) (by omega) (by omega) (by omega) (by omega) (by omega) (by omega) (by omega) (by omega)]
  exact g i
theorem e_makeBy0F {k1 k2 : Nat} (hk1 : kd k1 = 2) (hk : kd k2 = 5) (h33 : k2 ≠ 33) (hM : HM μ k1 A) (h32 : A.1 ≤ 32) (ht : 3 * A.1 ≤ tl (k1 + 1)) (h1 : ∀ (D : DF) (μ9 : TMem), LSM A = some D → HP μ9 k2 D → FB k2 μ μ9 → Q 1 μ9) (h0 : LSM A = none → ∀ μ9, FB k2 μ μ9 → Q 0 μ9) : wp_X3_makeBy k1 k2 μ 0 Q := by
  refine ⟨fun _ => ⟨fun _ => ?_, fun z => absurd z (by decide)⟩, fun z => absurd z (by decide)⟩
  refine e_oneWayA (k2 := 33) hk1 rfl hM h32 ht (fun D μ3 e p f => ⟨fun _ J hJ => ⟨fun _ => ?_, fun z => absurd z (by decide)⟩, fun z => absurd z (by decide)⟩) (fun e μ9 f => ⟨fun z => absurd rfl z, fun _ => h0 (by rw [LSM, e]; rfl) μ9 (fun k q1 q2 q3 q4 q5 q6 q7 q8 q9 => f k q1 q6 q7)⟩)
  refine e_findByParting (k := 33) rfl p (fun μ7 hp hf => hJ μ7 (e_makeGroups (k1 := 33) rfl hk (fun q => h33 q.symm) (p.f2 hf (by decide)) hp (fun D' μ9 hD hH hF => ?_)))
  exact h1 D' μ9 (by rw [LSM, e]; exact hD) hH (fun k q1 q2 q3 q4 q5 q6 q7 q8 q9 => ((hF k q2 q3 q4 q5 q8 q9).trans (hf k q4 q5)).trans (f k q1 q6 q7))
/-- whether two read alike -/
noncomputable def ALV (A B : AM) (h : Int32) : Option Int32 := if h = 0 then (PRS A B 200 0).map (fun p => if APT p.1 p.2.1 p.2.2.1 = true then 0 else 1) else (LSM A).bind fun D1 => (LSM B).map fun D2 => @ite _ (dSm D1 D2) (Classical.propDecidable _) 1 0
abbrev AL1 (a1 a2 : Int32) (m m' : Nat) : Prop := m < 4 ∧ m' < 4 ∧ a1 = nI m ∧ a2 = nI m'
theorem ee_isAlike (hc : CSt μ S a r k) (hv : AVs S) (hok : ∀ m m' v, AL1 a1 a2 m m' → IN a3 0 1 → ALV (S m) (S m') a3 = some v → ∀ μ9, CSt μ9 S a r k → Q v μ9) (h1 : ¬ ONE2 a1 a2 → X "java/lang/IndexOutOfBoundsException" μ) (h2 : ONE2 a1 a2 → ¬ IN a3 0 1 → X "java/lang/IllegalArgumentException" μ) (h3 : ∀ m m', AL1 a1 a2 m m' → IN a3 0 1 → ALV (S m) (S m') a3 = none → ∀ μ9, CSt μ9 S a r k → X "java/lang/IllegalStateException" μ9) : wp_X9_isAlike μ a1 a2 a3 Q X := by
  refine e_mach (fun m hm em => e_mach (fun m' hm' em' => e_rng (fun z3 => ?_) (fun z => h2 ⟨em ▸ M1_nI hm, em' ▸ M1_nI hm'⟩ z)) (fun z => h1 (fun w => z w.2))) (fun z => h1 (fun w => z w.1))
  have hA := hc.1 m hm
  have hB := hc.1 m' hm'
  have v7 := (hv m hm).2.1
  have v7' := (hv m' hm').2.1
  have tm := tlm hm
  have tm' := tlm hm'
  have q1 := kd2 (kdm hm)
  have q2 := kd2 (kdm hm')
  have hok' := fun v => hok m m' v ⟨hm, hm', em, em'⟩ z3
  have h3' := h3 m m' ⟨hm, hm', em, em'⟩ z3
  refine ⟨fun n0 => ?_, fun e0 => ?_⟩
  · have ea : ∀ D1, LSM (S m) = some D1 → ALV (S m) (S m') a3 = (LSM (S m')).map fun D2 => @ite _ (dSm D1 D2) (Classical.propDecidable _) 1 0 := fun D1 e => by rw [ALV, if_neg n0, e]; rfl
    refine e_makeBy0 (kdm hm) (k2 := 51) rfl (by decide) hA (by omega) (by omega) (fun D1 μ7 e1 p1 z1 => ⟨fun _ => ?_, fun q => absurd q (by decide)⟩) (fun e1 μ7 z1 => ⟨fun q => absurd rfl q, fun _ => h3' (by rw [ALV, if_neg n0, e1]; rfl) μ7 (hc.keep z1)⟩)
    have c7 := hc.keep z1
    refine e_makeBy0F (kdm hm') (k2 := 53) rfl (by decide) (c7.1 m' hm') (by omega) (by omega) (fun D2 μ8 e2 p2 f2 => ⟨fun _ => ?_, fun q => absurd q (by decide)⟩) (fun e2 μ8 f2 => ⟨fun q => absurd rfl q, fun _ => h3' (by rw [ea D1 e1, e2]; rfl) μ8 (c7.keep (f2.zf rfl))⟩)
    have z2 := f2.zf rfl
    have ev : ALV (S m) (S m') a3 = some (@ite _ (dSm D1 D2) (Classical.propDecidable _) 1 0) := by rw [ea D1 e1, e2]; rfl
    refine e_dSame rfl rfl (p1.same (f2 51 (by decide) (by decide) (by decide) (by decide) (by decide) (by decide) (by decide) (by decide) (by decide)) (f2 52 (by decide) (by decide) (by decide) (by decide) (by decide) (by decide) (by decide) (by decide) (by decide))) p2 (fun w => ⟨Or.inr rfl, ?_⟩) (fun w => ⟨Or.inl rfl, ?_⟩)
    · rw [if_pos w] at ev
      exact hok' _ ev μ8 (c7.keep z2)
    · rw [if_neg w] at ev
      exact hok' _ ev μ8 (c7.keep z2)
  · have ea : ALV (S m) (S m') a3 = (PRS (S m) (S m') 200 0).map (fun p => if APT p.1 p.2.1 p.2.2.1 = true then 0 else 1) := by rw [ALV, if_pos e0]
    refine e_meetPairs (lim := 200) (v := 0) (kdm hm) (kdm hm') hA hB (by omega) (by omega) (by omega) (by omega) (by omega) (by omega) hc.2.2.2.2 (fun D1 D2 L T μ8 μ9 e hR hM _ _ hz => ⟨fun _ => ?_, fun q => absurd q (by decide)⟩) (fun e μ9 hz => ⟨fun q => absurd rfl q, fun _ => h3' (by rw [ea, e]; rfl) μ9 (hc.keep hz)⟩)
    have i9 := hM.2.2.2.2.2.2.1
    rw [APT_iff (by omega) hR] at i9
    have ev : ALV (S m) (S m') a3 = some (if APT D1 D2 L = true then 0 else 1) := by rw [ea, e]; rfl
    refine ⟨fun z => ?_, fun z => ?_⟩
    · have z2 : APT D1 D2 L = true := by
        cases e9 : APT D1 D2 L with
        | true => rfl
        | false => exact absurd (i9.mpr e9) z
      rw [if_pos z2] at ev
      exact hok' _ ev μ9 (hc.keep hz)
    · rw [if_neg (by rw [i9.mp z]; decide)] at ev
      exact hok' _ ev μ9 (hc.keep hz)
theorem rr_isAlike (h : RSt ν S a r k t) (hv : AVs S) (hok : ∀ m m' v, AL1 a1 a2 m m' → IN a3 0 1 → ALV (S m) (S m') a3 = some v → ∀ ν9, RSt ν9 S a r k 0 → Q v ν9) (h1 : ¬ ONE2 a1 a2 → ∀ b ν9, RSt ν9 S a r k 1 → Q b ν9) (h2 : ONE2 a1 a2 → ¬ IN a3 0 1 → ∀ b ν9, RSt ν9 S a r k 2 → Q b ν9) (h3 : ∀ m m', AL1 a1 a2 m m' → IN a3 0 1 → ALV (S m) (S m') a3 = none → ∀ b ν9, RSt ν9 S a r k 3 → Q b ν9) : wp_X11_isAlike ν a1 a2 a3 Q := by
  refine rr_two (fun m m' hm hm' em em' => rr_in (fun z3 => th_ok ⟨fun _ => ?_, fun q => absurd rfl q⟩) (fun z => th_2 ⟨fun q => absurd q (by decide), fun _ => h2 ⟨em ▸ M1_nI hm, em' ▸ M1_nI hm'⟩ z _ _ (h.thr 2)⟩)) (fun z => rr_in (fun _ => th_1 ⟨fun q => absurd q (by decide), fun _ => h1 z _ _ (h.thr 1)⟩) (fun _ => th_1 ⟨fun q => absurd q (by decide), fun _ => h1 z _ _ (h.thr 1)⟩))
  have h0 := h.thr 0
  have hA := h0.1 m hm
  have hB := h0.1 m' hm'
  have vA := hv m hm
  have vB := hv m' hm'
  have hok' := fun v => hok m m' v ⟨hm, hm', em, em'⟩ z3
  have h3' := h3 m m' ⟨hm, hm', em, em'⟩ z3
  rw [em, em']
  generalize hN : tms ν 0 7 0 = N at *
  refine ⟨fun n0 => ?_, fun e0 => ?_⟩
  · have ea : ∀ D1, LSM (S m) = some D1 → ALV (S m) (S m') a3 = (LSM (S m')).map fun D2 => @ite _ (dSm D1 D2) (Classical.propDecidable _) 1 0 := fun D1 e => by rw [ALV, if_neg n0, e]; rfl
    refine rr_found0 hm hA vA (fun D1 n12 f13 e1 F1 => ⟨(fun z => nomatch z), fun n12' f13' z => ?_⟩) (fun e1 => ⟨fun _ => ?_, (fun _ _ z => nomatch z)⟩)
    · cases z
      refine rr_found0 hm' hB vB (fun D2 n35 f36 e2 F2 => ⟨(fun z => nomatch z), fun n35' f36' z => ?_⟩) (fun e2 => ⟨fun _ => ⟨fun q => absurd rfl q, fun _ => ⟨fun q => absurd q (by decide), fun _ => h3' (by rw [ea D1 e1, e2]; rfl) _ _ ((h0.thr 0).thr 3)⟩⟩, (fun _ _ z => nomatch z)⟩)
      cases z
      have ev : ALV (S m) (S m') a3 = some (@ite _ (dSm D1 D2) (Classical.propDecidable _) 1 0) := by rw [ea D1 e1, e2]; rfl
      refine ⟨fun q => absurd rfl q, fun _ => ⟨fun _ => rr_dSame F1 F2 (fun w => ?_) (fun w => ?_), fun q => absurd rfl q⟩⟩
      · rw [if_pos w] at ev
        exact hok' _ ev _ ((h0.thr 0).thr 0)
      · rw [if_neg w] at ev
        exact hok' _ ev _ ((h0.thr 0).thr 0)
    · have en : ALV (S m) (S m') a3 = none := by rw [ALV, if_neg n0, e1]; rfl
      exact rr_found0 hm' hB vB (fun D2 n35 f36 e2 F2 => ⟨(fun z => nomatch z), fun n35' f36' z => ⟨fun _ => h3' en _ _ (h0.thr 3), fun q => absurd q (by decide)⟩⟩) (fun e2 => ⟨fun _ => ⟨fun _ => h3' en _ _ (h0.thr 3), fun q => absurd q (by decide)⟩, (fun _ _ z => nomatch z)⟩)
  · have ea : ALV (S m) (S m') a3 = (PRS (S m) (S m') 200 0).map (fun p => if APT p.1 p.2.1 p.2.2.1 = true then 0 else 1) := by rw [ALV, if_pos e0]
    refine rr_pairsOf hm hm' hA hB vA vB (fun D1 D2 L T f e hR hM => ⟨(fun z => nomatch z), fun n68 f69 z => ?_⟩) (fun e => ⟨fun _ => ⟨fun _ => h3' (by rw [ea, e]; rfl) _ _ (h0.thr 3), fun q => absurd q (by decide)⟩, (fun _ _ z => nomatch z)⟩)
    cases z
    have ev : ALV (S m) (S m') a3 = some (if APT D1 D2 L = true then 0 else 1) := by rw [ea, e]; rfl
    have h9 := h0.thr 0
    refine ⟨fun q => absurd rfl q, fun _ => rr_isApart hm hm' (h9.1 m hm) (h9.1 m' hm') vA vB e hM ⟨fun z => ?_, fun z => ?_⟩⟩
    · have z2 : APT D1 D2 L = true := by
        cases e9 : APT D1 D2 L with
        | true => rfl
        | false => rw [e9] at z; exact absurd rfl z
      rw [if_pos z2] at ev
      exact hok' _ ev _ h9
    · have z2 : ¬ APT D1 D2 L = true := fun w => by rw [w] at z; exact absurd z (by decide)
      rw [if_neg z2] at ev
      exact hok' _ ev _ h9
theorem AL1.one {m m' : Nat} (h : AL1 a1 a2 m m') : ONE2 a1 a2 := ONE2_nI h.1 h.2.1 h.2.2.1 h.2.2.2
theorem AL1.uq {m m' n n' : Nat} (h : AL1 a1 a2 m m') (h' : AL1 a1 a2 n n') : n = m ∧ n' = m' := by
  obtain ⟨x1, x2, x3, x4⟩ := h
  obtain ⟨y1, y2, y3, y4⟩ := h'
  exact ⟨nI_injS y3 x3 (by omega) (by omega), nI_injS y4 x4 (by omega) (by omega)⟩
theorem gs_isAlike (hP : HPB P) (h : SIM μ ν) (nv : Int64) : wp_X9_isAlike μ a1 a2 a3 (fun r μ9 => wp_X11_isAlike ν a1 a2 a3 (fun b ν9 => P 0 (if r = 0 then 0 else 1) μ9 b ν9)) (fun E μ9 => (E = IOBn ∧ wp_X11_isAlike ν a1 a2 a3 (fun b ν9 => P 1 nv μ9 b ν9)) ∨ (E = IAEn ∧ wp_X11_isAlike ν a1 a2 a3 (fun b ν9 => P 2 nv μ9 b ν9)) ∨ (E = ISEn ∧ wp_X11_isAlike ν a1 a2 a3 (fun b ν9 => P 3 nv μ9 b ν9))) := by
  obtain ⟨S, a, r, k, t, hv, hc, hr⟩ := h
  refine ee_isAlike hc hv (fun m m' v g z ev μ9 c9 => ?_) (fun z => Or.inl ⟨rfl, ?_⟩) (fun w z => Or.inr (Or.inl ⟨rfl, ?_⟩)) (fun m m' g z ev μ9 c9 => Or.inr (Or.inr ⟨rfl, ?_⟩))
  · refine rr_isAlike hr hv (fun n n' v' g' z' ev' ν9 r9 => ?_) (fun q => absurd g.one q) (fun _ q => absurd z q) (fun n n' g' z' ev' b ν9 r9 => ?_)
    all_goals
      obtain ⟨rfl, rfl⟩ := g.uq g'
      rw [ev] at ev'
      cases ev'
    exact phb_ok hP hv c9 r9
  · exact rr_isAlike hr hv (fun n n' v' g' z' ev' ν9 r9 => absurd g'.one z) (fun _ b ν9 r9 => phb_x hP hv hc r9 (by decide)) (fun q => absurd q z) (fun n n' g' z' ev' b ν9 r9 => absurd g'.one z)
  · exact rr_isAlike hr hv (fun n n' v' g' z' ev' ν9 r9 => absurd z' z) (fun q => absurd w q) (fun _ _ b ν9 r9 => phb_x hP hv hc r9 (by decide)) (fun n n' g' z' ev' b ν9 r9 => absurd z' z)
  · refine rr_isAlike hr hv (fun n n' v' g' z' ev' ν9 r9 => ?_) (fun q => absurd g.one q) (fun _ q => absurd z q) (fun n n' g' z' ev' b ν9 r9 => phb_x hP hv c9 r9 (by decide))
    obtain ⟨rfl, rfl⟩ := g.uq g'
    rw [ev] at ev'
    cases ev'
end SIMV
end
/-! part 9sav.sim5 -/
section
section SIMW
variable {μ ν : TMem} {S : Nat → AM} {a r k t : Int32} {a1 a2 a3 a4 a5 : Int32} {m m' : Nat} {A B : AM} {D D1 D2 : DF} {Q : Int32 → TMem → Prop} {X : String → TMem → Prop} {Qi : Int32 → Prop} {Qo : Option AI → Prop} {P : PP}
/-- how many words of a length lead from a state to a goal -/
def WYS (D : DF) : Nat → Nat → Int32
  | 0, i => bi (D.2.2 i)
  | l + 1, i => ((0 + WYS D l (D.2.1 (3 * i))) + WYS D l (D.2.1 (3 * i + 1))) + WYS D l (D.2.1 (3 * i + 2))
theorem e_from {l i : Nat} (hl : l ≤ 12) (hi : i < 32) (h : Qi (μ 50 (32 * l + i))) : wp_X8_from μ (nI i) (nI l) Qi := by
  unfold wp_X8_from
  rw [show (32 : Int32) = nI 32 from rfl, s_mul, nI_add, Nat.mul_comm l 32]
  exact e_row (k := 49) (show _ < 416 by omega) h
theorem e_sumOver {l i : Nat} (hP : HP μ 57 D) (hl : l ≤ 11) (hi : i < D.1) (hw : ∀ x, x < D.1 → μ 50 (32 * l + x) = WYS D l x) (h : Qi (WYS D (l + 1) i)) : wp_X8_sumOver 57 μ (nI i) (nI l) Qi := by
  have d32 := hP.2.1
  have hT := hP.2.2.1
  have hc := hP.2.2.2.2.1
  have t58 : tl 58 = 96 := rfl
  have st : ∀ (s : Nat) (v : Int32) (nf : Nat), s < 3 → wpl_X8_sumOver_6 57 μ (nI i) (nI l) Qi nf (nI (s + 1)) (v + WYS D l (D.2.1 (3 * i + s))) → wpl_X8_sumOver_6 57 μ (nI i) (nI l) Qi (nf + 1) (nI s) v := by
    intro s v nf hs g
    refine ⟨fun c => ?_, fun c => e_atN (k := 57) (show _ < 96 by omega) ?_⟩
    · rw [show (3 : Int32) = nI 3 from rfl, nI_leI (by omega) (by omega)] at c
      omega
    · have := hT (3 * i + s) (by omega)
      rw [hc _ (by omega)]
      refine e_from (by omega) (by omega) ?_
      rw [hw _ this, nI_1]
      exact g
  refine ⟨4, ?_⟩
  have g := st 0 0 3 (by omega) (st 1 _ 2 (by omega) (st 2 _ 1 (by omega) ⟨fun _ => h, fun c => absurd (show (3 : Int32) ≤ nI 3 by decide) c⟩))
  exact g
theorem e_tails {Qv : TMem → Prop} (hP : HP μ 57 D) (h : ∀ μ9 : TMem, (∀ l i, l ≤ 12 → i < D.1 → μ9 50 (32 * l + i) = WYS D l i) → (∀ k, k ≠ 50 → μ9 k = μ k) → Qv μ9) : wp_X8_count 57 μ Qv := by
  have d1 := hP.1
  have d32 := hP.2.1
  have t50 : tl 50 = 416 := rfl
  have same : ∀ {μ1 : TMem}, (∀ k, k ≠ 50 → μ1 k = μ k) → HP μ1 57 D := fun hf => hP.same (hf 57 (by decide)) (hf 58 (by decide))
  have L47 : ∀ (l : Nat) (K : TMem → Prop), l + 1 ≤ 12 → (∀ μ1 : TMem, (∀ x i, x ≤ l + 1 → i < D.1 → μ1 50 (32 * x + i) = WYS D x i) → (∀ k, k ≠ 50 → μ1 k = μ k) → K μ1) → ∀ (nf i : Nat) (μ1 : TMem), D.1 - i < nf → i ≤ D.1 → (∀ x j, x ≤ l → j < D.1 → μ1 50 (32 * x + j) = WYS D x j) → (∀ j, j < i → μ1 50 (32 * (l + 1) + j) = WYS D (l + 1) j) → (∀ k, k ≠ 50 → μ1 k = μ k) → wpl_X8_count_47 57 (nI (l + 1)) K nf (nI i) μ1 := by
    intro l K hl hK nf
    induction nf with
    | zero => intro i μ1 hk; exact absurd hk (Nat.not_lt_zero _)
    | succ nf ih =>
      intro i μ1 hk hi h1 h2 hf
      have hP1 := same hf
      refine ⟨fun c => ?_, fun c => ?_⟩
      · rw [hP1.2.2.2.1, nI_leI (by omega) (by omega)] at c
        refine hK μ1 (fun x j hx hj => ?_) hf
        by_cases e : x = l + 1
        · rw [e]; exact h2 j (by omega)
        · exact h1 x j (by omega) hj
      rw [hP1.2.2.2.1, nI_leI (by omega) (by omega)] at c
      rw [show (1 : Int32) = nI 1 from rfl, s_sub (by omega) (by omega), show l + 1 - 1 = l by omega]
      refine e_sumOver hP1 (by omega) (by omega) (fun x hx => h1 l x (Nat.le_refl _) hx) ?_
      rw [show (32 : Int32) = nI 32 from rfl, s_mul, nI_add, Nat.mul_comm (l + 1) 32]
      refine e_rowput (k := 49) (show _ < 416 by omega) ?_
      rw [nI_add]
      refine ih (i + 1) _ (by omega) (by omega) (fun x j hx hj => ?_) (fun j hj => ?_) (fun k hk => by rw [tms_ne hk]; exact hf k hk)
      · rw [tms_eq, upd_ne (by omega)]
        exact h1 x j hx hj
      · by_cases e : j = i
        · rw [e, tms_eq, upd_at]
        · rw [tms_eq, upd_ne (by omega)]
          exact h2 j (by omega)
  have L39 : ∀ (nf l : Nat) (μ1 : TMem), 12 - l < nf → l ≤ 12 → (∀ x j, x ≤ l → j < D.1 → μ1 50 (32 * x + j) = WYS D x j) → (∀ k, k ≠ 50 → μ1 k = μ k) → wpl_X8_count_39 57 Qv nf (nI (l + 1)) μ1 := by
    intro nf
    induction nf with
    | zero => intro l μ1 hk; exact absurd hk (Nat.not_lt_zero _)
    | succ nf ih =>
      intro l μ1 hk hl h1 hf
      refine ⟨fun c => ?_, fun c => ?_⟩
      · rw [show (12 : Int32) = nI 12 from rfl, nI_ltI (by omega) (by omega)] at c
        exact h μ1 (fun x j hx hj => h1 x j (by omega) hj) hf
      rw [show (12 : Int32) = nI 12 from rfl, nI_ltI (by omega) (by omega)] at c
      have g := L47 l (fun μ28 => wpl_X8_count_39 57 Qv nf (nI (l + 1) + (1 : Int32)) μ28) (by omega) (fun μ2 h2 hf2 => by rw [nI_1]; exact ih (l + 1) μ2 (by omega) (by omega) h2 hf2) (D.1 + 1) 0 μ1 (by omega) (Nat.zero_le _) h1 (fun j hj => absurd hj (Nat.not_lt_zero _)) hf
      rw [nI_0] at g
      exact ⟨_, g⟩
  have L2 : ∀ (nf i : Nat) (μ1 : TMem), D.1 - i < nf → i ≤ D.1 → (∀ j, j < i → μ1 50 j = WYS D 0 j) → (∀ k, k ≠ 50 → μ1 k = μ k) → wpl_X8_count_2 57 (fun μ13 => ∃ n13x, wpl_X8_count_39 57 Qv n13x (1 : Int32) μ13) nf (nI i) μ1 := by
    intro nf
    induction nf with
    | zero => intro i μ1 hk; exact absurd hk (Nat.not_lt_zero _)
    | succ nf ih =>
      intro i μ1 hk hi h1 hf
      have hP1 := same hf
      refine ⟨fun c => ?_, fun c => ?_⟩
      · rw [hP1.2.2.2.1, nI_leI (by omega) (by omega)] at c
        exact ⟨_, L39 13 0 μ1 (by omega) (by omega) (fun x j hx hj => by rw [show x = 0 by omega, show 32 * 0 + j = j by omega]; exact h1 j (by omega)) hf⟩
      rw [hP1.2.2.2.1, nI_leI (by omega) (by omega)] at c
      refine e_goal hP1 (by omega) (fun J hJ => ?_)
      have go : ∀ j9 : Int32, j9 = WYS D 0 i → J j9 := fun j9 e => hJ _ (e_rowput (k := 49) (show _ < 416 by omega) (by
        rw [nI_1]
        refine ih (i + 1) _ (by omega) (by omega) (fun j hj => ?_) (fun k hk => by rw [tms_ne hk]; exact hf k hk)
        by_cases e2 : j = i
        · rw [e2, tms_eq, upd_at, e]
        · rw [tms_eq, upd_ne (by omega)]
          exact h1 j (by omega)))
      refine ⟨fun z => go 0 ?_, fun z => go 1 ?_⟩
      · rw [WYS, z]
      · rw [WYS]
        cases e : D.2.2 i with
        | true => rfl
        | false => rw [e] at z; exact absurd rfl z
  have g := L2 (D.1 + 1) 0 μ (by omega) (Nat.zero_le _) (fun j hj => absurd hj (Nat.not_lt_zero _)) (fun _ _ => rfl)
  rw [nI_0] at g
  exact ⟨_, g⟩
theorem ltm {x y i n : Nat} (h : x < y) (hi : i < n) : x * n + i < y * n := Nat.lt_of_lt_of_le (show x * n + i < (x + 1) * n by rw [Nat.succ_mul]; omega) (Nat.mul_le_mul_right n h)
theorem rr_ways {l nf : Nat} {f : Nat → Int32} {Qa : Nat → (Nat → Int32) → Prop} (hF : HF nf f D) (hl : l ≤ 12) (h : ∀ (n : Nat) (g : Nat → Int32), l * D.1 < n → g (l * D.1) = WYS D l 0 → Qa n g) : wp_X11_ways nf f (nI l) Qa := by
  obtain ⟨h1, h2, h3, h4, h5, h6⟩ := hF
  have e4 : (nI nf) / (4 : Int32) = nI D.1 := by
    rw [show (4 : Int32) = nI 4 from rfl, s_div (by decide) (by omega) (by decide), h4, Nat.mul_div_cancel_left _ (by decide)]
  have b12 : ∀ x, x ≤ 13 → x * D.1 ≤ 416 := fun x hx => Nat.le_trans (Nat.mul_le_mul hx h2) (by decide)
  have eN : (nI D.1) * (nI l + (1 : Int32)) = nI ((l + 1) * D.1) := by rw [nI_1, s_mul, Nat.mul_comm]
  have bN := b12 (l + 1) (by omega)
  unfold wp_X11_ways
  rw [e4, eN, nI_clamp (by omega)]
  refine ⟨⟨nI_pos (by omega), bN⟩, ?_⟩
  have L25 : ∀ (x : Nat) (K : (Nat → Int32) → Prop) (v14 : Int32), x ≤ l → (∀ g : Nat → Int32, (∀ y i, y ≤ x → i < D.1 → g (y * D.1 + i) = WYS D y i) → K g) → ∀ (z i : Nat) (g : Nat → Int32), D.1 - i < z → i ≤ D.1 → (∀ y j, y < x → j < D.1 → g (y * D.1 + j) = WYS D y j) → (∀ j, j < i → g (x * D.1 + j) = WYS D x j) → wpl_X11_ways_25 f nf ((l + 1) * D.1) (nI x) (nI D.1) v14 K z (nI i) g := by
    intro x K v14 hx hK z
    have bx := b12 x (by omega)
    have bx1 : (x + 1) * D.1 ≤ (l + 1) * D.1 := Nat.mul_le_mul_right _ (by omega)
    rw [Nat.succ_mul] at bx1
    induction z with
    | zero => intro i g hk; exact absurd hk (Nat.not_lt_zero _)
    | succ z ih =>
      intro i g hk hi h7 h8
      refine ⟨fun c => ?_, fun c => ?_⟩
      · rw [nI_leI (by omega) (by omega)] at c
        refine hK g (fun y j hy hj => ?_)
        by_cases e : y = x
        · rw [e]; exact h8 j (by omega)
        · exact h7 y j (by omega) hj
      rw [nI_leI (by omega) (by omega)] at c
      have hi' : i < D.1 := by omega
      rw [show (4 : Int32) = nI 4 from rfl, show (3 : Int32) = nI 3 from rfl, show (1 : Int32) = nI 1 from rfl, show (2 : Int32) = nI 2 from rfl]
      simp only [s_mul, nI_add]
      refine ⟨s_in (by omega) (by omega), fun J hJ => ?_⟩
      have go : ∀ j19, j19 = WYS D x i → J j19 := fun j19 e => hJ _ ⟨s_in (by omega) (by omega), by
        rw [nI_clamp (by omega), e]
        refine ih (i + 1) _ (by omega) (by omega) (fun y j hy hj => ?_) (fun j hj => ?_)
        · have := ltm hy hj
          rw [upd_ne (by omega)]
          exact h7 y j hy hj
        · by_cases e2 : j = i
          · rw [e2, upd_at]
          · rw [upd_ne (by omega)]
            exact h8 j (by omega)⟩
      refine ⟨fun c0 => go _ ?_, fun c0 => ?_⟩
      · rw [show (0 : Int32) = nI 0 from rfl, nI_leI (by omega) (by omega)] at c0
        have : x = 0 := by omega
        subst this
        rw [nI_clamp (by omega), h6 i hi']
        rfl
      rw [show (0 : Int32) = nI 0 from rfl, nI_leI (by omega) (by omega)] at c0
      obtain ⟨y, rfl⟩ : ∃ y, x = y + 1 := ⟨x - 1, by omega⟩
      have cell : ∀ s, s < 3 → f (nI (4 * i + s)).toNatClampNeg = nI (D.2.1 (3 * i + s)) := fun s hs => by rw [nI_clamp (by omega), h5 i s hi' hs]
      have c00 : f (nI (4 * i)).toNatClampNeg = nI (D.2.1 (3 * i)) := cell 0 (by omega)
      have b0 := h3 (3 * i) (by omega)
      have b1 := h3 (3 * i + 1) (by omega)
      have b2 := h3 (3 * i + 2) (by omega)
      have by1 : (y + 1) * D.1 ≤ (l + 1) * D.1 := Nat.mul_le_mul_right _ (by omega)
      have q0 := ltm (show y < y + 1 by omega) b0
      have q1 := ltm (show y < y + 1 by omega) b1
      have q2 := ltm (show y < y + 1 by omega) b2
      rw [c00, cell 1 (by omega), cell 2 (by omega), s_sub (by omega) (by omega), show y + 1 - 1 = y by omega, s_mul, nI_add, nI_add, nI_add]
      refine ⟨s_in (by omega) (by omega), s_in (by omega) (by omega), s_in (by omega) (by omega), s_in (by omega) (by omega), s_in (by omega) (by omega), s_in (by omega) (by omega), go _ ?_⟩
      rw [nI_clamp (by omega), nI_clamp (by omega), nI_clamp (by omega), h7 y _ (by omega) b0, h7 y _ (by omega) b1, h7 y _ (by omega) b2, WYS, Int32.zero_add]
  have L16 : ∀ (z x : Nat) (g : Nat → Int32), l + 1 - x < z → x ≤ l + 1 → (∀ y i, y < x → i < D.1 → g (y * D.1 + i) = WYS D y i) → wpl_X11_ways_16 f nf ((l + 1) * D.1) (nI D.1) (nI l) Qa z (nI x) g := by
    intro z
    induction z with
    | zero => intro x g hk; exact absurd hk (Nat.not_lt_zero _)
    | succ z ih =>
      intro x g hk hx h7
      refine ⟨fun c => ?_, fun c => ?_⟩
      · rw [nI_ltI (by omega) (by omega)] at c
        exact h _ g (ltm (show l < l + 1 by omega) h1) (h7 l 0 (by omega) h1)
      rw [nI_ltI (by omega) (by omega)] at c
      have g9 := L25 x (fun f29 => wpl_X11_ways_16 f nf ((l + 1) * D.1) (nI D.1) (nI l) Qa z (nI x + (1 : Int32)) f29) (nI l) (by omega) (fun g' hg => by rw [nI_1]; exact ih (x + 1) g' (by omega) (by omega) (fun y i hy hi => hg y i (by omega) hi)) (D.1 + 1) 0 g (by omega) (Nat.zero_le _) h7 (fun j hj => absurd hj (Nat.not_lt_zero _))
      rw [nI_0] at g9
      exact ⟨_, g9⟩
  have g9 := L16 (l + 2) 0 (fun _ => 0) (by omega) (Nat.zero_le _) (fun y i hy => absurd hy (Nat.not_lt_zero _))
  rw [nI_0] at g9
  exact ⟨_, g9⟩
end SIMW
end
/-! part 9saw.sim6 -/
section
section SIMX
variable {μ ν : TMem} {S : Nat → AM} {a r k t : Int32} {a1 a2 a3 a4 a5 : Int32} {m m' : Nat} {A B : AM} {D D1 D2 : DF} {Q : Int32 → TMem → Prop} {X : String → TMem → Prop} {Qi : Int32 → Prop} {Qo : Option AI → Prop} {P : PP}
theorem ZF.r50 {μ9 : TMem} (h : ∀ k, k ≠ 50 → μ9 k = μ k) : ZF μ μ9 := ⟨fun k hk => h k (by omega), fun g i => by rw [h 43 (by decide)]; exact g i⟩
/-- the class's count of words by their tails -/
theorem e_ways {l : Nat} (hP : HP μ 57 D) (hl : l ≤ 12) (h : ∀ μ9, ZF μ μ9 → Q (WYS D l 0) μ9) : wp_X8_count 57 μ (fun μ8 => wp_X8_from μ8 0 (nI l) (fun r9 => Q r9 μ8)) := by
  have d1 := hP.1
  refine e_tails hP (fun μ9 hw hf => ?_)
  refine e_from (i := 0) hl (by omega) ?_
  rw [hw l 0 hl (by omega)]
  exact h μ9 (ZF.r50 hf)
/-- the reference's -/
theorem rr_waysQ {l nf : Nat} {f : Nat → Int32} (hF : HF nf f D) (hl : l ≤ 12) (h : Q (WYS D l 0) ν) : wp_X11_ways nf f (nI l) (fun (n34 : Nat) (f35 : Nat → Int32) => vp_in ((nI l) * ((nI nf) / (4 : Int32))) n34 ∧ (Q (f35 ((nI l) * ((nI nf) / (4 : Int32))).toNatClampNeg) ν)) := by
  have h4 := hF.2.2.2.1
  have h2 := hF.2.1
  have e4 : (nI nf) / (4 : Int32) = nI D.1 := by
    rw [show (4 : Int32) = nI 4 from rfl, s_div (by decide) (by omega) (by decide), h4, Nat.mul_div_cancel_left _ (by decide)]
  have b : l * D.1 ≤ 12 * 32 := Nat.mul_le_mul hl h2
  rw [e4, s_mul]
  refine rr_ways hF hl (fun n g hn hg => ⟨s_in hn (by omega), ?_⟩)
  rw [nI_clamp (by omega), hg]
  exact h
theorem n4_div {nf : Nat} {f : Nat → Int32} (hF : HF nf f D) : (nI nf) / (4 : Int32) = nI D.1 := by
  have h4 := hF.2.2.2.1
  have h2 := hF.2.1
  rw [show (4 : Int32) = nI 4 from rfl, s_div (by decide) (by omega) (by decide), h4, Nat.mul_div_cancel_left _ (by decide)]
/-- what together tells -/
def TGV (A B : AM) (w h : Int32) : Option Int32 := (BLS A B (nn w)).map fun D => if h = -1 then nI D.1 else WYS D (nn h) 0
abbrev TGK (a3 a4 : Int32) : Prop := IN a3 0 3 ∧ IN a4 (-1) 12
theorem ee_together (hc : CSt μ S a r k) (hv : AVs S) (hok : ∀ m m' v, AL1 a1 a2 m m' → TGK a3 a4 → TGV (S m) (S m') a3 a4 = some v → ∀ μ9, CSt μ9 S a r k → Q v μ9) (h1 : ¬ ONE2 a1 a2 → X "java/lang/IndexOutOfBoundsException" μ) (h2 : ONE2 a1 a2 → ¬ TGK a3 a4 → X "java/lang/IllegalArgumentException" μ) (h3 : ∀ m m', AL1 a1 a2 m m' → TGK a3 a4 → TGV (S m) (S m') a3 a4 = none → ∀ μ9, CSt μ9 S a r k → X "java/lang/IllegalStateException" μ9) : wp_X9_together μ a1 a2 a3 a4 Q X := by
  refine e_mach (fun m hm em => e_mach (fun m' hm' em' => e_rng (fun z3 => e_rng (fun z4 => ?_) (fun z => h2 ⟨em ▸ M1_nI hm, em' ▸ M1_nI hm'⟩ (fun w => z w.2))) (fun z => h2 ⟨em ▸ M1_nI hm, em' ▸ M1_nI hm'⟩ (fun w => z w.1))) (fun z => h1 (fun w => z w.2))) (fun z => h1 (fun w => z w.1))
  have hA := hc.1 m hm
  have hB := hc.1 m' hm'
  have v7 := (hv m hm).2.1
  have v7' := (hv m' hm').2.1
  have tm := tlm hm
  have tm' := tlm hm'
  have hok' := fun v => hok m m' v ⟨hm, hm', em, em'⟩ ⟨z3, z4⟩
  have h3' := h3 m m' ⟨hm, hm', em, em'⟩ ⟨z3, z4⟩
  obtain ⟨w, ew, w0, w3⟩ := IN_ex z3 (by decide)
  have w3' : (w : Int) ≤ 3 := w3
  have en : nn a3 = w := by rw [ew, nn_nI (by omega)]
  rw [TGV, en] at hok' h3'
  rw [ew]
  refine e_putTogether (kdm hm) (kdm hm') hA hB (by omega) (by omega) (by omega) (by omega) (by omega) hc.2.2.2.2 (fun D μ7 e p z => ⟨fun _ => ⟨fun n1 => ?_, fun e1 => ?_⟩, fun q => absurd q (by decide)⟩) (fun e μ7 z => ⟨fun q => absurd rfl q, fun _ => h3' (by rw [e]; rfl) μ7 (hc.keep z)⟩)
  · have c9 : a4.toInt ≠ -1 := fun e => n1 (l_eq.mpr (by rw [e]; rfl))
    obtain ⟨l, el, l0, l12⟩ := IN_ex (show IN a4 0 12 from ⟨by have := z4.1; have e : (-1 : Int32).toInt = -1 := rfl; omega, z4.2⟩) (by decide)
    have l12' : (l : Int) ≤ 12 := l12
    rw [el]
    refine e_ways p (by omega) (fun μ9 z9 => hok' _ ?_ μ9 ((hc.keep z).keep z9))
    rw [e, Option.map_some, if_neg n1, el, nn_nI (by omega)]
  · have e7 : μ7 57 1 = nI D.1 := p.2.2.2.1
    show Q (μ7 57 1) μ7
    rw [e7]
    refine hok' _ ?_ μ7 (hc.keep z)
    rw [e, Option.map_some, if_pos e1]
theorem rr_together (h : RSt ν S a r k t) (hv : AVs S) (hok : ∀ m m' v, AL1 a1 a2 m m' → TGK a3 a4 → TGV (S m) (S m') a3 a4 = some v → ∀ ν9, RSt ν9 S a r k 0 → Q v ν9) (h1 : ¬ ONE2 a1 a2 → ∀ b ν9, RSt ν9 S a r k 1 → Q b ν9) (h2 : ONE2 a1 a2 → ¬ TGK a3 a4 → ∀ b ν9, RSt ν9 S a r k 2 → Q b ν9) (h3 : ∀ m m', AL1 a1 a2 m m' → TGK a3 a4 → TGV (S m) (S m') a3 a4 = none → ∀ b ν9, RSt ν9 S a r k 3 → Q b ν9) : wp_X11_together ν a1 a2 a3 a4 Q := by
  refine rr_two (fun m m' hm hm' em em' => rr_in (fun z3 J hJ => ⟨fun q => absurd q (by decide), fun _ => rr_in (fun z4 => ⟨fun q => absurd q (by decide), fun _ => hJ _ (th_ok ⟨fun _ => ?_, fun q => absurd rfl q⟩)⟩) (fun z => ⟨fun _ => hJ _ (th_2 ⟨fun q => absurd q (by decide), fun _ => h2 ⟨em ▸ M1_nI hm, em' ▸ M1_nI hm'⟩ (fun w => z w.2) _ _ (h.thr 2)⟩), fun q => absurd rfl q⟩)⟩) (fun z J hJ => ⟨fun _ => hJ _ (th_2 ⟨fun q => absurd q (by decide), fun _ => h2 ⟨em ▸ M1_nI hm, em' ▸ M1_nI hm'⟩ (fun w => z w.1) _ _ (h.thr 2)⟩), fun q => absurd rfl q⟩)) (fun z => rr_in (fun _ J hJ => ⟨fun q => absurd q (by decide), fun _ => rr_in (fun _ => ⟨fun q => absurd q (by decide), fun _ => hJ _ (th_1 ⟨fun q => absurd q (by decide), fun _ => h1 z _ _ (h.thr 1)⟩)⟩) (fun _ => ⟨fun _ => hJ _ (th_1 ⟨fun q => absurd q (by decide), fun _ => h1 z _ _ (h.thr 1)⟩), fun q => absurd rfl q⟩)⟩) (fun _ J hJ => ⟨fun _ => hJ _ (th_1 ⟨fun q => absurd q (by decide), fun _ => h1 z _ _ (h.thr 1)⟩), fun q => absurd rfl q⟩))
  have h0 := h.thr 0
  have hA := h0.1 m hm
  have hB := h0.1 m' hm'
  have hok' := fun v => hok m m' v ⟨hm, hm', em, em'⟩ ⟨z3, z4⟩
  have h3' := h3 m m' ⟨hm, hm', em, em'⟩ ⟨z3, z4⟩
  obtain ⟨w, ew, w0, w3⟩ := IN_ex z3 (by decide)
  have w3' : (w : Int) ≤ 3 := w3
  have en : nn a3 = w := by rw [ew, nn_nI (by omega)]
  rw [TGV, en] at hok' h3'
  rw [em, em', ew]
  generalize hN : tms ν 0 7 0 = N at *
  refine rr_both (by omega) hm hm' hA hB (hv m hm) (hv m' hm') (fun D nf g e F => ⟨(fun z => nomatch z), fun n13 f14 z => ?_⟩) (fun e => ⟨fun _ => ⟨fun _ => ⟨fun q => absurd q (by decide), fun _ => h3' (by rw [BLS, e]; rfl) _ _ (h0.thr 3)⟩, (fun _ _ z => nomatch z)⟩, (fun _ _ z => nomatch z)⟩)
  cases z
  refine rr_least F (fun D' nf' g' e' F' => ⟨(fun z => nomatch z), fun n32 f33 z => ⟨fun _ => ?_, fun q => absurd rfl q⟩⟩)
  cases z
  have eb : BLS (S m) (S m') w = some D' := by rw [BLS, e]; exact e'
  refine ⟨fun n1 => ?_, fun e1 => ?_⟩
  · have c9 : a4.toInt ≠ -1 := fun e => n1 (l_eq.mpr (by rw [e]; rfl))
    obtain ⟨l, el, l0, l12⟩ := IN_ex (show IN a4 0 12 from ⟨by have := z4.1; have e : (-1 : Int32).toInt = -1 := rfl; omega, z4.2⟩) (by decide)
    have l12' : (l : Int) ≤ 12 := l12
    have g9 := hok' (WYS D' l 0) (by rw [eb, Option.map_some, if_neg n1, el, nn_nI (by omega)]) _ (h0.thr 0)
    rw [el]
    exact rr_waysQ F' (by omega) g9
  · rw [n4_div F']
    exact hok' _ (by rw [eb, Option.map_some, if_pos e1]) _ (h0.thr 0)
theorem gs_together (hP : HPP P) (h : SIM μ ν) (nv : Int64) : wp_X9_together μ a1 a2 a3 a4 (fun r μ9 => wp_X11_together ν a1 a2 a3 a4 (fun b ν9 => P 0 r.toInt64 μ9 b ν9)) (fun E μ9 => (E = IOBn ∧ wp_X11_together ν a1 a2 a3 a4 (fun b ν9 => P 1 nv μ9 b ν9)) ∨ (E = IAEn ∧ wp_X11_together ν a1 a2 a3 a4 (fun b ν9 => P 2 nv μ9 b ν9)) ∨ (E = ISEn ∧ wp_X11_together ν a1 a2 a3 a4 (fun b ν9 => P 3 nv μ9 b ν9))) := by
  obtain ⟨S, a, r, k, t, hv, hc, hr⟩ := h
  refine ee_together hc hv (fun m m' v g z ev μ9 c9 => ?_) (fun z => Or.inl ⟨rfl, ?_⟩) (fun w z => Or.inr (Or.inl ⟨rfl, ?_⟩)) (fun m m' g z ev μ9 c9 => Or.inr (Or.inr ⟨rfl, ?_⟩))
  · refine rr_together hr hv (fun n n' v' g' z' ev' ν9 r9 => ?_) (fun q => absurd g.one q) (fun _ q => absurd z q) (fun n n' g' z' ev' b ν9 r9 => ?_)
    all_goals
      obtain ⟨rfl, rfl⟩ := g.uq g'
      rw [ev] at ev'
      cases ev'
    exact ph_ok hP hv c9 r9
  · exact rr_together hr hv (fun n n' v' g' z' ev' ν9 r9 => absurd g'.one z) (fun _ b ν9 r9 => ph_x hP hv hc r9 (by decide)) (fun q => absurd q z) (fun n n' g' z' ev' b ν9 r9 => absurd g'.one z)
  · exact rr_together hr hv (fun n n' v' g' z' ev' ν9 r9 => absurd z' z) (fun q => absurd w q) (fun _ _ b ν9 r9 => ph_x hP hv hc r9 (by decide)) (fun n n' g' z' ev' b ν9 r9 => absurd z' z)
  · refine rr_together hr hv (fun n n' v' g' z' ev' ν9 r9 => ?_) (fun q => absurd g.one q) (fun _ q => absurd z q) (fun n n' g' z' ev' b ν9 r9 => ph_x hP hv c9 r9 (by decide))
    obtain ⟨rfl, rfl⟩ := g.uq g'
    rw [ev] at ev'
    cases ev'
/-- words taken, one by one -/
def OBn (A : AM) (l : Nat) : Nat → Int32
  | 0 => 0
  | n + 1 => OBn A l n + TKv A l n
theorem TKv_01 {l w : Nat} : (TKv A l w = 0 ∧ SAf (RA9 A) l w (nn A.2.1) &&& nn A.2.2.1 = 0) ∨ (TKv A l w = 1 ∧ ¬ SAf (RA9 A) l w (nn A.2.1) &&& nn A.2.2.1 = 0) := by
  by_cases z : SAf (RA9 A) l w (nn A.2.1) &&& nn A.2.2.1 = 0
  · exact Or.inl ⟨by rw [TKv, if_pos z], z⟩
  · exact Or.inr ⟨by rw [TKv, if_neg z], z⟩
theorem e_isTaking {l w k0 : Nat} (hM : HM μ k0 A) (h32 : A.1 ≤ 32) (hr : 3 * A.1 ≤ tl (k0 + 1)) (hl : l < 2 ^ 30) (hw : w < 2 ^ 31) (h : Qi (TKv A l w)) : wp_X2_isTaking k0 μ (nI l) (nI w) Qi := by
  refine e_statesAfter hM h32 hr hl hw (fun x hx => ?_)
  have e : x &&& A.2.2.1 = 0 ↔ SAf (RA9 A) l w (nn A.2.1) &&& nn A.2.2.1 = 0 := by rw [← hx, ← nn_and, nn_eq, nn_0]
  rw [hM.2.2.1, e]
  rcases TKv_01 (A := A) (l := l) (w := w) with ⟨e1, e2⟩ | ⟨e1, e2⟩
  · rw [e1] at h
    exact ⟨fun _ => h, fun z => absurd e2 z⟩
  · rw [e1] at h
    exact ⟨fun z => absurd z e2, fun _ => h⟩
theorem e_oneByOne {l k0 : Nat} (hM : HM μ k0 A) (h32 : A.1 ≤ 32) (hr : 3 * A.1 ≤ tl (k0 + 1)) (hl : l ≤ 12) (h : Qi (OBn A l (3 ^ l))) : wp_X2_countOneByOne k0 μ (nI l) Qi := by
  have p3 := (p3_le hl).2
  refine e_codes hl ?_
  generalize 3 ^ l = N at *
  have L : ∀ (nf i : Nat), N - i < nf → i ≤ N → wpl_X2_countOneByOne_10 k0 μ (nI N) (nI l) Qi nf (nI i) (OBn A l i) := by
    intro nf
    induction nf with
    | zero => intro i hk; exact absurd hk (Nat.not_lt_zero _)
    | succ nf ih =>
      intro i hk hi
      refine ⟨fun c => ?_, fun c => ?_⟩
      · rw [nI_leI (by omega) (by omega)] at c
        rw [show i = N by omega]
        exact h
      rw [nI_leI (by omega) (by omega)] at c
      have g := ih (i + 1) (by omega) (by omega)
      refine e_isTaking hM h32 hr (by omega) (by omega) ?_
      rw [nI_1]
      rw [OBn] at g
      rcases TKv_01 (A := A) (l := l) (w := i) with ⟨e1, _⟩ | ⟨e1, _⟩
      · rw [e1] at g ⊢
        rw [Int32.add_zero] at g
        exact ⟨fun _ => g, fun q => absurd rfl q⟩
      · rw [e1] at g ⊢
        exact ⟨fun q => absurd q (by decide), fun _ => g⟩
  have g := L (N + 1) 0 (by omega) (Nat.zero_le _)
  rw [nI_0] at g
  exact ⟨_, g⟩
theorem rr_oneByOne {l : Nat} (hm : m < 4) (hR : HR ν m A) (hv : AV A) (hl : l ≤ 12) (h : Q (OBn A l (3 ^ l)) ν) : ∃ z, wpl_X11_many_94 ν (nI m) (nI l) Q z 0 0 := by
  have p3 := (p3_le hl).2
  have im : (nI m).toNatClampNeg = m := nI_clamp (by omega)
  obtain ⟨N, hN⟩ : ∃ N, N = 3 ^ l := ⟨_, rfl⟩
  rw [← hN] at p3 h
  have L : ∀ (nf i : Nat), N - i < nf → i ≤ N → wpl_X11_many_94 ν (nI m) (nI l) Q nf (nI i) (OBn A l i) := by
    intro nf
    induction nf with
    | zero => intro i hk; exact absurd hk (Nat.not_lt_zero _)
    | succ nf ih =>
      intro i hk hi
      refine rr_power hl ?_
      rw [← hN]
      refine ⟨fun c => ?_, fun c => ?_⟩
      · rw [nI_leI (by omega) (by omega)] at c
        rw [show i = N by omega]
        exact h
      rw [nI_leI (by omega) (by omega)] at c
      have g := ih (i + 1) (by omega) (by omega)
      refine rr_setAfter hm hR hv (by omega) (by omega) (fun x hx => ⟨s_in hm (by omega), ?_⟩)
      have e : x &&& A.2.2.1 = 0 ↔ SAf (RA9 A) l i (nn A.2.1) &&& nn A.2.2.1 = 0 := by rw [← hx, ← nn_and, nn_eq, nn_0]
      rw [im, hR.2.2.1, e, nI_1]
      rw [OBn] at g
      rcases TKv_01 (A := A) (l := l) (w := i) with ⟨e1, e2⟩ | ⟨e1, e2⟩
      · rw [e1] at g
        exact ⟨fun _ => g, fun z => absurd e2 z⟩
      · rw [e1] at g
        exact ⟨fun z => absurd z e2, fun _ => g⟩
  have g := L (N + 1) 0 (by omega) (Nat.zero_le _)
  rw [nI_0] at g
  exact ⟨_, g⟩
/-- what many tells -/
def MNV (A : AM) (x h : Int32) : Option Int32 := if h = 1 then some (OBn A (nn x) (3 ^ nn x)) else (LSM A).map fun D => WYS D (nn x) 0
def MNK (a2 a3 : Int32) : Prop := IN a3 0 1 ∧ IN a2 0 (if a3 = 1 then 5 else 12)
theorem ee_many (hc : CSt μ S a r k) (hv : AVs S) (hok : ∀ m v, m < 4 → a1 = nI m → MNK a2 a3 → MNV (S m) a2 a3 = some v → ∀ μ9, CSt μ9 S a r k → Q v μ9) (h1 : ¬ M1 a1 → X "java/lang/IndexOutOfBoundsException" μ) (h2 : M1 a1 → ¬ MNK a2 a3 → X "java/lang/IllegalArgumentException" μ) (h3 : ∀ m, m < 4 → a1 = nI m → MNK a2 a3 → MNV (S m) a2 a3 = none → ∀ μ9, CSt μ9 S a r k → X "java/lang/IllegalStateException" μ9) : wp_X9_many μ a1 a2 a3 Q X := by
  refine e_mach (fun m hm em => e_rng (fun z3 => ?_) (fun z => h2 (em ▸ M1_nI hm) (fun w => z w.1))) h1
  have hM := hc.1 m hm
  have v7 := (hv m hm).2.1
  have tm := tlm hm
  have hok' := fun v => hok m v hm em
  have h3' := h3 m hm em
  refine ⟨fun n1 => e_rng (fun z2 => ⟨fun _ => ?_, fun e1 => absurd e1 n1⟩) (fun z => h2 (em ▸ M1_nI hm) (fun w => z (by have := w.2; rw [if_neg n1] at this; exact this))), fun e1 => e_rng (fun z2 => ⟨fun n1 => absurd e1 n1, fun _ => ?_⟩) (fun z => h2 (em ▸ M1_nI hm) (fun w => z (by have := w.2; rw [if_pos e1] at this; exact this)))⟩
  · have hk : MNK a2 a3 := ⟨z3, by rw [if_neg n1]; exact z2⟩
    obtain ⟨l, el, l0, l12⟩ := IN_ex z2 (by decide)
    have l12' : (l : Int) ≤ 12 := l12
    have en : nn a2 = l := by rw [el, nn_nI (by omega)]
    have ea : MNV (S m) a2 a3 = (LSM (S m)).map fun D => WYS D l 0 := by rw [MNV, if_neg n1, en]
    refine e_makeBy0 (kdm hm) (k2 := 57) rfl (by decide) hM (by omega) (by omega) (fun D μ7 e p z => ⟨fun _ => ?_, fun q => absurd q (by decide)⟩) (fun e μ7 z => ⟨fun q => absurd rfl q, fun _ => h3' hk (by rw [ea, e]; rfl) μ7 (hc.keep z)⟩)
    rw [el]
    exact e_ways p (by omega) (fun μ9 z9 => hok' _ hk (by rw [ea, e]; rfl) μ9 ((hc.keep z).keep z9))
  · have hk : MNK a2 a3 := ⟨z3, by rw [if_pos e1]; exact z2⟩
    obtain ⟨l, el, l0, l5⟩ := IN_ex z2 (by decide)
    have l5' : (l : Int) ≤ 5 := l5
    have en : nn a2 = l := by rw [el, nn_nI (by omega)]
    have ea : MNV (S m) a2 a3 = some (OBn (S m) l (3 ^ l)) := by rw [MNV, if_pos e1, en]
    rw [el]
    exact e_oneByOne hM (by omega) (by omega) (by omega) (hok' _ hk ea μ hc)
theorem rr_many (h : RSt ν S a r k t) (hv : AVs S) (hok : ∀ m v, m < 4 → a1 = nI m → MNK a2 a3 → MNV (S m) a2 a3 = some v → ∀ ν9, RSt ν9 S a r k 0 → Q v ν9) (h1 : ¬ M1 a1 → ∀ b ν9, RSt ν9 S a r k 1 → Q b ν9) (h2 : M1 a1 → ¬ MNK a2 a3 → ∀ b ν9, RSt ν9 S a r k 2 → Q b ν9) (h3 : ∀ m, m < 4 → a1 = nI m → MNK a2 a3 → MNV (S m) a2 a3 = none → ∀ b ν9, RSt ν9 S a r k 3 → Q b ν9) : wp_X11_many ν a1 a2 a3 Q := by
  have walk : ∀ (F : Int32 → Prop), (MNK a2 a3 → F 1) → (¬ MNK a2 a3 → F 0) → wp_X11_isIn a2 (0 : Int32) (12 : Int32) (fun (r2 : Int32) => ∀ J : Int32 → Prop, (∀ j4 : Int32, F j4 → J j4) → (r2 = 0 → (J (0 : Int32))) ∧ (¬ r2 = 0 → (wp_X11_isIn a3 (0 : Int32) (1 : Int32) (fun (r39 : Int32) => (r39 = 0 → (J (0 : Int32))) ∧ (¬ r39 = 0 → ((a3 = 0 → (J (1 : Int32))) ∧ (¬ a3 = 0 → (((6 : Int32) ≤ a2 → (J (0 : Int32))) ∧ (¬ (6 : Int32) ≤ a2 → (J (1 : Int32))))))))))) := fun F f1 f0 => by
    refine rr_in (fun z2 J hJ => ⟨fun q => absurd q (by decide), fun _ => rr_in (fun z3 => ⟨fun q => absurd q (by decide), fun _ => ⟨fun e0 => hJ _ (f1 ⟨z3, ?_⟩), fun n0 => ?_⟩⟩) (fun z => ⟨fun _ => hJ _ (f0 (fun w => z w.1)), fun q => absurd rfl q⟩)⟩) (fun z J hJ => ⟨fun _ => hJ _ (f0 (fun w => z ⟨w.2.1, ?_⟩)), fun q => absurd rfl q⟩)
    · rw [e0, if_neg (by decide)]; exact z2
    · have e1 : a3 = 1 := by
        have x1 : 0 ≤ a3.toInt := z3.1
        have x2 : a3.toInt ≤ 1 := z3.2
        have x3 : a3.toInt ≠ 0 := fun e => n0 (l_eq.mpr (by rw [e]; rfl))
        exact l_eq.mpr (by rw [show (1 : Int32).toInt = 1 from rfl]; omega)
      have y1 : 0 ≤ a2.toInt := z2.1
      rw [l_le, show (6 : Int32).toInt = 6 from rfl]
      exact ⟨fun c => hJ _ (f0 (fun w => by have := w.2.2; rw [if_pos e1] at this; omega)), fun c => hJ _ (f1 ⟨z3, by rw [if_pos e1]; exact ⟨y1, by omega⟩⟩)⟩
    · have := w.2.2
      show a2.toInt ≤ 12
      split at this <;> omega
  refine rr_one (fun m hm em => walk _ (fun hk => th_ok ⟨fun _ => ?_, fun q => absurd rfl q⟩) (fun z => th_2 ⟨fun q => absurd q (by decide), fun _ => h2 (em ▸ M1_nI hm) z _ _ (h.thr 2)⟩)) (fun z => walk _ (fun _ => th_1 ⟨fun q => absurd q (by decide), fun _ => h1 z _ _ (h.thr 1)⟩) (fun _ => th_1 ⟨fun q => absurd q (by decide), fun _ => h1 z _ _ (h.thr 1)⟩))
  have h0 := h.thr 0
  have hR := h0.1 m hm
  have vA := hv m hm
  have hok' := fun v => hok m v hm em hk
  have h3' := h3 m hm em hk
  rw [em]
  generalize hN : tms ν 0 7 0 = N at *
  have x1 : 0 ≤ a3.toInt := hk.1.1
  have x2 : a3.toInt ≤ 1 := hk.1.2
  refine ⟨fun n0 => ?_, fun e0 => ?_⟩
  · have e1 : a3 = 1 := by
      have x3 : a3.toInt ≠ 0 := fun e => n0 (l_eq.mpr (by rw [e]; rfl))
      exact l_eq.mpr (by rw [show (1 : Int32).toInt = 1 from rfl]; omega)
    have z2 := hk.2
    rw [if_pos e1] at z2
    obtain ⟨l, el, l0, l5⟩ := IN_ex z2 (by decide)
    have l5' : (l : Int) ≤ 5 := l5
    have en : nn a2 = l := by rw [el, nn_nI (by omega)]
    have ea : MNV (S m) a2 a3 = some (OBn (S m) l (3 ^ l)) := by rw [MNV, if_pos e1, en]
    rw [el]
    exact rr_oneByOne hm hR vA (by omega) (hok' _ ea _ h0)
  · have n1 : ¬ a3 = 1 := by rw [e0]; decide
    have z2 := hk.2
    rw [if_neg n1] at z2
    obtain ⟨l, el, l0, l12⟩ := IN_ex z2 (by decide)
    have l12' : (l : Int) ≤ 12 := l12
    have en : nn a2 = l := by rw [el, nn_nI (by omega)]
    have ea : MNV (S m) a2 a3 = (LSM (S m)).map fun D => WYS D l 0 := by rw [MNV, if_neg n1, en]
    rw [el]
    refine rr_found0 hm hR vA (fun D nf g e F => ⟨(fun z => nomatch z), fun n25 f26 z => ⟨fun _ => ?_, fun q => absurd rfl q⟩⟩) (fun e => ⟨fun _ => ⟨fun q => absurd q (by decide), fun _ => h3' (by rw [ea, e]; rfl) _ _ (h0.thr 3)⟩, (fun _ _ z => nomatch z)⟩)
    cases z
    exact rr_waysQ F (by omega) (hok' _ (by rw [ea, e]; rfl) _ (h0.thr 0))
theorem gs_many (hP : HPP P) (h : SIM μ ν) (nv : Int64) : wp_X9_many μ a1 a2 a3 (fun r μ9 => wp_X11_many ν a1 a2 a3 (fun b ν9 => P 0 r.toInt64 μ9 b ν9)) (fun E μ9 => (E = IOBn ∧ wp_X11_many ν a1 a2 a3 (fun b ν9 => P 1 nv μ9 b ν9)) ∨ (E = IAEn ∧ wp_X11_many ν a1 a2 a3 (fun b ν9 => P 2 nv μ9 b ν9)) ∨ (E = ISEn ∧ wp_X11_many ν a1 a2 a3 (fun b ν9 => P 3 nv μ9 b ν9))) := by
  obtain ⟨S, a, r, k, t, hv, hc, hr⟩ := h
  refine ee_many hc hv (fun m v hm e z ev μ9 c9 => ?_) (fun z => Or.inl ⟨rfl, ?_⟩) (fun w z => Or.inr (Or.inl ⟨rfl, ?_⟩)) (fun m hm e z ev μ9 c9 => Or.inr (Or.inr ⟨rfl, ?_⟩))
  · refine rr_many hr hv (fun n v' hn e' z' ev' ν9 r9 => ?_) (fun q => absurd (e ▸ M1_nI hm) q) (fun _ q => absurd z q) (fun n hn e' z' ev' b ν9 r9 => ?_)
    all_goals
      cases nI_injS e e' (by omega) (by omega)
      rw [ev] at ev'
      cases ev'
    exact ph_ok hP hv c9 r9
  · exact rr_many hr hv (fun n v' hn e' z' ev' ν9 r9 => absurd (e' ▸ M1_nI hn) z) (fun _ b ν9 r9 => ph_x hP hv hc r9 (by decide)) (fun q => absurd q z) (fun n hn e' z' ev' b ν9 r9 => absurd (e' ▸ M1_nI hn) z)
  · exact rr_many hr hv (fun n v' hn e' z' ev' ν9 r9 => absurd z' z) (fun q => absurd w q) (fun _ _ b ν9 r9 => ph_x hP hv hc r9 (by decide)) (fun n hn e' z' ev' b ν9 r9 => absurd z' z)
  · refine rr_many hr hv (fun n v' hn e' z' ev' ν9 r9 => ?_) (fun q => absurd (e ▸ M1_nI hm) q) (fun _ q => absurd z q) (fun n hn e' z' ev' b ν9 r9 => ph_x hP hv c9 r9 (by decide))
    cases nI_injS e e' (by omega) (by omega)
    rw [ev] at ev'
    cases ev'
end SIMX
end
/-! part 9sax.sim7 -/
section
section SIMK
variable {μ ν : TMem} {S : Nat → AM} {a r k t : Int32} {a1 a2 a3 a4 a5 : Int32} {m m' : Nat} {A B : AM} {D D1 D2 : DF} {Q : Int32 → TMem → Prop} {X : String → TMem → Prop} {Qi : Int32 → Prop} {Qo : Option AI → Prop} {P : PP}
/-- a way of n signs from x to y -/
def RPn (D : DF) : Nat → Nat → Nat → Prop
  | 0, x, y => x = y
  | n + 1, x, y => ∃ s, s < 3 ∧ RPn D n (D.2.1 (3 * x + s)) y
theorem RPn.snoc : ∀ (n x y : Nat), RPn D (n + 1) x y ↔ ∃ z s, s < 3 ∧ RPn D n x z ∧ D.2.1 (3 * z + s) = y := by
  intro n
  induction n with
  | zero =>
    intro x y
    exact ⟨fun ⟨s, hs, h⟩ => ⟨x, s, hs, rfl, h⟩, fun ⟨z, s, hs, h1, h2⟩ => ⟨s, hs, by cases h1; exact h2⟩⟩
  | succ n ih =>
    intro x y
    refine ⟨fun ⟨s, hs, h⟩ => ?_, fun ⟨z, s, hs, ⟨s', hs', h1⟩, h2⟩ => ⟨s', hs', (ih _ _).mpr ⟨z, s, hs, h1, h2⟩⟩⟩
    obtain ⟨z, s', hs', h1, h2⟩ := (ih _ _).mp h
    exact ⟨z, s', hs', ⟨s, hs, h1⟩, h2⟩
theorem RPn.lt (hT : ∀ j, j < 3 * D.1 → D.2.1 j < D.1) (h1 : 1 ≤ D.1) : ∀ {n x y : Nat}, x < D.1 → RPn D n x y → y < D.1 := by
  intro n
  induction n with
  | zero => intro x y hx h; cases h; exact hx
  | succ n ih => intro x y hx ⟨s, hs, h⟩; exact ih (hT _ (by omega)) h
/-- a goal is led to by n signs -/
def GR (D : DF) (n x : Nat) : Prop := ∃ y, y < D.1 ∧ D.2.2 y = true ∧ RPn D n x y
theorem GR.step {n x : Nat} : GR D (n + 1) x ↔ ∃ s, s < 3 ∧ GR D n (D.2.1 (3 * x + s)) := ⟨fun ⟨y, hy, hg, s, hs, h⟩ => ⟨s, hs, y, hy, hg, h⟩, fun ⟨s, hs, y, hy, hg, h⟩ => ⟨y, hy, hg, s, hs, h⟩⟩
def LO (D : DF) : Prop := ∃ n, D.1 ≤ n ∧ n < 2 * D.1 ∧ GR D n 0
def LIV (D : DF) (x : Int32) (a b : Nat) (v : Int32) : Prop := (∀ i, i < a → ((nn v).testBit i = true ↔ ∃ s, s < 3 ∧ (nn x).testBit (D.2.1 (3 * i + s)) = true)) ∧ ((nn v).testBit a = true ↔ ∃ s, s < b ∧ (nn x).testBit (D.2.1 (3 * a + s)) = true) ∧ ∀ i, a < i → (nn v).testBit i = false
def FIV (D : DF) (X : Int64) (a b : Nat) (v : Int64) : Prop := ∀ y, y < D.1 → ((ll v).testBit y = true ↔ ∃ x s, s < 3 ∧ (x < a ∨ (x = a ∧ s < b)) ∧ (ll X).testBit x = true ∧ D.2.1 (3 * x + s) = y)
theorem e_ledInto {k0 : Nat} {x : Int32} (hk : kd k0 = 5) (h : HP μ k0 D) (hQ : ∀ r : Int32, (∀ i, i < D.1 → ((nn r).testBit i = true ↔ ∃ s, s < 3 ∧ (nn x).testBit (D.2.1 (3 * i + s)) = true)) → (∀ i, D.1 ≤ i → (nn r).testBit i = false) → Qi r) : wp_X5_ledInto k0 μ x Qi := by
  have q := (kd5 hk).2
  obtain ⟨h1, h2, h3, h4, h5, h6⟩ := h
  have L15 : ∀ (a : Nat) (K : Int32 → Prop), a < D.1 → (∀ v, LIV D x a 3 v → K v) → ∀ (nf b : Nat) (v : Int32), 3 - b < nf → b ≤ 3 → LIV D x a b v → wpl_X5_ledInto_15 k0 μ (nI a) x K nf (nI b) v := by
    intro a K ha hK nf
    induction nf with
    | zero => intro b v hk; exact absurd hk (Nat.not_lt_zero _)
    | succ nf ih =>
      intro b v hk hb hV
      refine ⟨fun c => ?_, fun c => ?_⟩
      · rw [show (3 : Int32) = nI 3 from rfl, nI_leI (by omega) (by omega)] at c
        rw [show b = 3 by omega] at hV
        exact hK v hV
      rw [show (3 : Int32) = nI 3 from rfl, nI_leI (by omega) (by omega)] at c
      refine e_atN (by omega) ?_
      have hd := h3 (3 * a + b) (by omega)
      rw [h5 _ (by omega)]
      refine e_isIn (by omega) ⟨fun z => ?_, fun z => ?_⟩
      · rw [bi_0] at z
        rw [nI_1]
        refine ih (b + 1) v (by omega) (by omega) ⟨hV.1, ?_, hV.2.2⟩
        rw [hV.2.1]
        refine ⟨fun ⟨s, hs, g⟩ => ⟨s, by omega, g⟩, fun ⟨s, hs, g⟩ => ?_⟩
        by_cases e : s = b
        · rw [e, z] at g; cases g
        · exact ⟨s, by omega, g⟩
      · rw [bi_0] at z
        have z' : (nn x).testBit (D.2.1 (3 * a + b)) = true := by simpa using z
        rw [nI_1]
        have hbit : ∀ j, (nn (v ||| ((1 : Int32) <<< (nI a &&& 31)))).testBit j = ((nn v).testBit j || decide (a = j)) := fun j => by rw [nn_or, nn_two _ (by omega), s_or2]
        refine ih (b + 1) _ (by omega) (by omega) ⟨fun i hi => ?_, ?_, fun i hi => ?_⟩
        · rw [hbit, decide_eq_false (by omega), Bool.or_false]
          exact hV.1 i hi
        · rw [hbit, decide_eq_true rfl, Bool.or_true]
          exact ⟨fun _ => ⟨b, by omega, z'⟩, fun _ => rfl⟩
        · rw [hbit, decide_eq_false (by omega), Bool.or_false]
          exact hV.2.2 i hi
  have L4 : ∀ (nf a : Nat) (v : Int32), D.1 - a < nf → a ≤ D.1 → LIV D x a 0 v → wpl_X5_ledInto_4 k0 μ x Qi nf (nI a) v := by
    intro nf
    induction nf with
    | zero => intro a v hk; exact absurd hk (Nat.not_lt_zero _)
    | succ nf ih =>
      intro a v hk ha hV
      refine ⟨fun c => ?_, fun c => ?_⟩
      · rw [h4, nI_leI (by omega) (by omega)] at c
        have e : a = D.1 := by omega
        rw [e] at hV
        refine hQ v hV.1 (fun i hi => ?_)
        by_cases e2 : i = D.1
        · rw [e2]
          cases e3 : (nn v).testBit D.1 with
          | false => rfl
          | true =>
            obtain ⟨s, hs, _⟩ := hV.2.1.mp e3
            exact absurd hs (Nat.not_lt_zero _)
        · exact hV.2.2 i (by omega)
      rw [h4, nI_leI (by omega) (by omega)] at c
      have g := L15 a (fun u18 => wpl_X5_ledInto_4 k0 μ x Qi nf (nI a + (1 : Int32)) u18) (by omega) (fun v' hV' => by
        rw [nI_1]
        refine ih (a + 1) v' (by omega) (by omega) ⟨fun i hi => ?_, ?_, fun i hi => hV'.2.2 i (by omega)⟩
        · by_cases e : i = a
          · rw [e]; exact hV'.2.1
          · exact hV'.1 i (by omega)
        · rw [hV'.2.2 (a + 1) (by omega)]
          exact ⟨fun z => (by cases z), fun ⟨s, hs, _⟩ => absurd hs (Nat.not_lt_zero _)⟩) 4 0 v (by omega) (by omega) hV
      rw [nI_0] at g
      exact ⟨_, g⟩
  have g := L4 (D.1 + 1) 0 0 (by omega) (Nat.zero_le _) ⟨fun i hi => absurd hi (Nat.not_lt_zero _), by rw [nn_0, Nat.zero_testBit]; exact ⟨fun z => (by cases z), fun ⟨s, hs, _⟩ => absurd hs (Nat.not_lt_zero _)⟩, fun i _ => by rw [nn_0, Nat.zero_testBit]⟩
  rw [nI_0] at g
  exact ⟨_, g⟩
theorem e_longOnes {k0 : Nat} (hk : kd k0 = 5) (h : HP μ k0 D) (hQ1 : LO D → Qi 1) (hQ0 : ¬ LO D → Qi 0) : wp_X5_isTakingLongOnes k0 μ Qi := by
  have hP := h
  obtain ⟨h1, h2, h3, h4, h5, h6⟩ := h
  have e2 : (2 : Int32) * (μ k0 1) = nI (2 * D.1) := by rw [h4, show (2 : Int32) = nI 2 from rfl, s_mul]
  have L : ∀ (nf n : Nat) (v : Int32), 2 * D.1 - n < nf → n + 1 ≤ 2 * D.1 → (∀ i, i < D.1 → ((nn v).testBit i = true ↔ GR D n i)) → (∀ j, D.1 ≤ j → j < n + 1 → ¬ GR D j 0) → wpl_X5_isTakingLongOnes_7 k0 μ Qi nf (nI (n + 1)) v := by
    intro nf
    induction nf with
    | zero => intro n v hk; exact absurd hk (Nat.not_lt_zero _)
    | succ nf ih =>
      intro n v hk' hn hV hN
      refine ⟨fun c => ?_, fun c => ?_⟩
      · rw [e2, nI_leI (by omega) (by omega)] at c
        exact hQ0 (fun ⟨j, j1, j2, g⟩ => hN j j1 (by omega) g)
      rw [e2, nI_leI (by omega) (by omega)] at c
      refine e_ledInto hk hP (fun r hr _ => ?_)
      have hr' : ∀ i, i < D.1 → ((nn r).testBit i = true ↔ GR D (n + 1) i) := fun i hi => by
        rw [hr i hi, GR.step]
        exact ⟨fun ⟨s, hs, g⟩ => ⟨s, hs, (hV _ (h3 _ (by omega))).mp g⟩, fun ⟨s, hs, g⟩ => ⟨s, hs, (hV _ (h3 _ (by omega))).mpr g⟩⟩
      rw [h4, nI_ltI (by omega) (by omega), nI_1]
      have nx : (∀ j, D.1 ≤ j → j < n + 2 → ¬ GR D j 0) → wpl_X5_isTakingLongOnes_7 k0 μ Qi nf (nI (n + 2)) r := fun hN' => ih (n + 1) r (by omega) (by omega) hr' hN'
      refine ⟨fun z => nx (fun j j1 j2 => absurd j2 (by omega)), fun z => ?_⟩
      refine e_isIn (x := r) (i := 0) (by omega) ⟨fun y => ?_, fun y => ?_⟩
      · rw [bi_0] at y
        refine nx (fun j j1 j2 g => ?_)
        by_cases e : j = n + 1
        · rw [e] at g
          have := (hr' 0 (by omega)).mpr g
          rw [this] at y
          cases y
        · exact hN j j1 (by omega) g
      · rw [bi_0] at y
        exact hQ1 ⟨n + 1, by omega, by omega, (hr' 0 (by omega)).mp (by simpa using y)⟩
  refine ⟨2 * D.1 + 1, L (2 * D.1 + 1) 0 (μ k0 2) (by omega) (by omega) (fun i hi => ?_) (fun j j1 j2 => absurd j2 (by omega))⟩
  rw [h6 i (by omega), decide_eq_true hi, Bool.true_and]
  exact ⟨fun z => ⟨i, hi, z, rfl⟩, fun ⟨y, hy, hg, e⟩ => by cases e; exact hg⟩
theorem ll_bit {v : Int64} {j i : Nat} (hj : j < 64) : (ll (v ||| ((1 : Int64) <<< ((nI j).toInt64 &&& 63)))).testBit i = ((ll v).testBit i || decide (j = i)) := by rw [ll_or, ll_two _ hj, s_or2]
theorem rr_isReached {l nf : Nat} {f : Nat → Int32} (hF : HF nf f D) (hl : l < 2 ^ 30) (h1 : GR D l 0 → Qi 1) (h0 : ¬ GR D l 0 → Qi 0) : wp_X11_isReached nf f (nI l) Qi := by
  have e4 := n4_div hF
  obtain ⟨b1, b2, b3, b4, b5, b6⟩ := hF
  have L29 : ∀ (a : Nat) (X : Int64) (v17 v19 : Int32) (K : Int64 → Prop), a < D.1 → (∀ v, FIV D X a 3 v → K v) → ∀ (z b : Nat) (v : Int64), 3 - b < z → b ≤ 3 → FIV D X a b v → wpl_X11_isReached_29 f nf (nI a) v17 X v19 K z (nI b) v := by
    intro a X v17 v19 K ha hK z
    induction z with
    | zero => intro b v hk; exact absurd hk (Nat.not_lt_zero _)
    | succ z ih =>
      intro b v hk hb hV
      refine ⟨fun c => ?_, fun c => ?_⟩
      · rw [show (3 : Int32) = nI 3 from rfl, nI_leI (by omega) (by omega)] at c
        rw [show b = 3 by omega] at hV
        exact hK v hV
      rw [show (3 : Int32) = nI 3 from rfl, nI_leI (by omega) (by omega)] at c
      have p4 : (4 : Int32) * nI a + nI b = nI (4 * a + b) := by rw [show (4 : Int32) = nI 4 from rfl, s_mul, nI_add]
      have hd := b3 (3 * a + b) (by omega)
      rw [p4, nI_clamp (by omega), b5 _ _ ha (by omega), s_isInL (by omega), nI_1]
      refine ⟨fun q => ih (b + 1) v (by omega) (by omega) (fun y hy => ?_), fun q => ⟨s_in (by omega) (by omega), ih (b + 1) _ (by omega) (by omega) (fun y hy => ?_)⟩⟩
      · rw [hV y hy]
        refine ⟨fun ⟨x, s, hs, hx, g1, g2⟩ => ⟨x, s, hs, by omega, g1, g2⟩, fun ⟨x, s, hs, hx, g1, g2⟩ => ⟨x, s, hs, ?_, g1, g2⟩⟩
        by_cases e : x = a ∧ s = b
        · rw [e.1] at g1; exact absurd g1 q
        · omega
      · rw [ll_bit (by omega), Bool.or_eq_true, decide_eq_true_iff, hV y hy]
        refine ⟨fun w => ?_, fun ⟨x, s, hs, hx, g1, g2⟩ => ?_⟩
        · rcases w with ⟨x, s, hs, hx, g1, g2⟩ | e
          · exact ⟨x, s, hs, by omega, g1, g2⟩
          · exact ⟨a, b, by omega, Or.inr ⟨rfl, by omega⟩, q, e⟩
        · by_cases e : x = a ∧ s = b
          · rw [e.1, e.2] at g2; exact Or.inr g2
          · exact Or.inl ⟨x, s, hs, by omega, g1, g2⟩
  have L17 : ∀ (X : Int64) (v9 v11 : Int32) (K : Int64 → Prop), (∀ v, FIV D X D.1 0 v → K v) → ∀ (z a : Nat) (v : Int64), D.1 - a < z → a ≤ D.1 → FIV D X a 0 v → wpl_X11_isReached_17 f nf v9 X v11 K z (nI a) v := by
    intro X v9 v11 K hK z
    induction z with
    | zero => intro a v hk; exact absurd hk (Nat.not_lt_zero _)
    | succ z ih =>
      intro a v hk ha hV
      refine ⟨fun c => ?_, fun c => ?_⟩
      · rw [e4, nI_leI (by omega) (by omega)] at c
        rw [show a = D.1 by omega] at hV
        exact hK v hV
      rw [e4, nI_leI (by omega) (by omega)] at c
      have g := L29 a X v9 v11 (fun u24 => wpl_X11_isReached_17 f nf v9 X v11 K z (nI a + (1 : Int32)) u24) (by omega) (fun v' hV' => by
        rw [nI_1]
        refine ih (a + 1) v' (by omega) (by omega) (fun y hy => ?_)
        rw [hV' y hy]
        exact ⟨fun ⟨x, s, hs, hx, g1, g2⟩ => ⟨x, s, hs, by omega, g1, g2⟩, fun ⟨x, s, hs, hx, g1, g2⟩ => ⟨x, s, hs, by omega, g1, g2⟩⟩) 4 0 v (by omega) (by omega) hV
      rw [nI_0] at g
      exact ⟨_, g⟩
  have L86 : ∀ (X : Int64), (∀ y, y < D.1 → ((ll X).testBit y = true ↔ RPn D l 0 y)) → ∀ (z i : Nat), D.1 - i < z → i ≤ D.1 → (∀ y, y < i → ¬ (D.2.2 y = true ∧ RPn D l 0 y)) → wpl_X11_isReached_86 f nf X Qi z (nI i) := by
    intro X hX z
    induction z with
    | zero => intro i hk; exact absurd hk (Nat.not_lt_zero _)
    | succ z ih =>
      intro i hk hi hN
      refine ⟨fun c => ?_, fun c => ?_⟩
      · rw [e4, nI_leI (by omega) (by omega)] at c
        exact h0 (fun ⟨y, hy, g1, g2⟩ => hN y (by omega) ⟨g1, g2⟩)
      rw [e4, nI_leI (by omega) (by omega)] at c
      have hi' : i < D.1 := by omega
      have p4 : (4 : Int32) * nI i + (3 : Int32) = nI (4 * i + 3) := by rw [show (4 : Int32) = nI 4 from rfl, show (3 : Int32) = nI 3 from rfl, s_mul, nI_add]
      rw [p4, nI_clamp (by omega), b6 i hi', s_isInL (by omega), hX i hi', nI_1]
      have nx : ¬ (D.2.2 i = true ∧ RPn D l 0 i) → wpl_X11_isReached_86 f nf X Qi z (nI (i + 1)) := fun w => ih (i + 1) (by omega) (by omega) (fun y hy => by
        by_cases e : y = i
        · rw [e]; exact w
        · exact hN y (by omega))
      refine ⟨fun q => nx (fun w => q w.2), fun q => ⟨s_in (by omega) (by omega), fun z2 => nx (fun w => z2 (by rw [w.1]; rfl)), fun z2 => h1 ⟨i, hi', ?_, q⟩⟩⟩
      cases e : D.2.2 i with
      | true => rfl
      | false => rw [e] at z2; exact absurd z2 (by decide)
  have L5 : ∀ (z n : Nat) (v : Int64), l - n < z → n ≤ l → (∀ y, y < D.1 → ((ll v).testBit y = true ↔ RPn D n 0 y)) → wpl_X11_isReached_5 f nf (nI l) (fun u28 => ∃ n28x, wpl_X11_isReached_86 f nf u28 Qi n28x (0 : Int32)) z (nI n) v := by
    intro z
    induction z with
    | zero => intro n v hk; exact absurd hk (Nat.not_lt_zero _)
    | succ z ih =>
      intro n v hk hn hV
      refine ⟨fun c => ?_, fun c => ?_⟩
      · rw [nI_leI (by omega) (by omega)] at c
        rw [show n = l by omega] at hV
        exact ⟨_, L86 v hV (D.1 + 1) 0 (by omega) (Nat.zero_le _) (fun y hy => absurd hy (Nat.not_lt_zero _))⟩
      rw [nI_leI (by omega) (by omega)] at c
      have g := L17 v (nI n) (nI l) (fun u26 => wpl_X11_isReached_5 f nf (nI l) (fun u28 => ∃ n28x, wpl_X11_isReached_86 f nf u28 Qi n28x (0 : Int32)) z (nI n + (1 : Int32)) u26) (fun v' hV' => by
        rw [nI_1]
        refine ih (n + 1) v' (by omega) (by omega) (fun y hy => ?_)
        rw [hV' y hy, RPn.snoc]
        refine ⟨fun ⟨x, s, hs, hx, g1, g2⟩ => ⟨x, s, hs, (hV x (by omega)).mp g1, g2⟩, fun ⟨x, s, hs, g1, g2⟩ => ?_⟩
        have hx : x < D.1 := RPn.lt b3 b1 (by omega) g1
        exact ⟨x, s, hs, Or.inl hx, (hV x hx).mpr g1, g2⟩) (D.1 + 1) 0 0 (by omega) (Nat.zero_le _) (fun y hy => by rw [ll_0, Nat.zero_testBit]; exact ⟨fun z => (by cases z), fun ⟨x, s, hs, hx, _, _⟩ => by omega⟩)
      rw [nI_0] at g
      exact ⟨_, g⟩
  have g := L5 (l + 1) 0 1 (by omega) (Nat.zero_le _) (fun y hy => by
    rw [show ll 1 = 2 ^ 0 from by decide, Nat.testBit_two_pow]
    simp only [decide_eq_true_iff]
    exact Iff.rfl)
  rw [nI_0] at g
  exact ⟨_, g⟩
/-- what kind tells of a least one -/
noncomputable def KDV (D : DF) : Int32 := if D.1 = 1 then bi (D.2.2 0) else @ite _ (LO D) (Classical.propDecidable _) 3 2
theorem ee_kind (hc : CSt μ S a r k) (hv : AVs S) (hok : ∀ m D, m < 4 → a1 = nI m → LSM (S m) = some D → ∀ μ9, CSt μ9 S a r k → Q (KDV D) μ9) (h1 : ¬ M1 a1 → X "java/lang/IndexOutOfBoundsException" μ) (h3 : ∀ m, m < 4 → a1 = nI m → LSM (S m) = none → ∀ μ9, CSt μ9 S a r k → X "java/lang/IllegalStateException" μ9) : wp_X9_kind μ a1 Q X := by
  refine e_mach (fun m hm em => ?_) h1
  have hM := hc.1 m hm
  have v7 := (hv m hm).2.1
  have tm := tlm hm
  refine e_makeBy0 (kdm hm) (k2 := 57) rfl (by decide) hM (by omega) (by omega) (fun D μ7 e p z => ⟨fun _ => ?_, fun q => absurd q (by decide)⟩) (fun e μ7 z => ⟨fun q => absurd rfl q, fun _ => h3 m hm em e μ7 (hc.keep z)⟩)
  have d1 := p.1
  have d32 := p.2.1
  have g := hok m D hm em e μ7 (hc.keep z)
  have e7 : μ7 57 1 = nI D.1 := p.2.2.2.1
  show (¬ (μ7 57 1) = (1 : Int32) → _) ∧ ((μ7 57 1) = (1 : Int32) → _)
  rw [e7, show (1 : Int32) = nI 1 from rfl, nI_eq (by omega) (by omega)]
  refine ⟨fun n1 => ?_, fun e1 => ?_⟩
  · rw [KDV, if_neg n1] at g
    refine e_longOnes rfl p (fun w => ⟨fun q => absurd q (by decide), fun _ => ?_⟩) (fun w => ⟨fun _ => ?_, fun q => absurd rfl q⟩)
    · rw [if_pos w] at g; exact g
    · rw [if_neg w] at g; exact g
  · rw [KDV, if_pos e1] at g
    refine e_goal (a := 0) p (by omega) ⟨fun q => ?_, fun q => ?_⟩
    · rw [q] at g; exact g
    · rw [bi_0] at q
      rw [show D.2.2 0 = true by simpa using q] at g
      exact g
theorem rr_kind49 {nf : Nat} {f : Nat → Int32} (hF : HF nf f D) (h1 : LO D → Q 3 ν) (h0 : ¬ LO D → Q 2 ν) : ∃ z, wpl_X11_kind_49 ν f nf (nI D.1) Q z (nI D.1) := by
  have d1 := hF.1
  have d32 := hF.2.1
  have L : ∀ (z n : Nat), 2 * D.1 - n < z → n ≤ 2 * D.1 → (∀ j, D.1 ≤ j → j < n → ¬ GR D j 0) → D.1 ≤ n → wpl_X11_kind_49 ν f nf (nI D.1) Q z (nI n) := by
    intro z
    induction z with
    | zero => intro n hk; exact absurd hk (Nat.not_lt_zero _)
    | succ z ih =>
      intro n hk hn hN hD
      refine ⟨fun c => ?_, fun c => ?_⟩
      · rw [show (2 : Int32) = nI 2 from rfl, s_mul, nI_leI (by omega) (by omega)] at c
        exact h0 (fun ⟨j, j1, j2, g⟩ => hN j j1 (Nat.lt_of_lt_of_le j2 c) g)
      rw [show (2 : Int32) = nI 2 from rfl, s_mul, nI_leI (by omega) (by omega)] at c
      refine rr_isReached hF (by omega) (fun w => ⟨fun q => absurd q (by decide), fun _ => h1 ⟨n, hD, Nat.lt_of_not_le c, w⟩⟩) (fun w => ⟨fun _ => ?_, fun q => absurd rfl q⟩)
      rw [nI_1]
      exact ih (n + 1) (by omega) (by omega) (fun j j1 j2 => by
        by_cases e : j = n
        · rw [e]; exact w
        · exact hN j j1 (Nat.lt_of_le_of_ne (Nat.le_of_lt_succ j2) e)) (by omega)
  exact ⟨_, L (2 * D.1 + 1) D.1 (by omega) (by omega) (fun j j1 j2 => absurd j1 (Nat.not_le.mpr j2)) (Nat.le_refl _)⟩
theorem rr_kind (h : RSt ν S a r k t) (hv : AVs S) (hok : ∀ m D, m < 4 → a1 = nI m → LSM (S m) = some D → ∀ ν9, RSt ν9 S a r k 0 → Q (KDV D) ν9) (h1 : ¬ M1 a1 → ∀ b ν9, RSt ν9 S a r k 1 → Q b ν9) (h3 : ∀ m, m < 4 → a1 = nI m → LSM (S m) = none → ∀ b ν9, RSt ν9 S a r k 2 → Q b ν9) : wp_X11_kind ν a1 Q := by
  refine rr_one (fun m hm em => th_ok ⟨fun _ => ?_, fun q => absurd rfl q⟩) (fun z => th_1 ⟨fun q => absurd q (by decide), fun _ => h1 z _ _ (h.thr 1)⟩)
  have h0 := h.thr 0
  have hR := h0.1 m hm
  have vA := hv m hm
  have hok' := fun D => hok m D hm em
  have h3' := h3 m hm em
  rw [em]
  generalize hN : tms ν 0 7 0 = N at *
  refine rr_found0 hm hR vA (fun D nf g e F => ⟨(fun z => nomatch z), fun n25 f26 z => ⟨fun _ => ?_, fun q => absurd rfl q⟩⟩) (fun e => ⟨fun _ => ⟨fun q => absurd q (by decide), fun _ => h3' e _ _ (h0.thr 2)⟩, (fun _ _ z => nomatch z)⟩)
  cases z
  have d1 := F.1
  have d32 := F.2.1
  have g9 := hok' D e _ (h0.thr 0)
  rw [n4_div F, show (1 : Int32) = nI 1 from rfl, nI_eq (by omega) (by omega)]
  refine ⟨fun n1 => ?_, fun e1 => ⟨s_in (a := 3) (by have := F.2.2.2.1; omega) (by omega), ?_⟩⟩
  · rw [KDV, if_neg n1] at g9
    refine rr_kind49 F (fun w => ?_) (fun w => ?_)
    · rw [if_pos w] at g9; exact g9
    · rw [if_neg w] at g9; exact g9
  · rw [KDV, if_pos e1] at g9
    have e3 : g (3 : Int32).toNatClampNeg = bi (D.2.2 0) := F.2.2.2.2.2 0 (by omega)
    rw [e3]
    exact g9
theorem gs_kind (hP : HPP P) (h : SIM μ ν) (nv : Int64) : wp_X9_kind μ a1 (fun r μ9 => wp_X11_kind ν a1 (fun b ν9 => P 0 r.toInt64 μ9 b ν9)) (fun E μ9 => (E = IOBn ∧ wp_X11_kind ν a1 (fun b ν9 => P 1 nv μ9 b ν9)) ∨ (E = ISEn ∧ wp_X11_kind ν a1 (fun b ν9 => P 2 nv μ9 b ν9))) := by
  obtain ⟨S, a, r, k, t, hv, hc, hr⟩ := h
  refine ee_kind hc hv (fun m D hm e ev μ9 c9 => ?_) (fun z => Or.inl ⟨rfl, ?_⟩) (fun m hm e ev μ9 c9 => Or.inr ⟨rfl, ?_⟩)
  · refine rr_kind hr hv (fun n D' hn e' ev' ν9 r9 => ?_) (fun q => absurd (e ▸ M1_nI hm) q) (fun n hn e' ev' b ν9 r9 => ?_)
    all_goals
      cases nI_injS e e' (by omega) (by omega)
      rw [ev] at ev'
      cases ev'
    exact ph_ok hP hv c9 r9
  · exact rr_kind hr hv (fun n D' hn e' ev' ν9 r9 => absurd (e' ▸ M1_nI hn) z) (fun _ b ν9 r9 => ph_x hP hv hc r9 (by decide)) (fun n hn e' ev' b ν9 r9 => absurd (e' ▸ M1_nI hn) z)
  · refine rr_kind hr hv (fun n D' hn e' ev' ν9 r9 => ?_) (fun q => absurd (e ▸ M1_nI hm) q) (fun n hn e' ev' b ν9 r9 => ph_x hP hv c9 r9 (by decide))
    cases nI_injS e e' (by omega) (by omega)
    rw [ev] at ev'
    cases ev'
end SIMK
end
/-! part 9say.sim8 -/
section
section SIMP
variable {μ ν μ0 : TMem} {k : Nat} {D : DF} {Q : Int32 → TMem → Prop} {Qv : TMem → Prop} {Qi : Int32 → Prop}
/-- whether two are told apart yet -/
def mb (μ : TMem) (i j : Nat) : Bool := (nn (μ 28 i)).testBit j
def LDU (D : DF) (μ : TMem) (i j : Nat) : Prop := ∃ s, s < 3 ∧ mb μ (D.2.1 (3 * i + s)) (D.2.1 (3 * j + s)) = true
/-- told apart rightly, each way -/
def UOK (D : DF) (μ : TMem) : Prop := (∀ i j, i < D.1 → j < D.1 → mb μ i j = mb μ j i) ∧ ∀ i j, i < D.1 → j < D.1 → mb μ i j = true → PL D i ≠ PL D j
theorem e_leadU {a b : Nat} (hk : kd k = 5) (h : HP μ k D) (ha : a < D.1) (hb : b < D.1) (h1 : LDU D μ a b → Qi 1) (h0 : ¬ LDU D μ a b → Qi 0) : wp_X1_isLeadingToUnlike k μ (nI a) (nI b) Qi := by
  have q := (kd5 hk).2
  obtain ⟨b1, b2, b3, b4, b5, b6⟩ := h
  have L : ∀ (nf s : Nat), 3 - s < nf → s ≤ 3 → (∀ i, i < s → mb μ (D.2.1 (3 * a + i)) (D.2.1 (3 * b + i)) = false) → wpl_X1_isLeadingToUnlike_3 k μ (nI a) (nI b) Qi nf (nI s) := by
    intro nf
    induction nf with
    | zero => intro s hk; exact absurd hk (Nat.not_lt_zero _)
    | succ nf ih =>
      intro s hk' hs hN
      refine ⟨fun c => ?_, fun c => ?_⟩
      · rw [show (3 : Int32) = nI 3 from rfl, nI_leI (by omega) (by omega)] at c
        exact h0 (fun ⟨i, hi, g⟩ => by rw [hN i (by omega)] at g; cases g)
      rw [show (3 : Int32) = nI 3 from rfl, nI_leI (by omega) (by omega)] at c
      refine e_atN (by omega) ?_
      have da := b3 (3 * a + s) (by omega)
      have db := b3 (3 * b + s) (by omega)
      rw [b5 _ (by omega)]
      refine e_row (k := 27) (show _ < 32 by omega) (e_atN (by omega) ?_)
      rw [b5 _ (by omega)]
      refine e_isIn (by omega) ⟨fun z => ?_, fun z => ?_⟩
      · rw [bi_0] at z
        rw [nI_1]
        refine ih (s + 1) (by omega) (by omega) (fun i hi => ?_)
        by_cases e : i = s
        · rw [e]; exact z
        · exact hN i (by omega)
      · rw [bi_0] at z
        exact h1 ⟨s, by omega, by simpa [mb] using z⟩
  have g := L 4 0 (by omega) (Nat.zero_le _) (fun i hi => absurd hi (Nat.not_lt_zero _))
  rw [nI_0] at g
  exact ⟨_, g⟩
/-- where a pass stands -/
def TFI (D : DF) (μ0 : TMem) (a b : Nat) (v : Int32) (μ1 : TMem) : Prop := UOK D μ1 ∧ (∀ i j, i < D.1 → mb μ0 i j = true → mb μ1 i j = true) ∧ (∀ i j, i < D.1 → j < i → (i < a ∨ (i = a ∧ j < b)) → LDU D μ0 i j → mb μ1 i j = true) ∧ (v = 0 → ∀ i j, i < D.1 → j < D.1 → mb μ1 i j = mb μ0 i j) ∧ (∀ q, q ≠ 28 → μ1 q = μ0 q) ∧ isB v
theorem TFI.up {a b a' b' : Nat} {v : Int32} {μ1 : TMem} (h : TFI D μ0 a b v μ1) (hx : ∀ i j, i < D.1 → j < i → (i < a' ∨ (i = a' ∧ j < b')) → (i < a ∨ (i = a ∧ j < b)) ∨ (LDU D μ0 i j → mb μ1 i j = true)) : TFI D μ0 a' b' v μ1 := by
  obtain ⟨h1, h2, h3, h4, h5, h6⟩ := h
  exact ⟨h1, h2, fun i j hi hj w l => (hx i j hi hj w).elim (fun z => h3 i j hi hj z l) (fun z => z l), h4, h5, h6⟩
theorem TFI.mono {a b i j : Nat} {v : Int32} {μ1 : TMem} (hT : ∀ j, j < 3 * D.1 → D.2.1 j < D.1) (h : TFI D μ0 a b v μ1) (hi : i < D.1) (hl : LDU D μ0 i j) : LDU D μ1 i j := by
  obtain ⟨s, hs, g⟩ := hl
  exact ⟨s, hs, h.2.1 _ _ (hT _ (by omega)) g⟩
theorem tf_set {a b x y : Nat} {μ1 : TMem} (hb : b < 32) (ha : a < 32) (hab : a ≠ b) : mb (tms (tms μ1 28 a (μ1 28 a ||| ((1 : Int32) <<< (nI b &&& 31)))) 28 b ((tms μ1 28 a (μ1 28 a ||| ((1 : Int32) <<< (nI b &&& 31)))) 28 b ||| ((1 : Int32) <<< (nI a &&& 31)))) x y = (mb μ1 x y || (decide (x = a) && decide (b = y)) || (decide (x = b) && decide (a = y))) := by
  unfold mb
  by_cases e1 : x = b
  · have e2 : x ≠ a := fun z => hab (z ▸ e1)
    rw [decide_eq_true e1, decide_eq_false e2, Bool.false_and, Bool.or_false, Bool.true_and, e1, tms_eq, upd_at, tms_eq, upd_ne (by omega), nn_or, nn_two _ ha, s_or2]
  · rw [decide_eq_false e1, Bool.false_and, Bool.or_false, tms_eq, upd_ne e1]
    by_cases e2 : x = a
    · rw [decide_eq_true e2, Bool.true_and, e2, tms_eq, upd_at, nn_or, nn_two _ hb, s_or2]
    · rw [decide_eq_false e2, Bool.false_and, Bool.or_false, tms_eq, upd_ne e2]
theorem e_tellFurther (hk : kd k = 5) (h : HP μ k D) (hU : UOK D μ) (hQ : ∀ (v : Int32) (μ9 : TMem), TFI D μ D.1 0 v μ9 → Q v μ9) : wp_X1_tellFurther k μ Q := by
  have q := (kd5 hk)
  have hP := h
  obtain ⟨b1, b2, b3, b4, b5, b6⟩ := h
  have same : ∀ {μ1 : TMem}, (∀ q, q ≠ 28 → μ1 q = μ q) → HP μ1 k D := fun hf => hP.same (hf _ (by omega)) (hf _ (by omega))
  have L15 : ∀ (a : Nat) (K : Int32 → TMem → Prop), a < D.1 → (∀ v μ1, TFI D μ (a + 1) 0 v μ1 → K v μ1) → ∀ (nf b : Nat) (v : Int32) (μ1 : TMem), a - b < nf → b ≤ a → TFI D μ a b v μ1 → wpl_X1_tellFurther_15 k (nI a) K nf (nI b) v μ1 := by
    intro a K ha hK nf
    induction nf with
    | zero => intro b v μ1 hk; exact absurd hk (Nat.not_lt_zero _)
    | succ nf ih =>
      intro b v μ1 hk' hb hI
      refine ⟨fun c => ?_, fun c => ?_⟩
      · rw [nI_leI (by omega) (by omega)] at c
        exact hK v μ1 (hI.up (fun i j hi hj w => Or.inl (by omega)))
      rw [nI_leI (by omega) (by omega)] at c
      have hba : b < a := by omega
      refine e_row (k := 27) (show _ < 32 by omega) (e_isIn (by omega) ⟨fun z => ?_, fun z => ?_⟩)
      · rw [bi_0] at z
        rw [nI_1]
        refine ih (b + 1) v μ1 (by omega) (by omega) (hI.up (fun i j hi hj w => ?_))
        by_cases e : i = a ∧ j = b
        · exact Or.inr (fun _ => by rw [e.1, e.2]; simpa [mb] using z)
        · exact Or.inl (by omega)
      · rw [bi_0] at z
        have z' : mb μ1 a b = false := z
        refine e_leadU hk (same hI.2.2.2.2.1) ha (by omega) (fun l => ⟨fun w => absurd w (by decide), fun _ => ?_⟩) (fun l => ⟨fun _ => ?_, fun w => absurd rfl w⟩)
        · refine e_row (k := 27) (show _ < 32 by omega) (e_rowput (k := 27) (show _ < 32 by omega) (e_row (k := 27) (show _ < 32 by omega) (e_rowput (k := 27) (show _ < 32 by omega) ?_)))
          have set := fun x y => tf_set (a := a) (b := b) (x := x) (y := y) (μ1 := μ1) (by omega) (by omega) (by omega)
          have fr : ∀ q, q ≠ 28 → (tms (tms μ1 28 a (μ1 28 a ||| ((1 : Int32) <<< (nI b &&& 31)))) 28 b ((tms μ1 28 a (μ1 28 a ||| ((1 : Int32) <<< (nI b &&& 31)))) 28 b ||| ((1 : Int32) <<< (nI a &&& 31)))) q = μ1 q := fun q hq => by rw [tms_ne hq, tms_ne hq]
          rw [nI_1]
          generalize tms (tms μ1 28 a (μ1 28 a ||| ((1 : Int32) <<< (nI b &&& 31)))) 28 b ((tms μ1 28 a (μ1 28 a ||| ((1 : Int32) <<< (nI b &&& 31)))) 28 b ||| ((1 : Int32) <<< (nI a &&& 31))) = μ2 at set fr ⊢
          obtain ⟨⟨hs, hd⟩, h2, h3, h4, h5, h6⟩ := hI
          have set' : ∀ x y, mb μ2 x y = true ↔ ((mb μ1 x y = true ∨ (x = a ∧ b = y)) ∨ (x = b ∧ a = y)) := fun x y => by rw [set, Bool.or_eq_true, Bool.or_eq_true, Bool.and_eq_true, Bool.and_eq_true, decide_eq_true_iff, decide_eq_true_iff, decide_eq_true_iff, decide_eq_true_iff]
          have ne : PL D a ≠ PL D b := fun e => by
            obtain ⟨s, hs3, g⟩ := l
            exact hd _ _ (b3 _ (by omega)) (b3 _ (by omega)) g (((PL_stb b3 b1 ha (by omega)).mp e).2.2 s hs3)
          refine ih (b + 1) 1 μ2 (by omega) (by omega) ⟨⟨fun i j hi hj => ?_, fun i j hi hj g => ?_⟩, fun i j hi g => (set' i j).mpr (Or.inl (Or.inl (h2 i j hi g))), fun i j hi hj w g => ?_, fun w => absurd w (by decide), fun q hq => (fr q hq).trans (h5 q hq), Or.inr rfl⟩
          · rw [Bool.eq_iff_iff, set', set', hs i j hi hj]
            constructor
            · rintro ((g | ⟨x, y⟩) | ⟨x, y⟩)
              · exact Or.inl (Or.inl g)
              · exact Or.inr ⟨y.symm, x.symm⟩
              · exact Or.inl (Or.inr ⟨y.symm, x.symm⟩)
            · rintro ((g | ⟨x, y⟩) | ⟨x, y⟩)
              · exact Or.inl (Or.inl g)
              · exact Or.inr ⟨y.symm, x.symm⟩
              · exact Or.inl (Or.inr ⟨y.symm, x.symm⟩)
          · rcases (set' i j).mp g with (g | ⟨x, y⟩) | ⟨x, y⟩
            · exact hd i j hi hj g
            · rw [x, ← y]; exact ne
            · rw [x, ← y]; exact ne.symm
          · by_cases e : i = a ∧ j = b
            · exact (set' i j).mpr (Or.inl (Or.inr ⟨e.1, e.2.symm⟩))
            · exact (set' i j).mpr (Or.inl (Or.inl (h3 i j hi hj (by omega) g)))
        · rw [nI_1]
          refine ih (b + 1) v μ1 (by omega) (by omega) (hI.up (fun i j hi hj w => ?_))
          by_cases e : i = a ∧ j = b
          · exact Or.inr (fun l0 => by rw [e.1, e.2] at l0; exact absurd (hI.mono b3 ha l0) l)
          · exact Or.inl (by omega)
  have L4 : ∀ (nf a : Nat) (v : Int32) (μ1 : TMem), D.1 - a < nf → a ≤ D.1 → TFI D μ a 0 v μ1 → wpl_X1_tellFurther_4 k Q nf (nI a) v μ1 := by
    intro nf
    induction nf with
    | zero => intro a v μ1 hk; exact absurd hk (Nat.not_lt_zero _)
    | succ nf ih =>
      intro a v μ1 hk' ha hI
      have hP1 := same hI.2.2.2.2.1
      refine ⟨fun c => ?_, fun c => ?_⟩
      · rw [hP1.2.2.2.1, nI_leI (by omega) (by omega)] at c
        rw [show a = D.1 by omega] at hI
        exact ⟨hI.2.2.2.2.2, hQ v μ1 hI⟩
      rw [hP1.2.2.2.1, nI_leI (by omega) (by omega)] at c
      have g := L15 a (fun u31 μ32 => wpl_X1_tellFurther_4 k Q nf (nI a + (1 : Int32)) u31 μ32) (by omega) (fun v' μ2 h2 => by rw [nI_1]; exact ih (a + 1) v' μ2 (by omega) (by omega) h2) (a + 1) 0 v μ1 (by omega) (Nat.zero_le _) hI
      rw [nI_0] at g
      exact ⟨_, g⟩
  have g := L4 (D.1 + 1) 0 0 μ (by omega) (Nat.zero_le _) ⟨hU, fun i j _ g => g, fun i j _ _ w => absurd w (by omega), fun _ i j _ _ => rfl, fun _ _ => rfl, Or.inl rfl⟩
  rw [nI_0] at g
  exact ⟨_, g⟩
/-- all that a parting tells apart is told apart -/
def DIF (D : DF) (μ : TMem) (t : Nat) : Prop := ∀ i j, i < D.1 → j < D.1 → PRT D t i ≠ PRT D t j → mb μ i j = true
theorem TFI.dif {v : Int32} {μ9 : TMem} (hT : ∀ j, j < 3 * D.1 → D.2.1 j < D.1) (h : TFI D μ D.1 0 v μ9) {t : Nat} (hD : DIF D μ t) : DIF D μ9 (t + 1) := by
  obtain ⟨⟨hs, hd⟩, h2, h3, h4, h5, h6⟩ := h
  have key : ∀ i j, i < D.1 → j < i → PRT D (t + 1) i ≠ PRT D (t + 1) j → mb μ9 i j = true := fun i j hi hj ne => by
    by_cases e : PRT D t i = PRT D t j
    · have hx : ∃ s, s < 3 ∧ PRT D t (D.2.1 (3 * i + s)) ≠ PRT D t (D.2.1 (3 * j + s)) := Classical.byContradiction (fun no => ne (PRT_s.mpr ⟨e, fun s hs => Classical.byContradiction (fun w => no ⟨s, hs, w⟩)⟩))
      obtain ⟨s, hs3, w⟩ := hx
      exact h3 i j hi hj (Or.inl hi) ⟨s, hs3, hD _ _ (hT _ (by omega)) (hT _ (by omega)) w⟩
    · exact h2 i j hi (hD i j hi (by omega) e)
  intro i j hi hj ne
  rcases Nat.lt_trichotomy j i with z | z | z
  · exact key i j hi z ne
  · rw [z] at ne; exact absurd rfl ne
  · rw [hs i j hi hj]; exact key j i hj z ne.symm
theorem DIF.all {μ9 : TMem} {μ1 : TMem} (hT : ∀ j, j < 3 * D.1 → D.2.1 j < D.1) (h : TFI D μ1 D.1 0 0 μ9) {t : Nat} (hD : DIF D μ1 t) : ∀ n, DIF D μ9 (t + n) := by
  have h4 := h.2.2.2.1 rfl
  intro n
  induction n with
  | zero => exact fun i j hi hj ne => by rw [h4 i j hi hj]; exact hD i j hi hj ne
  | succ n ih =>
    have : DIF D μ1 (t + n) := fun i j hi hj ne => by rw [← h4 i j hi hj]; exact ih i j hi hj ne
    exact h.dif hT this
theorem e_otherGoal {a : Nat} (h : HP μ k D) (ha : a < D.1) (hQ : ∀ r : Int32, (∀ j, j < D.1 → ((nn r).testBit j = true ↔ D.2.2 j ≠ D.2.2 a)) → Qi r) : wp_X1_ofOtherGoalness k μ (nI a) Qi := by
  have d32 := h.2.1
  have L : ∀ (nf b : Nat) (v : Int32), D.1 - b < nf → b ≤ D.1 → (∀ j, j < b → ((nn v).testBit j = true ↔ D.2.2 j ≠ D.2.2 a)) → (∀ j, b ≤ j → (nn v).testBit j = false) → wpl_X1_ofOtherGoalness_4 k μ (nI a) Qi nf (nI b) v := by
    intro nf
    induction nf with
    | zero => intro b v hk; exact absurd hk (Nat.not_lt_zero _)
    | succ nf ih =>
      intro b v hk' hb h1 h2
      refine ⟨fun c => ?_, fun c => ?_⟩
      · rw [h.2.2.2.1, nI_leI (by omega) (by omega)] at c
        exact hQ v (fun j hj => h1 j (by omega))
      rw [h.2.2.2.1, nI_leI (by omega) (by omega)] at c
      refine e_goal h (by omega) (e_goal h ha ⟨fun z => ?_, fun z => ?_⟩)
      · rw [bi_inj] at z
        rw [nI_1]
        refine ih (b + 1) v (by omega) (by omega) (fun j hj => ?_) (fun j hj => h2 j (by omega))
        by_cases e : j = b
        · rw [e, h2 b (Nat.le_refl _), z]
          exact ⟨fun w => (by cases w), fun w => absurd rfl w⟩
        · exact h1 j (by omega)
      · rw [bi_inj] at z
        rw [nI_1]
        refine ih (b + 1) _ (by omega) (by omega) (fun j hj => ?_) (fun j hj => ?_)
        · rw [nn_or, nn_two _ (by omega), s_or2, Bool.or_eq_true, decide_eq_true_iff]
          by_cases e : j = b
          · rw [e]; exact ⟨fun _ => z, fun _ => Or.inr rfl⟩
          · rw [h1 j (by omega)]
            exact ⟨fun w => w.elim id (fun y => absurd y.symm e), Or.inl⟩
        · rw [nn_or, nn_two _ (by omega), s_or2, h2 j (by omega), decide_eq_false (by omega)]; rfl
  have g := L (D.1 + 1) 0 0 (by omega) (Nat.zero_le _) (fun j hj => absurd hj (Nat.not_lt_zero _)) (fun j _ => by rw [nn_0, Nat.zero_testBit])
  rw [nI_0] at g
  exact ⟨_, g⟩
theorem e_firstNot {a : Nat} (ha : a < D.1) (h32 : D.1 ≤ 32) (hm : ∀ j, j < D.1 → (mb μ a j = true ↔ PL D a ≠ PL D j)) (hQ : Qi (nI (PL D a))) : wp_X1_firstNotUnlike μ (nI a) Qi := by
  have hle := PRT_le (D := D) D.1 a
  have L : ∀ (nf b : Nat), a - b < nf → b ≤ PL D a → wpl_X1_firstNotUnlike_2 μ (nI a) Qi nf (nI b) := by
    intro nf
    induction nf with
    | zero => intro b hk; exact absurd hk (Nat.not_lt_zero _)
    | succ nf ih =>
      intro b hk' hb
      have hle' : PL D a ≤ a := hle
      refine ⟨fun c => ?_, fun c => ?_⟩
      · rw [nI_leI (by omega) (by omega)] at c
        rw [show PL D a = a by omega] at hQ
        exact hQ
      rw [nI_leI (by omega) (by omega)] at c
      refine e_row (k := 27) (show _ < 32 by omega) (e_isIn (by omega) ⟨fun z => ?_, fun z => ?_⟩)
      · rw [bi_0] at z
        have ne : b ≠ PL D a := fun e => by
          have g : mb μ a b = true := by simpa [mb] using z
          rw [hm b (by omega), e, PL_id] at g
          exact g rfl
        rw [nI_1]
        exact ih (b + 1) (by omega) (by omega)
      · rw [bi_0] at z
        have e : PL D a = PL D b := Classical.byContradiction (fun w => by
          have g := (hm b (by omega)).mpr w
          rw [show mb μ a b = false from z] at g
          cases g)
        have hb2 : PL D b ≤ b := PRT_le _ _
        rw [show PL D a = b by omega] at hQ
        exact hQ
  have g := L (a + 1) 0 (by omega) (Nat.zero_le _)
  rw [nI_0] at g
  exact ⟨_, g⟩
theorem e_findByPairs (hk : kd k = 5) (h : HP μ k D) (hQ : ∀ μ9 : TMem, (∀ i, i < D.1 → μ9 24 i = nI (PL D i)) → (∀ q, q ≠ 24 → q ≠ 28 → μ9 q = μ q) → Qv μ9) : wp_X1_findByPairs k μ Qv := by
  have q := (kd5 hk)
  have b1 := h.1
  have b2 := h.2.1
  have b3 := h.2.2.1
  have same : ∀ {μ1 : TMem}, (∀ q, q ≠ 24 → q ≠ 28 → μ1 q = μ q) → HP μ1 k D := fun hf => h.same (hf _ (by omega) (by omega)) (hf _ (by omega) (by omega))
  have same8 : ∀ {μ1 : TMem}, (∀ q, q ≠ 28 → μ1 q = μ q) → HP μ1 k D := fun hf => same (fun q _ q2 => hf q q2)
  -- the end: each one's part
  have L58 : ∀ (nf i : Nat) (μ1 : TMem), D.1 - i < nf → i ≤ D.1 → (∀ a j, a < D.1 → j < D.1 → (mb μ1 a j = true ↔ PL D a ≠ PL D j)) → (∀ j, j < i → μ1 24 j = nI (PL D j)) → (∀ q, q ≠ 24 → q ≠ 28 → μ1 q = μ q) → wpl_X1_findByPairs_58 k Qv nf (nI i) μ1 := by
    intro nf
    induction nf with
    | zero => intro i μ1 hk; exact absurd hk (Nat.not_lt_zero _)
    | succ nf ih =>
      intro i μ1 hk' hi hm hp hf
      have hP1 := same hf
      refine ⟨fun c => ?_, fun c => ?_⟩
      · rw [hP1.2.2.2.1, nI_leI (by omega) (by omega)] at c
        exact hQ μ1 (fun j hj => hp j (by omega)) hf
      rw [hP1.2.2.2.1, nI_leI (by omega) (by omega)] at c
      refine e_firstNot (by omega) b2 (hm i · (by omega)) (e_rowput (k := 23) (show _ < 32 by omega) ?_)
      rw [nI_1]
      refine ih (i + 1) _ (by omega) (by omega) (fun a j ha hj => ?_) (fun j hj => ?_) (fun q q1 q2 => by rw [tms_ne q1]; exact hf q q1 q2)
      · rw [mb, tms_ne (by decide)]; exact hm a j ha hj
      · rw [tms_eq]
        by_cases e : j = i
        · rw [e, upd_at]
        · rw [upd_ne e]; exact hp j (by omega)
  have fin : ∀ (μ1 : TMem), UOK D μ1 → (∃ t, D.1 ≤ t ∧ DIF D μ1 t) → (∀ q, q ≠ 28 → μ1 q = μ q) → ∃ n20x, wpl_X1_findByPairs_58 k Qv n20x (0 : Int32) μ1 := fun μ1 hU ⟨t, ht, hD⟩ hf => by
    have g := L58 (D.1 + 1) 0 μ1 (by omega) (Nat.zero_le _) (fun a j ha hj => ⟨fun g => hU.2 a j ha hj g, fun ne => hD a j ha hj (fun e => ne (by
      rw [PL_of b3 b1 (Or.inl ht) a ha, PL_of b3 b1 (Or.inl ht) j hj] at e
      exact e))⟩) (fun j hj => absurd hj (Nat.not_lt_zero _)) (fun q _ q2 => hf q q2)
    rw [nI_0] at g
    exact ⟨_, g⟩
  -- the passes
  have L33 : ∀ (nf n : Nat) (v : Int32) (μ1 : TMem), 1024 - n < nf → n ≤ 1024 → UOK D μ1 → (v = 0 → ∃ t, D.1 ≤ t ∧ DIF D μ1 t) → (∃ t, n ≤ t ∧ DIF D μ1 t) → (∀ q, q ≠ 28 → μ1 q = μ q) → wpl_X1_findByPairs_33 k (fun (μ20 : TMem) => ∃ n20x, wpl_X1_findByPairs_58 k Qv n20x (0 : Int32) μ20) nf (nI n) v μ1 := by
    intro nf
    induction nf with
    | zero => intro n v μ1 hk; exact absurd hk (Nat.not_lt_zero _)
    | succ nf ih =>
      intro n v μ1 hk' hn hU h0 hD hf
      refine ⟨fun c => ?_, fun c => ⟨fun z => fin μ1 hU (h0 z) hf, fun z => ?_⟩⟩
      · rw [show (1024 : Int32) = nI 1024 from rfl, nI_leI (by omega) (by omega)] at c
        obtain ⟨t, ht, hD⟩ := hD
        exact fin μ1 hU ⟨t, by omega, hD⟩ hf
      rw [show (1024 : Int32) = nI 1024 from rfl, nI_leI (by omega) (by omega)] at c
      obtain ⟨t, ht, hD⟩ := hD
      refine e_tellFurther hk (same8 hf) hU (fun v' μ9 hI => ?_)
      rw [nI_1]
      refine ih (n + 1) v' μ9 (by omega) (by omega) hI.1 (fun e => ?_) ⟨t + 1, by omega, hI.dif b3 hD⟩ (fun q hq => (hI.2.2.2.2.1 q hq).trans (hf q hq))
      rw [e] at hI
      exact ⟨t + D.1, by omega, DIF.all b3 hI hD D.1⟩
  -- the beginning
  have L2 : ∀ (nf i : Nat) (μ1 : TMem), D.1 - i < nf → i ≤ D.1 → (∀ a j, a < i → j < D.1 → (mb μ1 a j = true ↔ D.2.2 j ≠ D.2.2 a)) → (∀ q, q ≠ 28 → μ1 q = μ q) → wpl_X1_findByPairs_2 k (fun (μ10 : TMem) => ∃ n10x, wpl_X1_findByPairs_33 k (fun (μ20 : TMem) => ∃ n20x, wpl_X1_findByPairs_58 k Qv n20x (0 : Int32) μ20) n10x (0 : Int32) (1 : Int32) μ10) nf (nI i) μ1 := by
    intro nf
    induction nf with
    | zero => intro i μ1 hk; exact absurd hk (Nat.not_lt_zero _)
    | succ nf ih =>
      intro i μ1 hk' hi hm hf
      have hP1 := same8 hf
      refine ⟨fun c => ?_, fun c => ?_⟩
      · rw [hP1.2.2.2.1, nI_leI (by omega) (by omega)] at c
        have hm' : ∀ a j, a < D.1 → j < D.1 → (mb μ1 a j = true ↔ D.2.2 j ≠ D.2.2 a) := fun a j ha hj => hm a j (by omega) hj
        have g := L33 1025 0 1 μ1 (by omega) (by omega) ⟨fun a j ha hj => ?_, fun a j ha hj g e => ?_⟩ (fun w => absurd w (by decide)) ⟨0, Nat.le_refl _, fun a j ha hj ne => (hm' a j ha hj).mpr (fun e => ne (PRT_0.mpr e.symm))⟩ hf
        · rw [nI_0] at g
          exact ⟨_, g⟩
        · rw [Bool.eq_iff_iff, hm' a j ha hj, hm' j a hj ha]
          exact ⟨Ne.symm, Ne.symm⟩
        · exact (hm' a j ha hj).mp g ((PL_stb b3 b1 ha hj).mp e).1.symm
      rw [hP1.2.2.2.1, nI_leI (by omega) (by omega)] at c
      refine e_otherGoal hP1 (by omega) (fun r hr => e_rowput (k := 27) (show _ < 32 by omega) ?_)
      rw [nI_1]
      refine ih (i + 1) _ (by omega) (by omega) (fun a j ha hj => ?_) (fun q hq => by rw [tms_ne hq]; exact hf q hq)
      rw [mb, tms_eq]
      by_cases e : a = i
      · rw [e, upd_at]; exact hr j hj
      · rw [upd_ne e]; exact hm a j (by omega) hj
  have g := L2 (D.1 + 1) 0 μ (by omega) (Nat.zero_le _) (fun a j ha => absurd ha (Nat.not_lt_zero _)) (fun _ _ => rfl)
  rw [nI_0] at g
  exact ⟨_, g⟩
end SIMP
end
/-! part 9saz.sim9 -/
section
section SIMZ
variable {μ ν : TMem} {S : Nat → AM} {a r k t : Int32} {a1 a2 a3 a4 a5 : Int32} {m m' : Nat} {A B : AM} {D D1 D2 : DF} {Q : Int32 → TMem → Prop} {X : String → TMem → Prop} {Qi : Int32 → Prop} {Qo : Option AI → Prop} {P : PP} {n : Nat}
/-- made by turning round twice -/
def TWD (A : AM) : Option DF := (OWM (aT A)).bind fun D => OWM (aT (aP D))
/-- what is made, each way -/
def FNV (A : AM) (h : Int32) : Option DF := if h = 3 then OWM A else if h = 2 then TWD A else LSM A
theorem e_turning {k1 k2 : Nat} (hk1 : kd k1 = 2) (h31 : k1 ≠ 31) (hk : kd k2 = 5) (hM : HM μ k1 A) (h32 : A.1 ≤ 32) (ht : 3 * A.1 ≤ tl (k1 + 1)) (h1 : ∀ (D : DF) (μ9 : TMem), TWD A = some D → HP μ9 k2 D → (∀ q, q ≠ 17 → q ≠ 29 → q ≠ 30 → q ≠ 31 → q ≠ 32 → q ≠ 33 → q ≠ 34 → q ≠ k2 → q ≠ k2 + 1 → μ9 q = μ q) → Q 1 μ9) (h0 : TWD A = none → ∀ μ9, (∀ q, q ≠ 17 → q ≠ 29 → q ≠ 30 → q ≠ 31 → q ≠ 32 → q ≠ 33 → q ≠ 34 → q ≠ k2 → q ≠ k2 + 1 → μ9 q = μ q) → Q 0 μ9) : wp_X3_makeByTurning k1 k2 μ Q := by
  have t32 : tl 32 = 96 := rfl
  have t30 : tl 30 = 96 := rfl
  refine e_becomeRound (k0 := 31) rfl hk1 (fun e => h31 e.symm) hM h32 (show _ ≤ 96 by omega) ht (fun μ1 m1 f1 => ?_)
  refine e_oneWayA (k1 := 31) (k2 := 33) rfl rfl m1 h32 (show 3 * A.1 ≤ 96 by omega) (fun D μ2 e2 p2 f2 => ⟨fun _ => ?_, fun q => absurd q (by decide)⟩) (fun e2 μ2 f2 => ⟨fun q => absurd rfl q, fun _ => h0 (by rw [TWD, e2]; rfl) μ2 (fun q q1 q2 q3 q4 q5 q6 q7 q8 q9 => (f2 q q1 q6 q7).trans (f1 q q4 q5))⟩)
  have d32 := p2.2.1
  refine e_becomePlain (k0 := 29) (k1 := 33) rfl rfl p2 (show _ ≤ 96 by omega) (fun μ5 m5 f5 => ?_)
  refine e_becomeRound (k0 := 31) (k1 := 29) rfl rfl (by decide) m5 d32 (show 3 * D.1 ≤ 96 by omega) (show 3 * D.1 ≤ 96 by omega) (fun μ6 m6 f6 => ?_)
  have fr : ∀ {μ9 : TMem}, F17 k2 μ6 μ9 → ∀ q, q ≠ 17 → q ≠ 29 → q ≠ 30 → q ≠ 31 → q ≠ 32 → q ≠ 33 → q ≠ 34 → q ≠ k2 → q ≠ k2 + 1 → μ9 q = μ q := fun f9 q q1 q2 q3 q4 q5 q6 q7 q8 q9 => ((((f9 q q1 q8 q9).trans (f6 q q4 q5)).trans (f5 q q2 q3)).trans (f2 q q1 q6 q7)).trans (f1 q q4 q5)
  exact e_oneWayA (k1 := 31) rfl hk m6 d32 (show 3 * D.1 ≤ 96 by omega) (fun D' μ9 e9 p9 f9 => ⟨Or.inr rfl, h1 D' μ9 (by rw [TWD, e2]; exact e9) p9 (fr f9)⟩) (fun e9 μ9 f9 => ⟨Or.inl rfl, h0 (by rw [TWD, e2]; exact e9) μ9 (fr f9)⟩)
/-- what making leaves as it was, any way -/
def FH (k2 : Nat) (μ μ9 : TMem) : Prop := ∀ q, q ≠ 17 → q ≠ 19 → q ≠ 21 → q ≠ 24 → q ≠ 26 → q ≠ 28 → q ≠ 29 → q ≠ 30 → q ≠ 31 → q ≠ 32 → q ≠ 33 → q ≠ 34 → q ≠ k2 → q ≠ k2 + 1 → μ9 q = μ q
theorem FH.zf {k2 : Nat} {μ9 : TMem} (hk : kd k2 = 5) (h : FH k2 μ μ9) : ZF μ μ9 := by
  have q := kd5 hk
  refine ⟨fun k hk => h k (by omega) (by omega) (by omega) (by omega) (by omega) (by omega) (by omega) (by omega) (by omega) (by omega) (by omega) (by omega) (by omega) (by omega), fun g i => ?_⟩
  rw [h 43 (by omega) (by omega) (by omega) (by omega) (by omega) (by omega) (by omega) (by omega) (by omega) (by omega) (by omega) (by omega) (by omega) (by omega)]
  exact g i
theorem e_makeByH {k1 k2 : Nat} {b : Int32} (hk1 : kd k1 = 2) (h31 : k1 ≠ 31) (hk : kd k2 = 5) (h33 : k2 ≠ 33) (hM : HM μ k1 A) (h32 : A.1 ≤ 32) (ht : 3 * A.1 ≤ tl (k1 + 1)) (h1 : ∀ (D : DF) (μ9 : TMem), FNV A b = some D → HP μ9 k2 D → FH k2 μ μ9 → Q 1 μ9) (h0 : FNV A b = none → ∀ μ9, FH k2 μ μ9 → Q 0 μ9) : wp_X3_makeBy k1 k2 μ b Q := by
  refine ⟨fun n3 => ⟨fun n2 => ?_, fun e2 => ?_⟩, fun e3 => ?_⟩
  · have ea : FNV A b = LSM A := by rw [FNV, if_neg n3, if_neg n2]
    rw [ea] at h1 h0
    refine e_oneWayA (k2 := 33) hk1 rfl hM h32 ht (fun D μ3 e p f => ⟨fun _ J hJ => ?_, fun z => absurd z (by decide)⟩) (fun e μ9 f => ⟨fun z => absurd rfl z, fun _ => h0 (by rw [LSM, e]; rfl) μ9 (fun q q1 q2 q3 q4 q5 q6 q7 q8 q9 q10 q11 q12 q13 q14 => f q q1 q11 q12)⟩)
    have go : ∀ μ7 : TMem, (∀ i, i < D.1 → μ7 24 i = nI (PL D i)) → (∀ q, q ≠ 24 → q ≠ 26 → q ≠ 28 → μ7 q = μ3 q) → J μ7 := fun μ7 hp hf => hJ μ7 (e_makeGroups (k1 := 33) rfl hk (fun q => h33 q.symm) (p.same (hf 33 (by decide) (by decide) (by decide)) (hf 34 (by decide) (by decide) (by decide))) hp (fun D' μ9 hD hH hF => h1 D' μ9 (by rw [LSM, e]; exact hD) hH (fun q q1 q2 q3 q4 q5 q6 q7 q8 q9 q10 q11 q12 q13 q14 => ((hF q q2 q3 q4 q5 q13 q14).trans (hf q q4 q5 q6)).trans (f q q1 q11 q12))))
    exact ⟨fun _ => e_findByParting (k := 33) rfl p (fun μ7 hp hf => go μ7 hp (fun q q4 q5 _ => hf q q4 q5)), fun _ => e_findByPairs (k := 33) rfl p (fun μ7 hp hf => go μ7 hp (fun q q4 _ q6 => hf q q4 q6))⟩
  · have ea : FNV A b = TWD A := by rw [FNV, if_neg n3, if_pos e2]
    rw [ea] at h1 h0
    exact e_turning hk1 h31 hk hM h32 ht (fun D μ9 e p f => ⟨Or.inr rfl, h1 D μ9 e p (fun q q1 q2 q3 q4 q5 q6 q7 q8 q9 q10 q11 q12 q13 q14 => f q q1 q7 q8 q9 q10 q11 q12 q13 q14)⟩) (fun e μ9 f => ⟨Or.inl rfl, h0 e μ9 (fun q q1 q2 q3 q4 q5 q6 q7 q8 q9 q10 q11 q12 q13 q14 => f q q1 q7 q8 q9 q10 q11 q12 q13 q14)⟩)
  · have ea : FNV A b = OWM A := by rw [FNV, if_pos e3]
    rw [ea] at h1 h0
    exact e_oneWayA hk1 hk hM h32 ht (fun D μ9 e p f => ⟨Or.inr rfl, h1 D μ9 e p (fun q q1 q2 q3 q4 q5 q6 q7 q8 q9 q10 q11 q12 q13 q14 => f q q1 q13 q14)⟩) (fun e μ9 f => ⟨Or.inl rfl, h0 e μ9 (fun q q1 q2 q3 q4 q5 q6 q7 q8 q9 q10 q11 q12 q13 q14 => f q q1 q13 q14)⟩)
/-- turned round, the reference's way and the class's -/
theorem fX_aT {c : Nat → Nat} {d : Nat → Int32} {Y s : Nat} (hn : n ≤ 32) (hs : s < 3) (h : ∀ j, j < 3 * n → c j = nn (d j)) : fX n c true Y s = RC n (fun j => nn (if j < 3 * n then SRg d (j / 3) (j % 3) n else 0)) Y s := by
  refine s_ext (fun i => ?_)
  rw [fX, bitsN_bit, RC, RCg_bit, NX]
  have cell : ∀ f, f < n → nn (if 3 * f + s < 3 * n then SRg d ((3 * f + s) / 3) ((3 * f + s) % 3) n else 0) = nn (SRg d f s n) := fun f hf => by
    rw [if_pos (by omega), show (3 * f + s) / 3 = f by omega, show (3 * f + s) % 3 = s by omega]
  by_cases e : i < n
  · rw [decide_eq_true e, Bool.true_and]
    refine any_congr (fun f hf => ?_)
    rw [cell f hf, SRg_bit n hn, decide_eq_true e, Bool.true_and, cnX, ← h _ (by omega)]
    simp
  · rw [decide_eq_false e, Bool.false_and]
    refine (any_false (fun f hf => ?_)).symm
    rw [cell f hf, SRg_bit n hn, decide_eq_false e, Bool.false_and, Bool.and_false]
theorem OWX_aT {c : Nat → Nat} (h32 : A.1 ≤ 32) (h : ∀ j, j < 3 * A.1 → c j = nn (A.2.2.2 j)) : OWX A.1 c true (nn A.2.1) (nn A.2.2.1) = OWM (aT A) := by
  rw [OWX, OWM, OWD, EX, EX]
  show ((EXs 32 (fX A.1 c true) (fun _ => false) (3 * 32 + 1) [nn A.2.2.1] []).map _ : Option DF) = (EXs 32 (RC A.1 (fun j => nn (if j < 3 * A.1 then SRg A.2.2.2 (j / 3) (j % 3) A.1 else 0))) (fun _ => false) (3 * 32 + 1) [nn A.2.2.1] []).map _
  rw [EXs_congr (f := fX A.1 c true) (f' := RC A.1 (fun j => nn (if j < 3 * A.1 then SRg A.2.2.2 (j / 3) (j % 3) A.1 else 0))) (fun x s hs => fX_aT h32 hs h)]
  rfl
theorem rr_tt {nf : Nat} {f : Nat → Int32} {K : Int64 → (Nat → Int64) → Prop} (hF : HF nf f D) (h : ∀ (u : Int64) (g : Nat → Int64), ll u = nn (gmk D.2.2 D.1) → (∀ j, j < 3 * D.1 → ll (g j) = 2 ^ D.2.1 j) → K u g) : ∃ z, wpl_X11_turnedTwice_54 ν (3 * D.1) f nf (nI D.1) K z 0 0 (fun _ => 0) := by
  obtain ⟨b1, b2, b3, b4, b5, b6⟩ := hF
  have L63 : ∀ (x : Nat) (v24 : Int64) (v25 : Int32) (KK : (Nat → Int64) → Prop), x < D.1 → (∀ g : Nat → Int64, (∀ j, j < 3 * x + 3 → ll (g j) = 2 ^ D.2.1 j) → KK g) → ∀ (z s : Nat) (g : Nat → Int64), 3 - s < z → s ≤ 3 → (∀ j, j < 3 * x + s → ll (g j) = 2 ^ D.2.1 j) → wpl_X11_turnedTwice_63 ν (3 * D.1) f nf (nI x) v24 v25 KK z (nI s) g := by
    intro x v24 v25 KK hx hK z
    induction z with
    | zero => intro s g hk; exact absurd hk (Nat.not_lt_zero _)
    | succ z ih =>
      intro s g hk hs hg
      refine ⟨fun c => ?_, fun c => ?_⟩
      · rw [show (3 : Int32) = nI 3 from rfl, nI_leI (by omega) (by omega)] at c
        exact hK g (fun j hj => hg j (by omega))
      rw [show (3 : Int32) = nI 3 from rfl, nI_leI (by omega) (by omega)] at c
      have hd := b3 (3 * x + s) (by omega)
      rw [show (4 : Int32) = nI 4 from rfl, show (3 : Int32) = nI 3 from rfl, s_mul, s_mul, nI_add, nI_add, nI_clamp (by omega), nI_clamp (by omega), b5 x s hx (by omega), nI_1]
      refine ⟨s_in (by omega) (by omega), s_in (by omega) (by omega), ih (s + 1) _ (by omega) (by omega) (fun j hj => ?_)⟩
      by_cases e : j = 3 * x + s
      · rw [e, pk_uLs, ll_two _ (by omega)]
      · rw [pk_uLn e]; exact hg j (by omega)
  have L54 : ∀ (z x : Nat) (u : Int64) (g : Nat → Int64), D.1 - x < z → x ≤ D.1 → (∀ i, (ll u).testBit i = (decide (i < x) && D.2.2 i)) → (∀ j, j < 3 * x → ll (g j) = 2 ^ D.2.1 j) → wpl_X11_turnedTwice_54 ν (3 * D.1) f nf (nI D.1) K z (nI x) u g := by
    intro z
    induction z with
    | zero => intro x u g hk; exact absurd hk (Nat.not_lt_zero _)
    | succ z ih =>
      intro x u g hk hx hu hg
      refine ⟨fun c => ?_, fun c => ?_⟩
      · rw [nI_leI (by omega) (by omega)] at c
        have e : x = D.1 := by omega
        rw [e] at hu hg
        exact h u g (s_ext (fun i => by rw [hu, gmk_bit D.1 b2 i])) hg
      rw [nI_leI (by omega) (by omega)] at c
      have hx' : x < D.1 := by omega
      have g9 := L63 x u (nI D.1) (fun (f31 : Nat → Int64) => vp_in (((4 : Int32) * nI x) + (3 : Int32)) nf ∧ ((¬ (f (((4 : Int32) * nI x) + (3 : Int32)).toNatClampNeg) = (1 : Int32) → (wpl_X11_turnedTwice_54 ν (3 * D.1) f nf (nI D.1) K z (nI x + (1 : Int32)) u f31)) ∧ ((f (((4 : Int32) * nI x) + (3 : Int32)).toNatClampNeg) = (1 : Int32) → (wpl_X11_turnedTwice_54 ν (3 * D.1) f nf (nI D.1) K z (nI x + (1 : Int32)) (u ||| ((1 : Int64) <<< ((nI x).toInt64 &&& 63))) f31)))) hx' (fun g' hg' => by
        have p4 : (4 : Int32) * nI x + (3 : Int32) = nI (4 * x + 3) := by rw [show (4 : Int32) = nI 4 from rfl, show (3 : Int32) = nI 3 from rfl, s_mul, nI_add]
        show vp_in (((4 : Int32) * nI x) + (3 : Int32)) nf ∧ _
        rw [p4, nI_clamp (by omega), b6 x hx', nI_1]
        refine ⟨s_in (by omega) (by omega), fun q => ih (x + 1) u g' (by omega) (by omega) (fun i => ?_) (fun j hj => hg' j (by omega)), fun q => ih (x + 1) _ g' (by omega) (by omega) (fun i => ?_) (fun j hj => hg' j (by omega))⟩
        · rw [hu]
          by_cases e : i = x
          · have : D.2.2 x = false := by
              cases e9 : D.2.2 x with
              | false => rfl
              | true => rw [e9] at q; exact absurd rfl q
            rw [e, this, Bool.and_false, Bool.and_false]
          · rw [show decide (i < x + 1) = decide (i < x) from decide_eq_decide.mpr (by omega)]
        · rw [ll_bit (by omega), hu]
          have ht : D.2.2 x = true := by
            cases e9 : D.2.2 x with
            | true => rfl
            | false => rw [e9] at q; exact absurd q (by decide)
          by_cases e : i = x
          · rw [e, ht, decide_eq_true rfl, Bool.or_true, decide_eq_true (by omega)]; rfl
          · rw [decide_eq_false (show ¬ x = i from fun w => e w.symm), Bool.or_false, show decide (i < x + 1) = decide (i < x) from decide_eq_decide.mpr (by omega)]) 4 0 g (by omega) (by omega) (fun j hj => hg j (by omega))
      rw [nI_0] at g9
      exact ⟨_, g9⟩
  have g := L54 (D.1 + 1) 0 0 (fun _ => 0) (by omega) (Nat.zero_le _) (fun i => by rw [ll_0, Nat.zero_testBit, decide_eq_false (by omega)]; rfl) (fun j hj => absurd hj (by omega))
  rw [nI_0] at g
  exact ⟨_, g⟩
theorem rr_found2 (hm : m < 4) (hR : HR ν m A) (hv : AV A) (h1 : ∀ (D : DF) (nf : Nat) (g : Nat → Int32), TWD A = some D → HF nf g D → Qo (some (nf, g))) (h0 : TWD A = none → Qo none) : wp_X11_found ν (nI m) 2 Qo := by
  refine ⟨fun _ => ⟨fun z => absurd rfl z, fun _ => ?_⟩, fun z => absurd z (by decide)⟩
  obtain ⟨v1, v7, vs, vg, vc, vz⟩ := hv
  refine rr_arrowsAll hm hR (fun f hf => ⟨s_in hm (by omega), s_in hm (by omega), s_in hm (by omega), ?_⟩)
  rw [nI_clamp (by omega), hR.1, hR.2.1, hR.2.2.1]
  have q1 := p7 vs v7
  have q2 := p7 vg v7
  have eo : OWX A.1 (fun j => ll (f j)) true (ll A.2.1.toInt64) (ll A.2.2.1.toInt64) = OWM (aT A) := by
    rw [ll_toInt64 (by omega), ll_toInt64 (by omega)]
    exact OWX_aT (by omega) (fun j hj => by have := p7 (vc j hj) v7; rw [hf j (by omega), ll_toInt64 (by omega)])
  refine rr_oneWay (tr := true) (by omega) (by omega) ⟨fun z => absurd z (by decide), fun z => by cases z⟩ (fun D nf g e hF => ⟨(fun z => nomatch z), fun n10 f11 z => ?_⟩) (fun e => ⟨fun _ => ⟨fun _ => h0 (by rw [TWD, ← eo, e]; rfl), fun _ _ z => nomatch z⟩, fun _ _ z => nomatch z⟩)
  cases z
  rw [eo] at e
  have d2 := hF.2.1
  have d3 := hF.2.2.1
  rw [n4_div hF, show (3 : Int32) = nI 3 from rfl, s_mul, nI_clamp (by omega)]
  refine ⟨⟨nI_pos (by omega), by omega⟩, rr_tt hF (fun u g9 hu hg => ?_)⟩
  have eo2 : OWX D.1 (fun j => ll (g9 j)) true (ll 1) (ll u) = OWM (aT (aP D)) := by
    have := OWX_aT (A := aP D) (c := fun j => ll (g9 j)) d2 (fun j hj => by
      have hj' : j < 3 * D.1 := hj
      have := d3 j hj'
      show ll (g9 j) = nn (if j < 3 * D.1 then (1 : Int32) <<< (nI (D.2.1 j) &&& 31) else 0)
      rw [hg j hj', if_pos hj', nn_two _ (by omega)])
    rw [← this, hu, show ll 1 = nn 1 from by decide]
    rfl
  refine rr_oneWay (tr := true) (by omega) (by omega) ⟨fun z => absurd z (by decide), fun z => by cases z⟩ (fun D' nf' g' e' hF' => ⟨(fun z => nomatch z), fun n38 f39 z => ⟨(fun z => nomatch z), fun n20 f21 z2 => ?_⟩⟩) (fun e' => ⟨fun _ => ⟨fun _ => h0 ?_, fun _ _ z => nomatch z⟩, fun _ _ z => nomatch z⟩)
  · cases z
    cases z2
    exact h1 D' _ _ (by rw [TWD, e, ← e', eo2]; rfl) hF'
  · rw [TWD, e, ← e', eo2]; rfl
theorem rr_foundH {b : Int32} (hm : m < 4) (hR : HR ν m A) (hv : AV A) (h1 : ∀ (D : DF) (nf : Nat) (g : Nat → Int32), FNV A b = some D → HF nf g D → Qo (some (nf, g))) (h0 : FNV A b = none → Qo none) : wp_X11_found ν (nI m) b Qo := by
  by_cases e3 : b = 3
  · have ea : FNV A b = OWM A := by rw [FNV, if_pos e3]
    rw [ea] at h1 h0
    rw [e3]
    exact rr_found3 hm hR hv h1 h0
  by_cases e2 : b = 2
  · have ea : FNV A b = TWD A := by rw [FNV, if_neg e3, if_pos e2]
    rw [ea] at h1 h0
    rw [e2]
    exact rr_found2 hm hR hv h1 h0
  have ea : FNV A b = LSM A := by rw [FNV, if_neg e3, if_neg e2]
  rw [ea] at h1 h0
  have g := rr_found0 hm hR hv h1 h0
  exact ⟨fun _ => ⟨fun _ => (g.1 (by decide)).1 (by decide), fun z => absurd z e2⟩, fun z => absurd z e3⟩
theorem m31 {m : Nat} (h : m < 4) : 2 + 2 * m ≠ 31 := by omega
theorem ee_size (hc : CSt μ S a r k) (hv : AVs S) (hok : ∀ m D, m < 4 → a1 = nI m → IN a2 0 3 → FNV (S m) a2 = some D → ∀ μ9, CSt μ9 S a r k → Q (nI D.1) μ9) (h1 : ¬ M1 a1 → X "java/lang/IndexOutOfBoundsException" μ) (h2 : M1 a1 → ¬ IN a2 0 3 → X "java/lang/IllegalArgumentException" μ) (h3 : ∀ m, m < 4 → a1 = nI m → IN a2 0 3 → FNV (S m) a2 = none → ∀ μ9, CSt μ9 S a r k → X "java/lang/IllegalStateException" μ9) : wp_X9_size μ a1 a2 Q X := by
  refine e_mach (fun m hm em => e_rng (fun z2 => ?_) (fun z => h2 (em ▸ M1_nI hm) z)) h1
  have hM := hc.1 m hm
  have v7 := (hv m hm).2.1
  have tm := tlm hm
  refine e_makeByH (kdm hm) (m31 hm) (k2 := 57) rfl (by decide) hM (by omega) (by omega) (fun D μ7 e p z => ⟨fun _ => ?_, fun q => absurd q (by decide)⟩) (fun e μ7 z => ⟨fun q => absurd rfl q, fun _ => h3 m hm em z2 e μ7 (hc.keep (z.zf rfl))⟩)
  have e7 : μ7 57 1 = nI D.1 := p.2.2.2.1
  show Q (μ7 57 1) μ7
  rw [e7]
  exact hok m D hm em z2 e μ7 (hc.keep (z.zf rfl))
theorem rr_size (h : RSt ν S a r k t) (hv : AVs S) (hok : ∀ m D, m < 4 → a1 = nI m → IN a2 0 3 → FNV (S m) a2 = some D → ∀ ν9, RSt ν9 S a r k 0 → Q (nI D.1) ν9) (h1 : ¬ M1 a1 → ∀ b ν9, RSt ν9 S a r k 1 → Q b ν9) (h2 : M1 a1 → ¬ IN a2 0 3 → ∀ b ν9, RSt ν9 S a r k 2 → Q b ν9) (h3 : ∀ m, m < 4 → a1 = nI m → IN a2 0 3 → FNV (S m) a2 = none → ∀ b ν9, RSt ν9 S a r k 3 → Q b ν9) : wp_X11_size ν a1 a2 Q := by
  refine rr_one (fun m hm em => rr_in (fun z2 => th_ok ⟨fun _ => ?_, fun q => absurd rfl q⟩) (fun z => th_2 ⟨fun q => absurd q (by decide), fun _ => h2 (em ▸ M1_nI hm) z _ _ (h.thr 2)⟩)) (fun z => rr_in (fun _ => th_1 ⟨fun q => absurd q (by decide), fun _ => h1 z _ _ (h.thr 1)⟩) (fun _ => th_1 ⟨fun q => absurd q (by decide), fun _ => h1 z _ _ (h.thr 1)⟩))
  have h0 := h.thr 0
  have hR := h0.1 m hm
  have vA := hv m hm
  have hok' := fun D => hok m D hm em z2
  have h3' := h3 m hm em z2
  rw [em]
  generalize hN : tms ν 0 7 0 = N at *
  refine rr_foundH hm hR vA (fun D nf g e F => ⟨(fun z => nomatch z), fun n25 f26 z => ⟨fun _ => ?_, fun q => absurd rfl q⟩⟩) (fun e => ⟨fun _ => ⟨fun q => absurd q (by decide), fun _ => h3' e _ _ (h0.thr 3)⟩, (fun _ _ z => nomatch z)⟩)
  cases z
  rw [n4_div F]
  exact hok' D e _ (h0.thr 0)
theorem gs_size (hP : HPP P) (h : SIM μ ν) (nv : Int64) : wp_X9_size μ a1 a2 (fun r μ9 => wp_X11_size ν a1 a2 (fun b ν9 => P 0 r.toInt64 μ9 b ν9)) (fun E μ9 => (E = IOBn ∧ wp_X11_size ν a1 a2 (fun b ν9 => P 1 nv μ9 b ν9)) ∨ (E = IAEn ∧ wp_X11_size ν a1 a2 (fun b ν9 => P 2 nv μ9 b ν9)) ∨ (E = ISEn ∧ wp_X11_size ν a1 a2 (fun b ν9 => P 3 nv μ9 b ν9))) := by
  obtain ⟨S, a, r, k, t, hv, hc, hr⟩ := h
  refine ee_size hc hv (fun m D hm e z ev μ9 c9 => ?_) (fun z => Or.inl ⟨rfl, ?_⟩) (fun w z => Or.inr (Or.inl ⟨rfl, ?_⟩)) (fun m hm e z ev μ9 c9 => Or.inr (Or.inr ⟨rfl, ?_⟩))
  · refine rr_size hr hv (fun n D' hn e' z' ev' ν9 r9 => ?_) (fun q => absurd (e ▸ M1_nI hm) q) (fun _ q => absurd z q) (fun n hn e' z' ev' b ν9 r9 => ?_)
    all_goals
      cases nI_injS e e' (by omega) (by omega)
      rw [ev] at ev'
      cases ev'
    exact ph_ok hP hv c9 r9
  · exact rr_size hr hv (fun n D' hn e' z' ev' ν9 r9 => absurd (e' ▸ M1_nI hn) z) (fun _ b ν9 r9 => ph_x hP hv hc r9 (by decide)) (fun q => absurd q z) (fun n hn e' z' ev' b ν9 r9 => absurd (e' ▸ M1_nI hn) z)
  · exact rr_size hr hv (fun n D' hn e' z' ev' ν9 r9 => absurd z' z) (fun q => absurd w q) (fun _ _ b ν9 r9 => ph_x hP hv hc r9 (by decide)) (fun n hn e' z' ev' b ν9 r9 => absurd z' z)
  · refine rr_size hr hv (fun n D' hn e' z' ev' ν9 r9 => ?_) (fun q => absurd (e ▸ M1_nI hm) q) (fun _ q => absurd z q) (fun n hn e' z' ev' b ν9 r9 => ph_x hP hv c9 r9 (by decide))
    cases nI_injS e e' (by omega) (by omega)
    rw [ev] at ev'
    cases ev'
end SIMZ
end
/-! part 9sb0.lang -/
section
section SIML
variable {A B : AM} {D D0 D1 D2 : DF} {n : Nat}
/-! words, and which of them are taken -/
def SG (u : List Nat) : Prop := ∀ s ∈ u, s < 3
theorem SG.tl {s : Nat} {u : List Nat} (h : SG (s :: u)) : SG u := fun x hx => h x (List.mem_cons_of_mem _ hx)
theorem SG.hd {s : Nat} {u : List Nat} (h : SG (s :: u)) : s < 3 := h s (List.mem_cons_self ..)
theorem SG.rev {u : List Nat} (h : SG u) : SG u.reverse := fun x hx => h x (List.mem_reverse.mp hx)
theorem SG.snoc {s : Nat} {u : List Nat} (h : SG u) (hs : s < 3) : SG (u ++ [s]) := fun x hx => by
  rcases List.mem_append.mp hx with z | z
  · exact h x z
  · simp at z; omega
def DRn (f : Nat → Nat → Nat) : Nat → List Nat → Nat
  | x, [] => x
  | x, s :: u => DRn f (f x s) u
theorem DRn_app {f : Nat → Nat → Nat} : ∀ (u v : List Nat) (x : Nat), DRn f x (u ++ v) = DRn f (DRn f x u) v := by
  intro u
  induction u with
  | nil => intro v x; rfl
  | cons s u ih => intro v x; exact ih v (f x s)
/-- a state of a one-way machine takes a word -/
def LSs (D : DF) (x : Nat) (u : List Nat) : Prop := D.2.2 (DRn (DW D) x u) = true
def TBl (D : DF) : Prop := 1 ≤ D.1 ∧ ∀ j, j < 3 * D.1 → D.2.1 j < D.1
theorem TBl.dw (h : TBl D) {x s : Nat} (hx : x < D.1) (hs : s < 3) : DW D x s < D.1 := h.2 _ (by omega)
theorem TBl.run (h : TBl D) : ∀ (u : List Nat) (x : Nat), SG u → x < D.1 → DRn (DW D) x u < D.1 := by
  intro u
  induction u with
  | nil => intro x _ hx; exact hx
  | cons s u ih => intro x hu hx; exact ih _ hu.tl (h.dw hx hu.hd)
/-- the parts are the words taken -/
theorem PL_LS (h : TBl D) : ∀ (u : List Nat) (x y : Nat), SG u → x < D.1 → y < D.1 → PL D x = PL D y → (LSs D x u ↔ LSs D y u) := by
  intro u
  induction u with
  | nil => intro x y _ hx hy e; unfold LSs DRn; rw [((PL_stb h.2 h.1 hx hy).mp e).1]
  | cons s u ih => intro x y hu hx hy e; exact ih _ _ hu.tl (h.dw hx hu.hd) (h.dw hy hu.hd) (((PL_stb h.2 h.1 hx hy).mp e).2.2 s hu.hd)
theorem LS_PRT (h : TBl D) : ∀ (t x y : Nat), x < D.1 → y < D.1 → (∀ u, SG u → (LSs D x u ↔ LSs D y u)) → PRT D t x = PRT D t y := by
  intro t
  induction t with
  | zero =>
    intro x y hx hy hl
    refine PRT_0.mpr ?_
    have := hl [] (fun _ hs => nomatch hs)
    unfold LSs DRn at this
    exact Bool.eq_iff_iff.mpr this
  | succ t ih =>
    intro x y hx hy hl
    exact PRT_s.mpr ⟨ih x y hx hy hl, fun s hs => ih _ _ (h.dw hx hs) (h.dw hy hs) (fun u hu => hl (s :: u) (fun z hz => by
      rcases List.mem_cons.mp hz with e | e
      · omega
      · exact hu z e))⟩
theorem LS_PL (h : TBl D) {x y : Nat} (hx : x < D.1) (hy : y < D.1) (hl : ∀ u, SG u → (LSs D x u ↔ LSs D y u)) : PL D x = PL D y := LS_PRT h D.1 x y hx hy hl
/-! what holds of an exploring's end -/
def NDp (L : List Nat) : Prop := ∀ i j, i < L.length → j < L.length → L.getD i 0 = L.getD j 0 → i = j
theorem NDp.snoc {L : List Nat} {x : Nat} (h : NDp L) (hx : x ∉ L) : NDp (L ++ [x]) := fun i j hi hj e => by
  rw [List.length_append] at hi hj
  simp only [List.length_cons, List.length_nil] at hi hj
  by_cases e1 : i < L.length
  · rw [getD_app e1] at e
    by_cases e2 : j < L.length
    · rw [getD_app e2] at e; exact h i j e1 e2 e
    · rw [show j = L.length by omega, getD_new] at e
      exact absurd (e ▸ getD_mem e1) hx
  · rw [show i = L.length by omega, getD_new] at e
    by_cases e2 : j < L.length
    · rw [getD_app e2] at e
      exact absurd (e ▸ getD_mem e2) hx
    · omega
theorem EXs_nd {lim : Nat} {f : Nat → Nat → Nat} {u : Nat → Bool} {L' T' : List Nat} : ∀ (k : Nat) (L T : List Nat), NDp L → EXs lim f u k L T = some (L', T') → NDp L' := by
  intro k
  induction k with
  | zero => intro L T _ h; cases h
  | succ k ih =>
    intro L T hL h
    rw [EXs] at h
    by_cases hd : 3 * L.length ≤ T.length ∨ u (L.getD (L.length - 1) 0) = true
    · rw [if_pos hd] at h; cases h; exact hL
    · rw [if_neg hd] at h
      by_cases hm : nxt f L T ∈ L
      · rw [if_pos hm] at h; exact ih _ _ hL h
      · rw [if_neg hm] at h
        by_cases hl : lim ≤ L.length
        · rw [if_pos hl] at h; cases h
        · rw [if_neg hl] at h; exact ih _ _ (hL.snoc hm) h
theorem EX_nd {lim x0 : Nat} {f : Nat → Nat → Nat} {u : Nat → Bool} {L T : List Nat} (h : EX lim f u x0 = some (L, T)) : NDp L := EXs_nd _ _ _ (fun i j hi hj _ => by simp at hi hj; omega) h
theorem EXs_all {lim : Nat} {f : Nat → Nat → Nat} {u : Nat → Bool} {L' T' : List Nat} {P : Nat → Prop} (hf : ∀ x s, s < 3 → P x → P (f x s)) : ∀ (k : Nat) (L T : List Nat), (∀ i, i < L.length → P (L.getD i 0)) → EXs lim f u k L T = some (L', T') → ∀ i, i < L'.length → P (L'.getD i 0) := by
  intro k
  induction k with
  | zero => intro L T _ h; cases h
  | succ k ih =>
    intro L T hL h
    rw [EXs] at h
    by_cases hd : 3 * L.length ≤ T.length ∨ u (L.getD (L.length - 1) 0) = true
    · rw [if_pos hd] at h; cases h; exact hL
    · rw [if_neg hd] at h
      have h3 : ¬ 3 * L.length ≤ T.length := fun z => hd (Or.inl z)
      by_cases hm : nxt f L T ∈ L
      · rw [if_pos hm] at h; exact ih _ _ hL h
      · rw [if_neg hm] at h
        by_cases hl : lim ≤ L.length
        · rw [if_pos hl] at h; cases h
        · rw [if_neg hl] at h
          refine ih _ _ (fun i hi => ?_) h
          rw [List.length_append] at hi
          simp only [List.length_cons, List.length_nil] at hi
          by_cases e : i < L.length
          · rw [getD_app e]; exact hL i e
          · rw [show i = L.length by omega, getD_new]
            exact hf _ _ (Nat.mod_lt _ (by decide)) (hL _ (by omega))
theorem EX_all {lim x0 : Nat} {f : Nat → Nat → Nat} {u : Nat → Bool} {L T : List Nat} {P : Nat → Prop} (hf : ∀ x s, s < 3 → P x → P (f x s)) (h0 : P x0) (h : EX lim f u x0 = some (L, T)) : ∀ i, i < L.length → P (L.getD i 0) := EXs_all hf _ _ _ (fun i hi => by
  simp at hi
  subst hi
  exact h0) h
/-- each item is met from the first -/
theorem EXs_met {lim : Nat} {f : Nat → Nat → Nat} {u : Nat → Bool} {L' T' : List Nat} {x0 : Nat} (h : EX lim f u x0 = some (L', T')) : ∀ i, i < L'.length → ∃ v, SG v ∧ DRn f x0 v = L'.getD i 0 :=
  EX_all (P := fun y => ∃ v, SG v ∧ DRn f x0 v = y) (fun x s hs ⟨v, hv, e⟩ => ⟨v ++ [s], hv.snoc hs, by rw [DRn_app, e]; rfl⟩) ⟨[], (fun _ hs => nomatch hs), rfl⟩ h
/-- two explorings in step -/
theorem idx_min {x : Nat} : ∀ (l : List Nat) (i : Nat), i < l.idxOf x → l.getD i 0 ≠ x ∨ l.length ≤ i := by
  intro l
  induction l with
  | nil => intro i _; exact Or.inr (Nat.zero_le _)
  | cons a l ih =>
    intro i hi
    by_cases e : a = x
    · subst e
      simp at hi
    · rw [List.idxOf_cons] at hi
      simp only [beq_iff_eq, e, cond_false, Bool.cond_eq_ite, if_false] at hi
      cases i with
      | zero => exact Or.inl (by simpa using e)
      | succ i => exact (ih i (by omega)).imp (fun z => by simpa using z) (fun z => by simp; omega)
variable {R : Nat → Nat → Prop}
def PR2 (R : Nat → Nat → Prop) (L1 L2 : List Nat) : Prop := L1.length = L2.length ∧ ∀ i, i < L1.length → R (L1.getD i 0) (L2.getD i 0)
theorem PR2.idx {L1 L2 : List Nat} {x y : Nat} (h1 : ∀ a b a' b', R a b → R a' b' → (a = a' ↔ b = b')) (h : PR2 R L1 L2) (hR : R x y) : (x ∈ L1 ↔ y ∈ L2) ∧ (x ∈ L1 → L1.idxOf x = L2.idxOf y) := by
  obtain ⟨hl, hp⟩ := h
  have go : x ∈ L1 → L2.getD (L1.idxOf x) 0 = y ∧ ∀ j, j < L1.idxOf x → L2.getD j 0 ≠ y := fun hx => by
    have i1 := idx_lt hx
    have i2 := getD_idx hx
    refine ⟨(h1 _ _ _ _ (hp _ i1) hR).mp i2, fun j hj e => ?_⟩
    have e1 := (h1 _ _ _ _ (hp j (by omega)) hR).mpr e
    rcases idx_min L1 j hj with z | z
    · exact z e1
    · omega
  refine ⟨⟨fun hx => ?_, fun hy => ?_⟩, fun hx => ?_⟩
  · have i1 := idx_lt hx
    rw [← (go hx).1]
    exact getD_mem (by omega)
  · have i1 := idx_lt hy
    have i2 := getD_idx hy
    have := (h1 _ _ _ _ (hp (L2.idxOf y) (by omega)) hR).mpr i2
    rw [← this]
    exact getD_mem (by omega)
  · have i1 := idx_lt hx
    exact (idx_of (by omega) (go hx).1 (go hx).2).symm
def noU : Nat → Bool := fun _ => false
theorem EXs_lock {lim : Nat} {f1 f2 : Nat → Nat → Nat} (h1 : ∀ a b a' b', R a b → R a' b' → (a = a' ↔ b = b')) (hf : ∀ a b s, s < 3 → R a b → R (f1 a s) (f2 b s)) : ∀ (k : Nat) (L1 L2 T : List Nat), PR2 R L1 L2 → 1 ≤ L1.length →
    (EXs lim f1 noU k L1 T = none ∧ EXs lim f2 noU k L2 T = none) ∨ ∃ L1' L2' T', EXs lim f1 noU k L1 T = some (L1', T') ∧ EXs lim f2 noU k L2 T = some (L2', T') ∧ PR2 R L1' L2' := by
  intro k
  induction k with
  | zero => intro L1 L2 T _ _; exact Or.inl ⟨rfl, rfl⟩
  | succ k ih =>
    intro L1 L2 T hp hl
    rw [EXs, EXs]
    by_cases hd : 3 * L1.length ≤ T.length
    · rw [if_pos (Or.inl hd), if_pos (Or.inl (by rw [← hp.1]; exact hd))]
      exact Or.inr ⟨_, _, _, rfl, rfl, hp⟩
    · have c1 : ¬ (3 * L1.length ≤ T.length ∨ noU (L1.getD (L1.length - 1) 0) = true) := fun z => z.elim hd (fun w => by cases w)
      have c2 : ¬ (3 * L2.length ≤ T.length ∨ noU (L2.getD (L2.length - 1) 0) = true) := fun z => z.elim (by rw [← hp.1]; exact hd) (fun w => by cases w)
      rw [if_neg c1, if_neg c2]
      have hR : R (nxt f1 L1 T) (nxt f2 L2 T) := hf _ _ _ (Nat.mod_lt _ (by decide)) (hp.2 _ (by omega))
      obtain ⟨hm, hi⟩ := hp.idx h1 hR
      by_cases e : nxt f1 L1 T ∈ L1
      · rw [if_pos e, if_pos (hm.mp e), ← hi e]
        exact ih _ _ _ hp hl
      · have e' : ¬ nxt f2 L2 T ∈ L2 := fun z => e (hm.mpr z)
        rw [if_neg e, if_neg e', ← hp.1]
        by_cases e2 : lim ≤ L1.length
        · rw [if_pos e2, if_pos e2]; exact Or.inl ⟨rfl, rfl⟩
        · rw [if_neg e2, if_neg e2]
          refine ih _ _ _ ⟨by rw [List.length_append, List.length_append, hp.1]; rfl, fun i hi' => ?_⟩ (by rw [List.length_append]; omega)
          rw [List.length_append] at hi'
          simp only [List.length_cons, List.length_nil] at hi'
          by_cases e3 : i < L1.length
          · rw [getD_app e3, getD_app (by rw [← hp.1]; exact e3)]; exact hp.2 i e3
          · have e4 : i = L1.length := by omega
            rw [e4, getD_new, hp.1, getD_new]; exact hR
theorem EX_lock {lim x1 x2 : Nat} {f1 f2 : Nat → Nat → Nat} (h1 : ∀ a b a' b', R a b → R a' b' → (a = a' ↔ b = b')) (hf : ∀ a b s, s < 3 → R a b → R (f1 a s) (f2 b s)) (h0 : R x1 x2) : (EX lim f1 (fun _ => false) x1 = none ∧ EX lim f2 (fun _ => false) x2 = none) ∨ ∃ L1 L2 T, EX lim f1 (fun _ => false) x1 = some (L1, T) ∧ EX lim f2 (fun _ => false) x2 = some (L2, T) ∧ PR2 R L1 L2 :=
  EXs_lock h1 hf _ [x1] [x2] [] ⟨rfl, fun i hi => by
    simp at hi
    subst hi
    exact h0⟩ (Nat.le_refl 1)
end SIML
end
/-! part 9sb1.sound -/
section
section SIMQ
variable {A B : AM} {D D0 D1 D2 D' : DF} {n : Nat}
theorem land_ne {x y : Nat} : x &&& y ≠ 0 ↔ ∃ j, x.testBit j = true ∧ y.testBit j = true := by
  refine ⟨fun h => Classical.byContradiction (fun no => h (s_ext (fun j => ?_))), fun ⟨j, h1, h2⟩ e => ?_⟩
  · rw [Nat.testBit_and, Nat.zero_testBit]
    cases e1 : x.testBit j with
    | false => rfl
    | true =>
      cases e2 : y.testBit j with
      | false => rfl
      | true => exact absurd ⟨j, e1, e2⟩ no
  · have := congrArg (fun z => z.testBit j) e
    simp only [Nat.testBit_and, Nat.zero_testBit] at this
    rw [h1, h2] at this
    cases this
/-! ways of a machine -/
theorem RA9_bit {X s k : Nat} : (RA9 A X s).testBit k = true ↔ ∃ i, i < A.1 ∧ X.testBit i = true ∧ (nn (A.2.2.2 (3 * i + s))).testBit k = true := by
  rw [RA9, RC, RCg_bit, List.any_eq_true]
  constructor
  · rintro ⟨i, hi, h⟩
    rw [Bool.and_eq_true] at h
    exact ⟨i, List.mem_range.mp hi, h⟩
  · rintro ⟨i, hi, h1, h2⟩
    exact ⟨i, List.mem_range.mpr hi, by rw [Bool.and_eq_true]; exact ⟨h1, h2⟩⟩
def EDG (A : AM) (i s k : Nat) : Prop := i < A.1 ∧ (nn (A.2.2.2 (3 * i + s))).testBit k = true
def PTH (E : Nat → Nat → Nat → Prop) : List Nat → Nat → Nat → Prop
  | [], i, j => i = j
  | s :: u, i, j => ∃ k, E i s k ∧ PTH E u k j
variable {E E' : Nat → Nat → Nat → Prop}
theorem PTH.snoc {s : Nat} : ∀ (u : List Nat) (i j : Nat), PTH E (u ++ [s]) i j ↔ ∃ k, PTH E u i k ∧ E k s j := by
  intro u
  induction u with
  | nil => intro i j; exact ⟨fun ⟨k, h1, h2⟩ => ⟨i, rfl, by cases h2; exact h1⟩, fun ⟨k, h1, h2⟩ => ⟨j, by cases h1; exact h2, rfl⟩⟩
  | cons x u ih =>
    intro i j
    refine ⟨fun ⟨k, h1, h2⟩ => ?_, fun ⟨k, ⟨k', h1, h2⟩, h3⟩ => ⟨k', h1, (ih k' j).mpr ⟨k, h2, h3⟩⟩⟩
    obtain ⟨k', h3, h4⟩ := (ih k j).mp h2
    exact ⟨k', ⟨k, h1, h3⟩, h4⟩
theorem PTH.rev (h : ∀ i s k, s < 3 → (E' i s k ↔ E k s i)) : ∀ (u : List Nat) (i j : Nat), SG u → (PTH E' u i j ↔ PTH E u.reverse j i) := by
  intro u
  induction u with
  | nil => intro i j _; exact ⟨fun e => Eq.symm e, fun e => Eq.symm e⟩
  | cons s u ih =>
    intro i j hu
    rw [List.reverse_cons, PTH.snoc]
    exact ⟨fun ⟨k, h1, h2⟩ => ⟨k, (ih k j hu.tl).mp h2, (h i s k hu.hd).mp h1⟩, fun ⟨k, h1, h2⟩ => ⟨k, (h i s k hu.hd).mpr h2, (ih k j hu.tl).mpr h1⟩⟩
theorem ARn_bit : ∀ (u : List Nat) (X j : Nat), (DRn (RA9 A) X u).testBit j = true ↔ ∃ i, X.testBit i = true ∧ PTH (EDG A) u i j := by
  intro u
  induction u with
  | nil => intro X j; exact ⟨fun h => ⟨j, h, rfl⟩, fun ⟨i, h, e⟩ => by cases e; exact h⟩
  | cons s u ih =>
    intro X j
    rw [DRn, ih]
    constructor
    · rintro ⟨k, h1, h2⟩
      obtain ⟨i, hi, h3, h4⟩ := RA9_bit.mp h1
      exact ⟨i, h3, k, ⟨hi, h4⟩, h2⟩
    · rintro ⟨i, h3, k, ⟨hi, h4⟩, h2⟩
      exact ⟨k, RA9_bit.mpr ⟨i, hi, h3, h4⟩, h2⟩
/-- a machine takes a word -/
def LAm (A : AM) (u : List Nat) : Prop := ∃ i j, (nn A.2.1).testBit i = true ∧ (nn A.2.2.1).testBit j = true ∧ PTH (EDG A) u i j
theorem LA_acc {u : List Nat} : DRn (RA9 A) (nn A.2.1) u &&& nn A.2.2.1 ≠ 0 ↔ LAm A u := by
  rw [land_ne]
  constructor
  · rintro ⟨j, h1, h2⟩
    obtain ⟨i, h3, h4⟩ := (ARn_bit u _ j).mp h1
    exact ⟨i, j, h3, h2, h4⟩
  · rintro ⟨i, j, h3, h2, h4⟩
    exact ⟨j, (ARn_bit u _ j).mpr ⟨i, h3, h4⟩, h2⟩
/-- arrows lead to the machine's own states alone -/
def CBd (A : AM) : Prop := A.1 ≤ 32 ∧ ∀ j, j < 3 * A.1 → nn (A.2.2.2 j) < 2 ^ A.1
theorem aT_cell {i s k : Nat} (h32 : A.1 ≤ 32) (hs : s < 3) (hi : i < A.1) : (nn ((aT A).2.2.2 (3 * i + s))).testBit k = (decide (k < A.1) && (nn (A.2.2.2 (3 * k + s))).testBit i) := by
  show (nn (if 3 * i + s < 3 * A.1 then SRg A.2.2.2 ((3 * i + s) / 3) ((3 * i + s) % 3) A.1 else 0)).testBit k = _
  rw [if_pos (by omega), show (3 * i + s) / 3 = i by omega, show (3 * i + s) % 3 = s by omega, SRg_bit A.1 h32]
theorem EDG_aT (h : CBd A) {i s k : Nat} (hs : s < 3) : EDG (aT A) i s k ↔ EDG A k s i := by
  constructor
  · rintro ⟨hi, h1⟩
    have hi' : i < A.1 := hi
    rw [aT_cell h.1 hs hi', Bool.and_eq_true, decide_eq_true_iff] at h1
    exact h1
  · rintro ⟨hk, h1⟩
    have hi : i < A.1 := Classical.byContradiction (fun no => by
      rw [s_big (h.2 (3 * k + s) (by omega)) (by omega)] at h1
      cases h1)
    refine ⟨hi, ?_⟩
    rw [aT_cell h.1 hs hi, decide_eq_true hk, Bool.true_and]
    exact h1
theorem LA_rev (h : CBd A) {u : List Nat} (hu : SG u) : LAm (aT A) u ↔ LAm A u.reverse := by
  have key := fun i j => PTH.rev (E' := EDG (aT A)) (E := EDG A) (fun i s k hs => EDG_aT h hs) u i j hu
  exact ⟨fun ⟨i, j, h1, h2, h3⟩ => ⟨j, i, h2, h1, (key i j).mp h3⟩, fun ⟨i, j, h1, h2, h3⟩ => ⟨j, i, h2, h1, (key j i).mpr h3⟩⟩
/-! what an exploring makes -/
variable {f : Nat → Nat → Nat} {x0 : Nat} {L T : List Nat} {gl : Nat → Bool}
theorem EXD (h : EX 32 f (fun _ => false) x0 = some (L, T)) : L.length ≤ 32 ∧ 1 ≤ L.length ∧ L.getD 0 0 = x0 ∧ ∀ i s, i < L.length → s < 3 → T.getD (3 * i + s) 0 < L.length ∧ L.getD (T.getD (3 * i + s) 0) 0 = f (L.getD i 0) s := by
  obtain ⟨⟨h1, h2, h3⟩, h4, h5⟩ := EX.inv (by decide) h
  have h6 : 3 * L.length = T.length := h5.elim id (fun w => by cases w)
  refine ⟨h1, h2, h4, fun i s hi hs => ?_⟩
  have := h3 (3 * i + s) (by omega)
  rw [show (3 * i + s) / 3 = i by omega, show (3 * i + s) % 3 = s by omega] at this
  exact this
theorem EXD_tb (h : EX 32 f (fun _ => false) x0 = some (L, T)) : TBl (DFo L T gl) ∧ (DFo L T gl).1 ≤ 32 := by
  obtain ⟨h1, h2, h3, h4⟩ := EXD h
  refine ⟨⟨h2, fun j hj => ?_⟩, h1⟩
  have hj' : j < 3 * L.length := hj
  have := (h4 (j / 3) (j % 3) (by omega) (Nat.mod_lt _ (by decide))).1
  rw [show 3 * (j / 3) + j % 3 = j by omega] at this
  exact this
theorem EXD_run (h : EX 32 f (fun _ => false) x0 = some (L, T)) : ∀ (u : List Nat) (i : Nat), SG u → i < L.length → L.getD (DRn (DW (DFo L T gl)) i u) 0 = DRn f (L.getD i 0) u := by
  obtain ⟨h1, h2, h3, h4⟩ := EXD h
  intro u
  induction u with
  | nil => intro i _ _; rfl
  | cons s u ih =>
    intro i hu hi
    have := h4 i s hi hu.hd
    show L.getD (DRn (DW (DFo L T gl)) (T.getD (3 * i + s) 0) u) 0 = DRn f (f (L.getD i 0) s) u
    rw [ih _ hu.tl this.1, this.2]
/-- numbered as met -/
def CAN (D : DF) : Prop := ∃ L T : List Nat, EX 32 (DW D) (fun _ => false) 0 = some (L, T) ∧ L.length = D.1 ∧ (∀ i, i < D.1 → L.getD i 0 = i) ∧ D.2.1 = fun j => T.getD j 0
theorem EXD_can (h : EX 32 f (fun _ => false) x0 = some (L, T)) : CAN (DFo L T gl) := by
  obtain ⟨h1, h2, h3, h4⟩ := EXD h
  have nd := EX_nd h
  rcases EX_lock (R := fun a b => b < L.length ∧ a = L.getD b 0) (f1 := f) (f2 := DW (DFo L T gl)) (lim := 32) (x1 := x0) (x2 := 0) (fun a b a' b' ⟨hb, ea⟩ ⟨hb', ea'⟩ => ⟨fun e => nd b b' hb hb' (by rw [← ea, ← ea', e]), fun e => by rw [ea, ea', e]⟩) (fun a b s hs ⟨hb, ea⟩ => by
      have := h4 b s hb hs
      rw [ea]
      exact ⟨this.1, this.2.symm⟩) ⟨h2, h3.symm⟩ with ⟨e, _⟩ | ⟨L1, L2, T', e1, e2, hp⟩
  · rw [h] at e; cases e
  · rw [h] at e1
    cases e1
    refine ⟨L2, T, e2, hp.1.symm, fun i hi => ?_, rfl⟩
    have hi' : i < L.length := hi
    obtain ⟨y1, y2⟩ := hp.2 i hi'
    exact (nd i _ hi' y1 y2).symm
theorem CAN.met (h : CAN D) {i : Nat} (hi : i < D.1) : ∃ v, SG v ∧ DRn (DW D) 0 v = i := by
  obtain ⟨L, T, h1, h2, h3, _⟩ := h
  obtain ⟨v, hv, e⟩ := EXs_met h1 i (by omega)
  exact ⟨v, hv, e.trans (h3 i hi)⟩
theorem OWM_ex (h : OWM A = some D) : ∃ L T, EX 32 (RA9 A) (fun _ => false) (nn A.2.1) = some (L, T) ∧ D = DFo L T (fun S => decide (S &&& nn A.2.2.1 ≠ 0)) := by
  obtain ⟨⟨L, T⟩, h1, h2⟩ := Option.map_eq_some_iff.mp (show (EX 32 (RA9 A) (fun _ => false) (nn A.2.1)).map _ = some D from h)
  exact ⟨L, T, h1, h2.symm⟩
theorem OWM_LS (h : OWM A = some D) : TBl D ∧ D.1 ≤ 32 ∧ CAN D ∧ ∀ u, SG u → (LSs D 0 u ↔ LAm A u) := by
  obtain ⟨L, T, h1, rfl⟩ := OWM_ex h
  obtain ⟨e1, e2, e3, e4⟩ := EXD h1
  refine ⟨(EXD_tb h1).1, (EXD_tb h1).2, EXD_can h1, fun u hu => ?_⟩
  rw [← LA_acc, ← e3, ← EXD_run (gl := fun S => decide (S &&& nn A.2.2.1 ≠ 0)) h1 u 0 hu (by omega)]
  unfold LSs
  exact decide_eq_true_iff
theorem LSD_ex (h : LSD D0 = some D) : ∃ L T, EX 32 (fun l s => PL D0 (D0.2.1 (3 * l + s))) (fun _ => false) (PL D0 0) = some (L, T) ∧ D = DFo L T D0.2.2 := by
  obtain ⟨⟨L, T⟩, h1, h2⟩ := Option.map_eq_some_iff.mp (show (EX 32 (fun l s => PL D0 (D0.2.1 (3 * l + s))) (fun _ => false) (PL D0 0)).map _ = some D from h)
  exact ⟨L, T, h1, h2.symm⟩
theorem LS_PLid (h : TBl D) {x : Nat} (hx : x < D.1) {u : List Nat} (hu : SG u) : LSs D (PL D x) u ↔ LSs D x u := PL_LS h u _ _ hu (PL_lt hx) hx (PL_id x)
theorem PL_run (h : TBl D0) : ∀ (u : List Nat) (x : Nat), SG u → x < D0.1 → (D0.2.2 (DRn (fun l s => PL D0 (D0.2.1 (3 * l + s))) x u) = true ↔ LSs D0 x u) := by
  intro u
  induction u with
  | nil => intro x _ _; exact Iff.rfl
  | cons s u ih =>
    intro x hu hx
    have hd := h.dw hx hu.hd
    exact (ih (PL D0 (DW D0 x s)) hu.tl (PL_lt hd)).trans (LS_PLid h hd hu.tl)
/-- each two states are told apart by a word -/
def RED (D : DF) : Prop := ∀ i j, i < D.1 → j < D.1 → (∀ u, SG u → (LSs D i u ↔ LSs D j u)) → i = j
theorem LSD_LS (h0 : TBl D0) (h : LSD D0 = some D) : TBl D ∧ D.1 ≤ 32 ∧ CAN D ∧ RED D ∧ ∀ u, SG u → (LSs D 0 u ↔ LSs D0 0 u) := by
  obtain ⟨L, T, h1, rfl⟩ := LSD_ex h
  obtain ⟨e1, e2, e3, e4⟩ := EXD h1
  have all := EX_all (P := fun y => y < D0.1 ∧ PL D0 y = y) (fun x s hs ⟨hx, _⟩ => ⟨PL_lt (h0.dw hx hs), PL_id _⟩) ⟨PL_lt h0.1, PL_id 0⟩ h1
  have ls : ∀ u i, SG u → i < L.length → (LSs (DFo L T D0.2.2) i u ↔ LSs D0 (L.getD i 0) u) := fun u i hu hi => by
    rw [← PL_run h0 u _ hu (all i hi).1, ← EXD_run (gl := D0.2.2) h1 u i hu hi]
    exact Iff.rfl
  refine ⟨(EXD_tb h1).1, (EXD_tb h1).2, EXD_can h1, fun i j hi hj hl => ?_, fun u hu => ?_⟩
  · have hi' : i < L.length := hi
    have hj' : j < L.length := hj
    refine EX_nd h1 i j hi' hj' ?_
    rw [← (all i hi').2, ← (all j hj').2]
    exact LS_PL h0 (all i hi').1 (all j hj').1 (fun u hu => by rw [← ls u i hu hi', ← ls u j hu hj']; exact hl u hu)
  · rw [ls u 0 hu (by omega), e3]
    exact LS_PLid h0 h0.1 hu
theorem LSM_ex (h : LSM A = some D) : ∃ D0, OWM A = some D0 ∧ LSD D0 = some D := Option.bind_eq_some_iff.mp h
theorem LSM_LS (h : LSM A = some D) : TBl D ∧ D.1 ≤ 32 ∧ CAN D ∧ RED D ∧ ∀ u, SG u → (LSs D 0 u ↔ LAm A u) := by
  obtain ⟨D0, h1, h2⟩ := LSM_ex h
  obtain ⟨o1, o2, o3, o4⟩ := OWM_LS h1
  obtain ⟨l1, l2, l3, l4, l5⟩ := LSD_LS o1 h2
  exact ⟨l1, l2, l3, l4, fun u hu => (l5 u hu).trans (o4 u hu)⟩
/-- a one-way machine turned round, one sign on -/
theorem RA9_aTaP (h : TBl D1) (h32 : D1.1 ≤ 32) {X s k : Nat} (hs : s < 3) : (RA9 (aT (aP D1)) X s).testBit k = true ↔ k < D1.1 ∧ X.testBit (DW D1 k s) = true := by
  rw [RA9_bit]
  have cell : ∀ i, i < D1.1 → ((nn ((aT (aP D1)).2.2.2 (3 * i + s))).testBit k = true ↔ k < D1.1 ∧ DW D1 k s = i) := fun i hi => by
    rw [aT_cell (A := aP D1) h32 hs hi, Bool.and_eq_true, decide_eq_true_iff]
    refine and_congr_right (fun hk => ?_)
    have hk' : k < D1.1 := hk
    have hd := h.dw hk' hs
    show (nn (if 3 * k + s < 3 * D1.1 then (1 : Int32) <<< (nI (D1.2.1 (3 * k + s)) &&& 31) else 0)).testBit i = true ↔ _
    rw [if_pos (by omega), nn_two _ (show D1.2.1 (3 * k + s) < 32 from Nat.lt_of_lt_of_le hd h32), Nat.testBit_two_pow, decide_eq_true_iff]
    exact Iff.rfl
  constructor
  · rintro ⟨i, hi, h1, h2⟩
    obtain ⟨hk, e⟩ := (cell i hi).mp h2
    exact ⟨hk, by rw [e]; exact h1⟩
  · rintro ⟨hk, h1⟩
    exact ⟨_, h.dw hk hs, h1, (cell _ (h.dw hk hs)).mpr ⟨hk, rfl⟩⟩
/-- by turning round twice: the least one -/
theorem TWD_same (hA : CBd A) (hL : LSM A = some D) (hT : TWD A = some D') : dSm D' D := by
  obtain ⟨D0, h1, h2⟩ := LSM_ex hL
  obtain ⟨D1, h3, h4⟩ := Option.bind_eq_some_iff.mp (show (OWM (aT A)).bind (fun D => OWM (aT (aP D))) = some D' from hT)
  obtain ⟨o1, o2, o3, o4⟩ := OWM_LS h1
  obtain ⟨p1, p2, p3, p4⟩ := OWM_LS h3
  obtain ⟨L1, T1, e1, rfl⟩ := LSD_ex h2
  obtain ⟨L2, T2, e2, rfl⟩ := OWM_ex h4
  let R : Nat → Nat → Prop := fun a S => a < D0.1 ∧ PL D0 a = a ∧ S < 2 ^ D1.1 ∧ ∀ u, SG u → (LSs D0 a u ↔ S.testBit (DRn (DW D1) 0 u.reverse) = true)
  have run : ∀ u, SG u → DRn (DW D1) 0 u < D1.1 := fun u hu => p1.run u 0 hu p1.1
  have R1 : ∀ a b a' b', R a b → R a' b' → (a = a' ↔ b = b') := fun a b a' b' ⟨r1, r2, r3, r4⟩ ⟨q1, q2, q3, q4⟩ => by
    refine ⟨fun e => s_ext (fun j => ?_), fun e => ?_⟩
    · by_cases hj : j < D1.1
      · obtain ⟨v, hv, ev⟩ := p3.met hj
        have x1 := r4 v.reverse hv.rev
        have x2 := q4 v.reverse hv.rev
        rw [List.reverse_reverse, ev] at x1 x2
        rw [Bool.eq_iff_iff, ← x1, ← x2, e]
      · rw [s_big r3 (by omega), s_big q3 (by omega)]
    · rw [← r2, ← q2]
      exact LS_PL o1 r1 q1 (fun u hu => by rw [r4 u hu, q4 u hu, e])
  have Rf : ∀ a b s, s < 3 → R a b → R (PL D0 (D0.2.1 (3 * a + s))) (RA9 (aT (aP D1)) b s) := fun a b s hs ⟨r1, r2, r3, r4⟩ => by
    have hd := o1.dw r1 hs
    refine ⟨PL_lt hd, PL_id _, s_lt2 (fun i hi => ?_), fun u hu => ?_⟩
    · cases e : (RA9 (aT (aP D1)) b s).testBit i with
      | false => rfl
      | true => exact absurd ((RA9_aTaP p1 p2 hs).mp e).1 (by omega)
    · rw [RA9_aTaP p1 p2 hs]
      have x := r4 (s :: u) (fun z hz => by
        rcases List.mem_cons.mp hz with e | e
        · omega
        · exact hu z e)
      rw [List.reverse_cons, DRn_app] at x
      exact (LS_PLid o1 hd hu).trans (x.trans ⟨fun y => ⟨run _ hu.rev, y⟩, fun y => y.2⟩)
  have R0 : R (PL D0 0) (nn (aT (aP D1)).2.1) := by
    have bit : ∀ j, (nn (aT (aP D1)).2.1).testBit j = (decide (j < D1.1) && D1.2.2 j) := fun j => gmk_bit D1.1 p2 j
    refine ⟨PL_lt o1.1, PL_id 0, s_lt2 (fun i hi => by rw [bit, decide_eq_false (by omega)]; rfl), fun u hu => ?_⟩
    rw [LS_PLid o1 o1.1 hu, o4 u hu, bit, decide_eq_true (run _ hu.rev), Bool.true_and]
    show _ ↔ LSs D1 0 u.reverse
    rw [p4 _ hu.rev, LA_rev hA hu.rev, List.reverse_reverse]
  rcases EX_lock (lim := 32) R1 Rf R0 with ⟨e, _⟩ | ⟨L1', L2', T', e1', e2', hp⟩
  · rw [e1] at e; cases e
  · rw [e1] at e1'
    cases e1'
    rw [e2] at e2'
    cases e2'
    refine ⟨hp.1.symm, fun i hi => ?_, fun j hj => rfl⟩
    have hi' : i < L1.length := by rw [hp.1]; exact hi
    obtain ⟨r1, r2, r3, r4⟩ := hp.2 i hi'
    have x := r4 [] (fun _ hs => nomatch hs)
    show decide (L2.getD i 0 &&& nn 1 ≠ 0) = D0.2.2 (L1.getD i 0)
    rw [Bool.eq_iff_iff, decide_eq_true_iff, show nn 1 = 1 from by decide]
    refine Iff.trans ?_ x.symm
    show ¬ (L2.getD i 0 &&& 1 = 0) ↔ (L2.getD i 0).testBit 0 = true
    rw [bit0]
    simp
end SIMQ
end
/-! part 9sb2.snd -/
section
section SIMY
variable {μ ν : TMem} {S : Nat → AM} {a r k t : Int32} {m m' : Nat} {A B : AM} {D D0 D1 D2 D' : DF} {Q : Int32 → TMem → Prop} {X : String → TMem → Prop} {Qi : Int32 → Prop}
theorem aP_cell {i s k : Nat} (h : TBl D) (h32 : D.1 ≤ 32) (hs : s < 3) (hi : i < D.1) : (nn ((aP D).2.2.2 (3 * i + s))).testBit k = true ↔ DW D i s = k := by
  have hd := h.dw hi hs
  show (nn (if 3 * i + s < 3 * D.1 then (1 : Int32) <<< (nI (D.2.1 (3 * i + s)) &&& 31) else 0)).testBit k = true ↔ _
  rw [if_pos (by omega), nn_two _ (show D.2.1 (3 * i + s) < 32 from Nat.lt_of_lt_of_le hd h32), Nat.testBit_two_pow, decide_eq_true_iff]
  exact Iff.rfl
/-- the least of the least: the same -/
theorem again_same (h1 : TBl D) (h2 : D.1 ≤ 32) (h3 : CAN D) (h4 : RED D) : ∃ D3, LSM (aP D) = some D3 ∧ dSm D3 D := by
  obtain ⟨L, T, c1, c2, c3, c4⟩ := h3
  have p2 : ∀ a b : Nat, 2 ^ a = 2 ^ b → a = b := fun a b e => by
    have := congrArg (fun z => z.testBit a) e
    simp only [Nat.testBit_two_pow, decide_true] at this
    exact (decide_eq_true_iff.mp this.symm).symm
  -- the sets are those of one state
  rcases EX_lock (R := fun b Y => b < D.1 ∧ Y = 2 ^ b) (f1 := DW D) (f2 := RA9 (aP D)) (lim := 32) (x1 := 0) (x2 := nn (aP D).2.1) (fun a b a' b' ⟨_, ea⟩ ⟨_, ea'⟩ => ⟨fun e => by rw [ea, ea', e], fun e => p2 _ _ (by rw [← ea, ← ea', e])⟩) (fun a b s hs ⟨hb, ea⟩ => ⟨h1.dw hb hs, s_ext (fun i => by
      rw [Bool.eq_iff_iff, RA9_bit, Nat.testBit_two_pow, decide_eq_true_iff, ea]
      constructor
      · rintro ⟨x, hx, e1, e2⟩
        have hx' : x < D.1 := hx
        rw [Nat.testBit_two_pow, decide_eq_true_iff] at e1
        subst e1
        exact (aP_cell h1 h2 hs hx').mp e2
      · intro e
        exact ⟨a, hb, by rw [Nat.testBit_two_pow, decide_eq_true_iff], (aP_cell h1 h2 hs hb).mpr e⟩)⟩) ⟨h1.1, show nn 1 = 2 ^ 0 from by decide⟩ with ⟨e, _⟩ | ⟨L1, L2, T', e1, e2, hp⟩
  · rw [c1] at e; cases e
  rw [c1] at e1
  cases e1
  obtain ⟨D2, hD2⟩ : ∃ D2, D2 = DFo L2 T (fun Y => decide (Y &&& nn (aP D).2.2.1 ≠ 0)) := ⟨_, rfl⟩
  have eo : OWM (aP D) = some D2 := by
    show (EX 32 (RA9 (aP D)) (fun _ => false) (nn (aP D).2.1)).map _ = _
    rw [e2, hD2]
    rfl
  have n2 : D2.1 = D.1 := by rw [hD2, ← c2]; exact hp.1.symm
  have t2 : D2.2.1 = D.2.1 := by rw [hD2, c4]; rfl
  have g2 : ∀ i, i < D.1 → D2.2.2 i = D.2.2 i := fun i hi => by
    obtain ⟨_, y2⟩ := hp.2 i (by omega)
    rw [c3 i hi] at y2
    have bit : ∀ j, (nn (aP D).2.2.1).testBit j = (decide (j < D.1) && D.2.2 j) := fun j => gmk_bit D.1 h2 j
    rw [hD2]
    show decide (L2.getD i 0 &&& nn (aP D).2.2.1 ≠ 0) = D.2.2 i
    rw [y2, Bool.eq_iff_iff, decide_eq_true_iff, land_ne]
    constructor
    · rintro ⟨j, e1, e2⟩
      rw [Nat.testBit_two_pow, decide_eq_true_iff] at e1
      subst e1
      rw [bit, decide_eq_true hi, Bool.true_and] at e2
      exact e2
    · intro e
      exact ⟨i, by rw [Nat.testBit_two_pow, decide_eq_true_iff], by rw [bit, decide_eq_true hi, Bool.true_and]; exact e⟩
  have w2 : DW D2 = DW D := by funext x s; unfold DW; rw [t2]
  have tb2 : TBl D2 := ⟨by rw [n2]; exact h1.1, fun j hj => by rw [n2] at hj ⊢; rw [t2]; exact h1.2 j hj⟩
  have ls2 : ∀ u i, SG u → i < D.1 → (LSs D2 i u ↔ LSs D i u) := fun u i hu hi => by
    unfold LSs
    rw [w2, g2 _ (h1.run u i hu hi)]
  have pl : ∀ i, i < D.1 → PL D2 i = i := fun i hi => by
    have hi2 : i < D2.1 := by rw [n2]; exact hi
    have hp2 : PL D2 i < D.1 := by rw [← n2]; exact PL_lt hi2
    exact h4 _ _ hp2 hi (fun u hu => by rw [← ls2 u _ hu hp2, ← ls2 u i hu hi]; exact LS_PLid tb2 hi2 hu)
  rcases EX_lock (R := fun a b => a = b ∧ a < D.1) (f1 := DW D) (f2 := fun l s => PL D2 (D2.2.1 (3 * l + s))) (lim := 32) (x1 := 0) (x2 := PL D2 0) (fun a b a' b' ⟨ea, _⟩ ⟨ea', _⟩ => by rw [ea, ea']) (fun a b s hs ⟨ea, ha⟩ => by
      subst ea
      have hd := h1.dw ha hs
      refine ⟨?_, hd⟩
      show DW D a s = PL D2 (DW D2 a s)
      rw [w2, pl _ hd]) ⟨(pl 0 h1.1).symm, h1.1⟩ with ⟨e, _⟩ | ⟨L1', L3, T3, e1', e3, hp3⟩
  · rw [c1] at e; cases e
  rw [c1] at e1'
  cases e1'
  refine ⟨DFo L3 T D2.2.2, ?_, ?_⟩
  · rw [LSM, eo]
    show LSD D2 = _
    rw [LSD, e3]
    rfl
  · have n3 : L3.length = D.1 := by rw [← hp3.1]; exact c2
    refine ⟨n3, fun i hi => ?_, fun j hj => by rw [c4]; rfl⟩
    have hi' : i < L3.length := hi
    have y := (hp3.2 i (by omega)).1
    rw [c3 i (by omega)] at y
    show D2.2.2 (L3.getD i 0) = D.2.2 i
    rw [← y]
    exact g2 i (by omega)
/-! words by their codes -/
def digs : Nat → Nat → List Nat
  | 0, _ => []
  | l + 1, w => w % 3 :: digs l (w / 3)
theorem digs_sg : ∀ l w, SG (digs l w) := by
  intro l
  induction l with
  | zero => intro w x hx; exact nomatch hx
  | succ l ih =>
    intro w x hx
    rcases List.mem_cons.mp hx with e | e
    · rw [e]; exact Nat.mod_lt _ (by decide)
    · exact ih _ x e
theorem SAf_digs {f : Nat → Nat → Nat} : ∀ l w x, SAf f l w x = DRn f x (digs l w) := by
  intro l
  induction l with
  | zero => intro w x; rfl
  | succ l ih => intro w x; exact ih _ _
theorem tk_eq (h : LSM A = some D) (l w : Nat) : bi (D.2.2 (SAf (DW D) l w 0)) = TKv A l w := by
  obtain ⟨_, _, _, _, h5⟩ := LSM_LS h
  have g := h5 (digs l w) (digs_sg l w)
  rw [← LA_acc, ← SAf_digs] at g
  unfold LSs at g
  rw [← SAf_digs] at g
  rw [TKv]
  by_cases e : SAf (RA9 A) l w (nn A.2.1) &&& nn A.2.2.1 = 0
  · rw [if_pos e]
    cases e9 : D.2.2 (SAf (DW D) l w 0) with
    | false => rfl
    | true => exact absurd e (g.mp e9)
  · rw [if_neg e, g.mpr e]
    rfl
theorem e_takingSame {k1 : Nat} (hM : HM μ k1 A) (h32 : A.1 ≤ 32) (hr : 3 * A.1 ≤ tl (k1 + 1)) (hP : HP μ 57 D) (hL : LSM A = some D) (h : Qi 1) : wp_X9_isTakingTheSame k1 μ Qi := by
  have tb := (LSM_LS hL).1
  have L15 : ∀ (l : Nat) (K : Prop), l ≤ 2 → K → ∀ (nf i : Nat), 3 ^ l - i < nf → i ≤ 3 ^ l → wpl_X9_isTakingTheSame_15 k1 μ (nI (3 ^ l)) (nI l) K Qi nf (nI i) := by
    intro l K hl hK
    have p3 := (p3_le (l := l) (by omega)).2
    generalize 3 ^ l = N at *
    intro nf
    induction nf with
    | zero => intro i hk; exact absurd hk (Nat.not_lt_zero _)
    | succ nf ih =>
      intro i hk hi
      refine ⟨fun c => hK, fun c => ?_⟩
      rw [nI_leI (by omega) (by omega)] at c
      have hx : SAf (DW D) l i 0 < D.1 := by rw [SAf_digs]; exact tb.run _ 0 (digs_sg l i) tb.1
      refine e_stateAfter rfl hP (by omega) (by omega) (e_goal hP hx (e_isTaking hM h32 hr (by omega) (by omega) ⟨fun _ => ?_, fun z => absurd (tk_eq hL l i) z⟩))
      rw [nI_1]
      exact ih (i + 1) (by omega) (by omega)
  have L2 : ∀ (nf l : Nat), 3 - l < nf → l ≤ 3 → wpl_X9_isTakingTheSame_2 k1 μ Qi nf (nI l) := by
    intro nf
    induction nf with
    | zero => intro l hk; exact absurd hk (Nat.not_lt_zero _)
    | succ nf ih =>
      intro l hk hl
      refine ⟨fun _ => h, fun c => ?_⟩
      rw [show (2 : Int32) = nI 2 from rfl, nI_ltI (by omega) (by omega)] at c
      refine e_codes (by omega) ?_
      have g := L15 l (wpl_X9_isTakingTheSame_2 k1 μ Qi nf (nI l + (1 : Int32))) (by omega) (by rw [nI_1]; exact ih (l + 1) (by omega) (by omega)) (3 ^ l + 1) 0 (Nat.lt_succ_of_le (Nat.sub_le _ _)) (Nat.zero_le _)
      rw [nI_0] at g
      exact ⟨_, g⟩
  have g := L2 4 0 (by omega) (by omega)
  rw [nI_0] at g
  exact ⟨_, g⟩
theorem dSm.rf : dSm D D := ⟨rfl, fun _ _ => rfl, fun _ _ => rfl⟩
theorem HP.fh {μ9 : TMem} (h : HP μ 57 D) (f : FH 51 μ μ9) : HP μ9 57 D := h.same (f 57 (by decide) (by decide) (by decide) (by decide) (by decide) (by decide) (by decide) (by decide) (by decide) (by decide) (by decide) (by decide) (by decide) (by decide)) (f 58 (by decide) (by decide) (by decide) (by decide) (by decide) (by decide) (by decide) (by decide) (by decide) (by decide) (by decide) (by decide) (by decide) (by decide))
theorem ee_isSound (hc : CSt μ S a r k) (hv : AVs S) (hok : ∀ μ9, CSt μ9 S a r k → Q 1 μ9) : wp_X9_isSound μ Q X := by
  refine e_mach (fun m hm em => ?_) (fun z => absurd (show M1 0 from ⟨by decide, by decide⟩) z)
  have hA := hv m hm
  have v7 := hA.2.1
  have tm := tlm hm
  have cb : CBd (S m) := ⟨by omega, hA.2.2.2.2.1⟩
  have f0 : FNV (S m) 0 = LSM (S m) := by rw [FNV, if_neg (by decide), if_neg (by decide)]
  have f1 : FNV (S m) 1 = LSM (S m) := by rw [FNV, if_neg (by decide), if_neg (by decide)]
  have f2 : FNV (S m) 2 = TWD (S m) := by rw [FNV, if_neg (by decide), if_pos rfl]
  refine e_makeByH (kdm hm) (m31 hm) (k2 := 57) rfl (by decide) (hc.1 m hm) (by omega) (by omega) (fun D μ3 e p3 z3 => ⟨fun _ => ?_, fun q => absurd q (by decide)⟩) (fun e μ3 z3 => ⟨fun q => absurd rfl q, fun _ => hok μ3 (hc.keep (z3.zf rfl))⟩)
  rw [f0] at e
  have c3 := hc.keep (z3.zf rfl)
  obtain ⟨l1, l2, l3, l4, l5⟩ := LSM_LS e
  refine e_makeByH (kdm hm) (m31 hm) (k2 := 51) rfl (by decide) (c3.1 m hm) (by omega) (by omega) (fun D' μ6 e' p6 z6 => ⟨fun q => absurd q (by decide), fun _ => ?_⟩) (fun e' μ6 z6 => absurd (by rw [← e', f1, e]) (fun q : (none : Option DF) = some D => nomatch q))
  rw [f1, e] at e'
  cases e'
  have c6 := c3.keep (z6.zf rfl)
  have q6 := p3.fh z6
  refine e_dSame rfl rfl p6 q6 (fun _ => ⟨fun _ => ?_, fun q => absurd q (by decide)⟩) (fun w => absurd dSm.rf w)
  -- what follows behind turning
  have cont : ∀ μ13 : TMem, CSt μ13 S a r k → HP μ13 57 D → wp_X2_becomePlain 12 57 μ13 (fun (μ16 : TMem) => wp_X3_makeBy 12 51 μ16 (0 : Int32) (fun (r18 : Int32) (μ17 : TMem) => (r18 = 0 → (Q (0 : Int32) μ17)) ∧ (¬ r18 = 0 → (wp_X5_isSameAs 51 57 μ17 (fun (r20 : Int32) => (¬ r20 = 0 → (wp_X9_isTakingTheSame (2 + 2 * m) μ17 (fun (r24 : Int32) => isB r24 ∧ Q r24 μ17))) ∧ (r20 = 0 → (Q (0 : Int32) μ17))))))) := fun μ13 c13 p13 => by
    refine e_becomePlain (k0 := 12) (k1 := 57) rfl rfl p13 (show 3 * D.1 ≤ 96 by omega) (fun μ16 m16 f16 => ?_)
    have c16 : CSt μ16 S a r k := c13.keep ⟨fun q hq => f16 q (by omega) (by omega), fun g i => by rw [f16 43 (by decide) (by decide)]; exact g i⟩
    have p16 : HP μ16 57 D := p13.same (f16 57 (by decide) (by decide)) (f16 58 (by decide) (by decide))
    obtain ⟨D3, e3, s3⟩ := again_same l1 l2 l3 l4
    have f9 : FNV (aP D) 0 = LSM (aP D) := by rw [FNV, if_neg (by decide), if_neg (by decide)]
    refine e_makeByH (k1 := 12) rfl (by decide) (k2 := 51) rfl (by decide) m16 l2 (show 3 * D.1 ≤ 96 by omega) (fun D9 μ17 e9 p17 z17 => ⟨fun q => absurd q (by decide), fun _ => ?_⟩) (fun e9 μ17 z17 => absurd (by rw [← e9, f9, e3]) (fun q : (none : Option DF) = some D3 => nomatch q))
    rw [f9, e3] at e9
    cases e9
    have c17 := c16.keep (z17.zf rfl)
    have q17 := p16.fh z17
    exact e_dSame rfl rfl p17 q17 (fun _ => ⟨fun _ => e_takingSame (c17.1 m hm) (by omega) (by omega) q17 e ⟨Or.inr rfl, hok μ17 c17⟩, fun q => absurd q (by decide)⟩) (fun w => absurd s3 w)
  refine e_makeByH (kdm hm) (m31 hm) (k2 := 51) rfl (by decide) (c6.1 m hm) (by omega) (by omega) (fun D' μ13 e' p13 z13 => ⟨fun q => absurd q (by decide), fun _ => ?_⟩) (fun e' μ13 z13 => ⟨fun _ => cont μ13 (c6.keep (z13.zf rfl)) (q6.fh z13), fun q => absurd rfl q⟩)
  rw [f2] at e'
  exact e_dSame rfl rfl p13 (q6.fh z13) (fun _ => ⟨fun _ => cont μ13 (c6.keep (z13.zf rfl)) (q6.fh z13), fun q => absurd q (by decide)⟩) (fun w => absurd (TWD_same cb e e') w)
theorem gs_isSound (h : SIM μ ν) : wp_X9_isSound μ (fun r μ9 => wp_X11_isSound ν (fun b ν9 => SIM μ9 ν9 ∧ r = b)) (fun _ _ => False) := by
  obtain ⟨S, a, r, k, t, hv, hc, hr⟩ := h
  exact ee_isSound hc hv (fun μ9 c9 => ⟨⟨S, a, r, k, 0, hv, c9, hr.thr 0⟩, rfl⟩)
end SIMY
end
/-! part 9sb3.dig -/
section
section SIMD
variable {μ ν : TMem} {S : Nat → AM} {a r k t : Int32} {m m' : Nat} {A B : AM} {Q : Int32 → TMem → Prop} {Ql : Int64 → Prop} {X : String → TMem → Prop}
/-! the digest -/
def DGc (c : Nat → Int32) : Nat → Int64 → Int64
  | 0, v => v
  | j + 1, v => DGc c j v * 31 + (c j).toInt64
noncomputable def DGt (A : AM) : Nat → Int64 → Int64
  | 0, v => v
  | i + 1, v => DGt A i v * 31 + (TLV A (nI i)).toInt64
noncomputable def DGm (A : AM) (v : Int64) : Int64 := DGc A.2.2.2 (3 * A.1) (DGt A 5 v)
noncomputable def DGa (S : Nat → AM) : Nat → Int64
  | 0 => 8025
  | i + 1 => DGm (S i) (DGa S i)
noncomputable def DGv (S : Nat → AM) (a r k : Int32) : Int64 := (((DGa S 4 * 31 + a.toInt64) * 31 + r.toInt64) * 31 + k.toInt64) * 31 + 1
theorem DGt5 {v : Int64} : DGt A 5 v = ((((v * 31 + (nI A.1).toInt64) * 31 + (AC A).toInt64) * 31 + A.2.1.toInt64) * 31 + A.2.2.1.toInt64) * 31 + (@ite _ (aPl A) (Classical.propDecidable _) (1 : Int32) 0).toInt64 := by
  have t0 : TLV A (nI 0) = nI A.1 := by rw [TLV, if_pos (show nI 0 = (0 : Int32) from rfl)]
  have t1 : TLV A (nI 1) = AC A := by rw [TLV, if_neg (by decide), if_pos (show nI 1 = (1 : Int32) from rfl)]
  have t2 : TLV A (nI 2) = A.2.1 := by rw [TLV, if_neg (by decide), if_neg (by decide), if_pos (show nI 2 = (2 : Int32) from rfl)]
  have t3 : TLV A (nI 3) = A.2.2.1 := by rw [TLV, if_neg (by decide), if_neg (by decide), if_neg (by decide), if_pos (show nI 3 = (3 : Int32) from rfl)]
  have t4 : TLV A (nI 4) = @ite _ (aPl A) (Classical.propDecidable _) (1 : Int32) 0 := by rw [TLV, if_neg (by decide), if_neg (by decide), if_neg (by decide), if_neg (by decide)]
  rw [DGt, DGt, DGt, DGt, DGt, DGt, t0, t1, t2, t3, t4]
theorem e_addMachine {k1 : Nat} {v : Int64} (hM : HM μ k1 A) (h32 : A.1 ≤ 32) (hr : 3 * A.1 ≤ tl (k1 + 1)) (h : Ql (DGm A v)) : wp_X9_addMachine k1 μ v Ql := by
  have L83 : ∀ (x : Nat) (K : Int64 → Prop) (v0 : Int64), x < A.1 → K (DGc A.2.2.2 (3 * x + 3) v0) → ∀ (nf s : Nat), 3 - s < nf → s ≤ 3 → wpl_X9_addMachine_83 k1 μ (nI x) K nf (nI s) (DGc A.2.2.2 (3 * x + s) v0) := by
    intro x K v0 hx hK nf
    induction nf with
    | zero => intro s hk; exact absurd hk (Nat.not_lt_zero _)
    | succ nf ih =>
      intro s hk hs
      refine ⟨fun c => ?_, fun c => ?_⟩
      · rw [show (3 : Int32) = nI 3 from rfl, nI_leI (by omega) (by omega)] at c
        rw [show s = 3 by omega]
        exact hK
      rw [show (3 : Int32) = nI 3 from rfl, nI_leI (by omega) (by omega)] at c
      refine e_atN (by omega) ?_
      rw [hM.2.2.2 _ (by omega), nI_1]
      exact ih (s + 1) (by omega) (by omega)
  have L71 : ∀ (v0 : Int64), Ql (DGc A.2.2.2 (3 * A.1) v0) → ∀ (nf x : Nat), A.1 - x < nf → x ≤ A.1 → wpl_X9_addMachine_71 k1 μ Ql nf (nI x) (DGc A.2.2.2 (3 * x) v0) := by
    intro v0 hQ nf
    induction nf with
    | zero => intro x hk; exact absurd hk (Nat.not_lt_zero _)
    | succ nf ih =>
      intro x hk hx
      refine ⟨fun c => ?_, fun c => ?_⟩
      · rw [hM.1, nI_leI (by omega) (by omega)] at c
        rw [show x = A.1 by omega]
        exact hQ
      rw [hM.1, nI_leI (by omega) (by omega)] at c
      have g := L83 x (fun u22 => wpl_X9_addMachine_71 k1 μ Ql nf (nI x + (1 : Int32)) u22) v0 (by omega) (by rw [nI_1]; exact ih (x + 1) (by omega) (by omega)) 4 0 (by omega) (by omega)
      rw [nI_0] at g
      exact ⟨_, g⟩
  rw [DGm, DGt5] at h
  refine e_countA hM.1 h32 hr hM.2.2.2 ?_
  have go : ∀ (j8 : Int32), j8 = @ite _ (aPl A) (Classical.propDecidable _) (1 : Int32) 0 → ∃ n8x, wpl_X9_addMachine_71 k1 μ Ql n8x (0 : Int32) ((((((((((v * (31 : Int64)) + (μ k1 1).toInt64) * (31 : Int64)) + (ACn A.2.2.2 (3 * A.1)).toInt64) * (31 : Int64)) + (μ k1 3).toInt64) * (31 : Int64)) + (μ k1 2).toInt64) * (31 : Int64)) + j8.toInt64) := fun j8 e => by
    rw [hM.1, hM.2.1, hM.2.2.1, e]
    have g := L71 _ h (A.1 + 1) 0 (by omega) (Nat.zero_le _)
    rw [nI_0] at g
    exact ⟨_, g⟩
  refine e_isPlain hM h32 hr (fun p J hJ => ⟨fun z => absurd z (by decide), fun _ => hJ _ (go 1 (if_pos p).symm)⟩) (fun p J hJ => ⟨fun _ => hJ _ (go 0 (if_neg p).symm), fun z => absurd rfl z⟩)
theorem ee_digest {Q : Int64 → TMem → Prop} (hc : CSt μ S a r k) (hv : AVs S) (hok : ∀ μ9, CSt μ9 S a r k → Q (DGv S a r k) μ9) : wp_X9_digest μ Q X := by
  have L6 : ∀ (K : Int64 → Prop), K (DGa S 4) → ∀ (nf i : Nat), 4 - i < nf → i ≤ 4 → wpl_X9_digest_6 μ K nf (nI i) (DGa S i) := by
    intro K hK nf
    induction nf with
    | zero => intro i hk; exact absurd hk (Nat.not_lt_zero _)
    | succ nf ih =>
      intro i hk hi
      refine ⟨fun c => ?_, fun c => ?_⟩
      · rw [show (4 : Int32) = nI 4 from rfl, nI_leI (by omega) (by omega)] at c
        rw [show i = 4 by omega]
        exact hK
      rw [show (4 : Int32) = nI 4 from rfl, nI_leI (by omega) (by omega)] at c
      have hm : i < 4 := by omega
      have v7 := (hv i hm).2.1
      have tm := tlm hm
      refine ⟨s_in hm (by omega), ?_⟩
      rw [nI_clamp (by omega)]
      refine e_addMachine (hc.1 i hm) (by omega) (by omega) ?_
      rw [nI_1]
      exact ih (i + 1) (by omega) (by omega)
  have g := L6 (fun (u10 : Int64) => wp_X9_isSound μ (fun (r12 : Int32) (μ11 : TMem) => (r12 = 0 → (Q ((((((((u10 * (31 : Int64)) + (μ 0 11).toInt64) * (31 : Int64)) + (μ 0 12).toInt64) * (31 : Int64)) + (μ 0 13).toInt64) * (31 : Int64)) + (0 : Int32).toInt64) μ11)) ∧ (¬ r12 = 0 → (Q ((((((((u10 * (31 : Int64)) + (μ 0 11).toInt64) * (31 : Int64)) + (μ 0 12).toInt64) * (31 : Int64)) + (μ 0 13).toInt64) * (31 : Int64)) + (1 : Int32).toInt64) μ11))) X) (ee_isSound hc hv (fun μ9 c9 => ⟨fun z => absurd z (by decide), fun _ => ?_⟩)) 5 0 (by omega) (by omega)
  · rw [nI_0] at g
    exact ⟨_, g⟩
  · rw [hc.2.1, hc.2.2.1, hc.2.2.2.1, show (1 : Int32).toInt64 = 1 from by decide]
    exact hok μ9 c9
theorem rr_digest {Q : Int64 → TMem → Prop} (h : RSt ν S a r k t) (hv : AVs S) (hok : ∀ ν9, RSt ν9 S a r k 0 → Q (DGv S a r k) ν9) : wp_X11_digest ν Q := by
  have L14 : ∀ (m : Nat) (K : Int64 → TMem → Prop) (v0 : Int64), m < 4 → (∀ ν9 t9, RSt ν9 S a r k t9 → K (DGt (S m) 5 v0) ν9) → ∀ (z i : Nat) (ν1 : TMem) (t1 : Int32), 5 - i < z → i ≤ 5 → RSt ν1 S a r k t1 → wpl_X11_digest_14 (nI m) K z (nI i) (DGt (S m) i v0) ν1 := by
    intro m K v0 hm hK z
    induction z with
    | zero => intro i ν1 t1 hk; exact absurd hk (Nat.not_lt_zero _)
    | succ z ih =>
      intro i ν1 t1 hk hi h1
      refine ⟨fun c => ?_, fun c => ?_⟩
      · rw [show (5 : Int32) = nI 5 from rfl, nI_leI (by omega) (by omega)] at c
        rw [show i = 5 by omega]
        exact hK ν1 t1 h1
      rw [show (5 : Int32) = nI 5 from rfl, nI_leI (by omega) (by omega)] at c
      refine rr_tell h1 hv (fun m' hm' e _ ν9 r9 => ?_) (fun z => absurd (M1_nI hm) z) (fun _ z => absurd (IN_nI (by omega) (by omega) (by omega)) z)
      cases nI_injS rfl e (by omega) (by omega)
      rw [nI_1]
      exact ih (i + 1) ν9 0 (by omega) (by omega) r9
  have L44 : ∀ (m : Nat) (ν1 : TMem) (K : Int64 → Prop) (v0 : Int64), m < 4 → HR ν1 m (S m) → K (DGc (S m).2.2.2 (3 * (S m).1) v0) → ∀ (z j : Nat), 3 * (S m).1 - j < z → j ≤ 3 * (S m).1 → wpl_X11_digest_44 ν1 (nI m) K z (nI j) (DGc (S m).2.2.2 j v0) := by
    intro m ν1 K v0 hm hR hK z
    have v7 := (hv m hm).2.1
    have im : (nI m).toNatClampNeg = m := nI_clamp (by omega)
    induction z with
    | zero => intro j hk; exact absurd hk (Nat.not_lt_zero _)
    | succ z ih =>
      intro j hk hj
      refine ⟨s_in hm (by omega), ?_⟩
      rw [im, hR.1, show (3 : Int32) = nI 3 from rfl, s_mul, Nat.mul_comm (S m).1 3, nI_leI (by omega) (by omega)]
      refine ⟨fun c => ?_, fun c => rr_key0 ⟨?_, ?_⟩⟩
      · rw [show j = 3 * (S m).1 by omega]
        exact hK
      · rw [nI_add]
        exact s_in (show _ < 84 by omega) (by omega)
      · rw [nI_add, nI_clamp (by omega), hR.2.2.2 j (by omega), nI_1]
        exact ih (j + 1) (by omega) (by omega)
  have L6 : ∀ (K : Int64 → TMem → Prop), (∀ ν9 t9, RSt ν9 S a r k t9 → K (DGa S 4) ν9) → ∀ (z i : Nat) (ν1 : TMem) (t1 : Int32), 4 - i < z → i ≤ 4 → RSt ν1 S a r k t1 → wpl_X11_digest_6 K z (nI i) (DGa S i) ν1 := by
    intro K hK z
    induction z with
    | zero => intro i ν1 t1 hk; exact absurd hk (Nat.not_lt_zero _)
    | succ z ih =>
      intro i ν1 t1 hk hi h1
      refine ⟨fun c => ?_, fun c => ?_⟩
      · rw [show (4 : Int32) = nI 4 from rfl, nI_leI (by omega) (by omega)] at c
        rw [show i = 4 by omega]
        exact hK ν1 t1 h1
      rw [show (4 : Int32) = nI 4 from rfl, nI_leI (by omega) (by omega)] at c
      have hm : i < 4 := by omega
      have g := L14 i (fun (u15 : Int64) (μ16 : TMem) => ∃ n16x, wpl_X11_digest_44 μ16 (nI i) (fun (u26 : Int64) => wpl_X11_digest_6 K z (nI i + (1 : Int32)) u26 μ16) n16x (0 : Int32) u15) (DGa S i) hm (fun ν9 t9 r9 => by
        have g9 := L44 i ν9 (fun (u26 : Int64) => wpl_X11_digest_6 K z (nI i + (1 : Int32)) u26 ν9) (DGt (S i) 5 (DGa S i)) hm (r9.1 i hm) (by rw [nI_1]; exact ih (i + 1) ν9 t9 (by omega) (by omega) r9) (3 * (S i).1 + 1) 0 (by omega) (Nat.zero_le _)
        rw [nI_0] at g9
        exact ⟨_, g9⟩) 6 0 ν1 t1 (by omega) (by omega) h1
      rw [nI_0] at g
      exact ⟨_, g⟩
  have g := L6 (fun (u28 : Int64) (μ29 : TMem) => Q ((((((((u28 * (31 : Int64)) + (((tms μ29 0 7 (0 : Int32)) 0 4).toInt64)) * (31 : Int64)) + (((tms μ29 0 7 (0 : Int32)) 0 5).toInt64)) * (31 : Int64)) + (((tms μ29 0 7 (0 : Int32)) 0 6).toInt64)) * (31 : Int64)) + (1 : Int64)) (tms μ29 0 7 (0 : Int32))) (fun ν9 t9 r9 => by
    have r0 := r9.thr 0
    show Q ((((((((DGa S 4 * (31 : Int64)) + (((tms ν9 0 7 (0 : Int32)) 0 4).toInt64)) * (31 : Int64)) + (((tms ν9 0 7 (0 : Int32)) 0 5).toInt64)) * (31 : Int64)) + (((tms ν9 0 7 (0 : Int32)) 0 6).toInt64)) * (31 : Int64)) + (1 : Int64)) (tms ν9 0 7 (0 : Int32))
    rw [r0.2.1, r0.2.2.1, r0.2.2.2.1]
    exact hok _ r0) 5 0 ν t (by omega) (by omega) h
  rw [nI_0] at g
  exact ⟨_, g⟩
theorem gs_digest (h : SIM μ ν) : wp_X9_digest μ (fun r μ9 => wp_X11_digest ν (fun b ν9 => SIM μ9 ν9 ∧ r = b)) (fun _ _ => False) := by
  obtain ⟨S, a, r, k, t, hv, hc, hr⟩ := h
  exact ee_digest hc hv (fun μ9 c9 => rr_digest hr hv (fun ν9 r9 => ⟨⟨S, a, r, k, 0, hv, c9, r9⟩, rfl⟩))
end SIMD
end
