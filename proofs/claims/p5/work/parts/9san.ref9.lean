section SRN
variable {ν : TMem} {S : Nat → AM} {a r k t : Int32} {a1 a2 a3 a4 : Int32} {Q : Int32 → TMem → Prop} {Qi : Int32 → Prop} {Qo : Option AI → Prop} {m m' : Nat} {A B : AM} {D D1 D2 : DF} {n4 n15 : Nat} {f5 f16 : Nat → Int32}
theorem rr_both62 {w : Nat} {L T : List Nat} {f19 : Nat → Int32} (hw : w ≤ 3) (h1 : HF n4 f5 D1) (h2 : HF n15 f16 D2) (hR : MR9 D1 D2 32 1 = some (L, T)) (hM : MF9 D1 D2 32 L f19) (h : ∀ g : Nat → Int32, HF (4 * L.length) g (DJ D1 D2 w L T) → Qo (some (4 * L.length, g))) : ∃ z, wpl_X11_both_62 ν f16 n15 f19 100 (4 * L.length) f5 n4 (nI w) Qo z 0 (fun _ => 0) := by
  obtain ⟨c1, c32, cT, cn, cf, cg⟩ := h1
  obtain ⟨d1, d32, dT, dn, df, dg⟩ := h2
  obtain ⟨m0, mL, mL1, mr, mf⟩ := hM
  have hT := MR9_len (by omega) hR
  have hI := EX_idx (by omega) hR
  have hE := (EX.inv (by omega) hR).1
  have hl : ∀ y ∈ L, y < 1024 := fun y hy => by have := mr y hy; omega
  have q4 : ∀ z s : Nat, (4 : Int32) * nI z + nI s = nI (4 * z + s) := fun z s => by rw [show (4 : Int32) = nI 4 from rfl, s_mul, nI_add]
  have L2 : ∀ (x : Nat) (K : (Nat → Int32) → Prop), x < L.length → (∀ fm, RB D1 D2 w L T (3 * x + 3) (x + 1) fm → K fm) → ∀ (z b : Nat) (fm : Nat → Int32), 3 - b < z → b ≤ 3 → RB D1 D2 w L T (3 * x + b) (x + 1) fm → wpl_X11_both_189 ν f16 n15 f19 100 (4 * L.length) f5 n4 (nI (L.getD x 0 % 32)) (nI (L.getD x 0 / 32)) (nI x) (nI w) K z (nI b) fm := by
    intro x K hx hK z
    induction z with
    | zero => intro b fm hk; exact absurd hk (Nat.not_lt_zero _)
    | succ z ih =>
      intro b fm hk hb hB
      refine ⟨fun q => ?_, fun q => ?_⟩
      · rw [show (3 : Int32) = nI 3 from rfl, nI_leI (by omega) (by omega)] at q
        rw [show 3 * x + b = 3 * x + 3 by omega] at hB
        exact hK fm hB
      rw [show (3 : Int32) = nI 3 from rfl, nI_leI (by omega) (by omega)] at q
      have am := mr _ (getD_mem (L := L) hx)
      have lt1 := cT (3 * (L.getD x 0 / 32) + b) (by omega)
      have lt2 := dT (3 * (L.getD x 0 % 32) + b) (by omega)
      obtain ⟨ti, tx⟩ := hE.2.2 (3 * x + b) (by omega)
      have te := hI (3 * x + b) (by omega)
      rw [show (3 * x + b) / 3 = x by omega, show (3 * x + b) % 3 = b by omega] at tx te
      rw [q4, q4, nI_clamp (by omega), nI_clamp (by omega), cf _ b am.1 (by omega), df _ b am.2 (by omega), show (32 : Int32) = nI 32 from rfl, s_mul, nI_add]
      have ev : D1.2.1 (3 * (L.getD x 0 / 32) + b) * 32 + D2.2.1 (3 * (L.getD x 0 % 32) + b) = L.getD (T.getD (3 * x + b) 0) 0 := by rw [tx]; rfl
      rw [ev]
      have z0 : fm (4 * x + b) = 0 := by
        have := hB.1 (3 * x + b) (by omega)
        rw [show (3 * x + b) / 3 = x by omega, show (3 * x + b) % 3 = b by omega, if_neg (by omega)] at this
        exact this
      refine ⟨s_in (by omega) (by omega), s_in (by omega) (by omega), rr_bt221 mL hx (by omega) mf hl (by omega) ti (by rw [tx, ← te]) z0 ?_⟩
      rw [nI_1]
      refine ih (b + 1) _ (by omega) (by omega) ⟨fun j hj => ?_, fun i hi => by rw [upd_ne (by omega)]; exact hB.2 i hi⟩
      by_cases e : j = 3 * x + b
      · rw [e, show (3 * x + b) / 3 = x by omega, show (3 * x + b) % 3 = b by omega, upd_at, if_pos (by omega)]
      · rw [upd_ne (by omega), hB.1 j hj]
        by_cases e2 : j < 3 * x + b
        · rw [if_pos e2, if_pos (by omega)]
        · rw [if_neg e2, if_neg (by omega)]
  have L1 : ∀ (z x : Nat) (fm : Nat → Int32), L.length - x < z → x ≤ L.length → RB D1 D2 w L T (3 * x) x fm → wpl_X11_both_62 ν f16 n15 f19 100 (4 * L.length) f5 n4 (nI w) Qo z (nI x) fm := by
    intro z
    induction z with
    | zero => intro x fm hk; exact absurd hk (Nat.not_lt_zero _)
    | succ z ih =>
      intro x fm hk hx hB
      have z0 : (0 : Int32).toNatClampNeg = 0 := rfl
      refine ⟨s_in (a := 0) (by omega) (by omega), ?_⟩
      rw [z0, m0]
      refine ⟨fun q => ?_, fun q => ?_⟩
      · rw [nI_leI (by omega) (by omega)] at q
        have e : x = L.length := by omega
        subst e
        refine h fm ⟨mL1, mL, fun j hj => ?_, rfl, fun i s hi hs => ?_, fun i hi => hB.2 i hi⟩
        · have hj' : j < 3 * L.length := hj
          exact (hE.2.2 j (by omega)).1
        · have hi' : i < L.length := hi
          have := hB.1 (3 * i + s) (by omega)
          rw [show (3 * i + s) / 3 = i by omega, show (3 * i + s) % 3 = s by omega, if_pos (by omega)] at this
          exact this
      rw [nI_leI (by omega) (by omega)] at q
      have am := mr _ (getD_mem (L := L) (i := x) (by omega))
      have hlx := hl _ (getD_mem (L := L) (i := x) (by omega))
      have q3 : ∀ z : Nat, (4 : Int32) * nI z + (3 : Int32) = nI (4 * z + 3) := fun z => q4 z 3
      rw [s_t1, nI_clamp (by omega), mf x (by omega)]
      have es : nI (L.getD x 0) / (32 : Int32) = nI (L.getD x 0 / 32) := by rw [show (32 : Int32) = nI 32 from rfl, s_div (by omega) (by omega) (by omega)]
      have er : nI (L.getD x 0) - nI (L.getD x 0) / (32 : Int32) * (32 : Int32) = nI (L.getD x 0 % 32) := by rw [show (32 : Int32) = nI 32 from rfl, s_mod (by omega) (by omega) (by omega)]
      rw [er, es, q3, q3, q3, nI_clamp (by omega), nI_clamp (by omega), nI_clamp (by omega), cg _ am.1, dg _ am.2]
      refine ⟨s_in (by omega) (by omega), s_in (by omega) (by omega), s_in (by omega) (by omega), s_in (by omega) (by omega), fun J hJ => opW_i hw (hJ _ ⟨s_in (by omega) (by omega), ?_⟩)⟩
      have g := L2 x (fun (f65 : Nat → Int32) => wpl_X11_both_62 ν f16 n15 f19 100 (4 * L.length) f5 n4 (nI w) Qo z (nI x + (1 : Int32)) f65) (by omega) (fun fm9 h9 => by rw [nI_1]; exact ih (x + 1) fm9 (by omega) (by omega) h9) 4 0 (upd fm (4 * x + 3) (bi (opW w (D1.2.2 (L.getD x 0 / 32)) (D2.2.2 (L.getD x 0 % 32))))) (by omega) (by omega) ⟨fun j hj => by rw [upd_ne (by omega)]; exact hB.1 j hj, fun i hi => by
        by_cases e : i = x
        · rw [e, upd_at]
        · rw [upd_ne (by omega)]; exact hB.2 i (by omega)⟩
      rw [nI_0] at g
      exact ⟨_, g⟩
  have g := L1 (L.length + 1) 0 (fun _ => 0) (by omega) (Nat.zero_le _) ⟨fun j hj => by rw [if_neg (by omega)], fun i hi => absurd hi (Nat.not_lt_zero _)⟩
  rw [nI_0] at g
  exact ⟨_, g⟩
theorem rr_both {w : Nat} (hw : w ≤ 3) (hm : m < 4) (hm' : m' < 4) (hA : HR ν m A) (hB : HR ν m' B) (vA : AV A) (vB : AV B) (h1 : ∀ (D : DF) (nf : Nat) (g : Nat → Int32), BTH A B w = some D → HF nf g D → Qo (some (nf, g))) (h0 : BTH A B w = none → Qo none) : wp_X11_both ν (nI m) (nI m') (nI w) Qo := by
  refine rr_oneWayA hm hA vA (fun D1 n4 f5 e1 F1 => ⟨(fun z => nomatch z), fun n4' f5' z => ?_⟩) (fun e1 => ⟨fun _ => rr_oneWayA hm' hB vB (fun D2 n15 f16 e2 F2 => ⟨(fun z => nomatch z), fun _ _ _ => h0 (by rw [BTH, PRS, e1]; rfl)⟩) (fun e2 => ⟨fun _ => h0 (by rw [BTH, PRS, e1]; rfl), (fun _ _ z => nomatch z)⟩), (fun _ _ z => nomatch z)⟩)
  cases z
  refine rr_oneWayA hm' hB vB (fun D2 n15 f16 e2 F2 => ⟨(fun z => nomatch z), fun n15' f16' z => ?_⟩) (fun e2 => ⟨fun _ => h0 (by rw [BTH, PRS, e1, e2]; rfl), (fun _ _ z => nomatch z)⟩)
  cases z
  have z0 : (0 : Int32).toNatClampNeg = 0 := rfl
  refine rr_met (lim := 32) (w := 1) (v16 := 0) F1 F2 (by omega) (by omega) ⟨fun _ => by decide, fun _ => rfl⟩ (fun L T f19 hR hM => ?_) (fun hR f19 hf => ?_)
  · have m0 := hM.1
    have mL := hM.2.1
    have mL1 := hM.2.2.1
    refine ⟨s_in (a := 0) (by omega) (by omega), ?_⟩
    rw [z0, m0, show (4 : Int32) = nI 4 from rfl, s_mul, nI_clamp (by omega)]
    refine ⟨fun _ => ⟨s_in (a := 0) (by omega) (by omega), ⟨nI_pos (by omega), by omega⟩, rr_both62 hw F1 F2 hR hM (fun g hg => h1 _ _ g ?_ hg)⟩, fun q => absurd (by rw [show (32 : Int32) = nI 32 from rfl, nI_leI (by omega) (by omega)]; omega) q⟩
    rw [BTH, PRS, e1, e2]
    show Option.map _ ((MR9 D1 D2 32 1).map _) = _
    rw [hR]
    rfl
  · refine ⟨s_in (a := 0) (by omega) (by omega), ?_⟩
    rw [z0, hf]
    refine ⟨fun q => absurd q (by decide), fun _ => h0 ?_⟩
    rw [BTH, PRS, e1, e2]
    show Option.map _ ((MR9 D1 D2 32 1).map _) = _
    rw [hR]
    rfl
theorem rr_combine (h : RSt ν S a r k t) (hv : AVs S) (hok : ∀ m m' mi w D, m < 4 → m' < 4 → mi < 4 → a1 = nI m → a2 = nI m' → a4 = nI mi → a3 = nI w → w ≤ 3 → SM7 (BLS (S m) (S m') w) D → ∀ ν9, RSt ν9 (sUp S mi (aP D)) (a + 1) r k 0 → Q (nI D.1) ν9) (hre : ∀ m m' mi w, m < 4 → m' < 4 → mi < 4 → a1 = nI m → a2 = nI m' → a4 = nI mi → a3 = nI w → w ≤ 3 → NO7 (BLS (S m) (S m') w) → ∀ ν9, RSt ν9 S a (r + 1) k 0 → Q (-9) ν9) (h1 : ¬ (ONE2 a1 a2 ∧ M1 a4) → ∀ b ν9, RSt ν9 S a r k 1 → Q b ν9) (h2 : ONE2 a1 a2 ∧ M1 a4 → ¬ IN a3 0 3 → ∀ b ν9, RSt ν9 S a r k 2 → Q b ν9) : wp_X11_combine ν a1 a2 a3 a4 Q := by
  have bad : ¬ (ONE2 a1 a2 ∧ M1 a4) → ∀ (B : TMem → Prop), wp_X11_isIn a3 (0 : Int32) (3 : Int32) (fun (r4 : Int32) => wp_X11_isThrown ν 0 r4 (fun (r6 : Int32) (μ5 : TMem) => (r6 = 0 → B μ5) ∧ (¬ r6 = 0 → (Q (0 : Int32) μ5)))) := fun z B => rr_in (fun _ => th_1 ⟨fun q => absurd q (by decide), fun _ => h1 z _ _ (h.thr 1)⟩) (fun _ => th_1 ⟨fun q => absurd q (by decide), fun _ => h1 z _ _ (h.thr 1)⟩)
  refine rr_one (fun m hm em J hJ => ⟨fun z => absurd z (by decide), fun _ => ?_⟩) (fun z J hJ => ⟨fun _ => hJ 0 (bad (fun q => z q.1.1) _), fun q => absurd rfl q⟩)
  refine rr_one (fun m' hm' em' => ⟨fun z => absurd z (by decide), fun _ => ?_⟩) (fun z => ⟨fun _ => hJ 0 (bad (fun q => z q.1.2) _), fun q => absurd rfl q⟩)
  refine rr_one (fun mi hmi emi => ⟨fun z => absurd z (by decide), fun _ => hJ 1 ?_⟩) (fun z => ⟨fun _ => hJ 0 (bad (fun q => z q.2) _), fun q => absurd rfl q⟩)
  refine rr_in (fun z => th_ok ⟨fun _ => ?_, fun q => absurd rfl q⟩) (fun z => th_2 ⟨fun q => absurd q (by decide), fun _ => h2 ⟨⟨em ▸ M1_nI hm, em' ▸ M1_nI hm'⟩, emi ▸ M1_nI hmi⟩ z _ _ (h.thr 2)⟩)
  obtain ⟨w, ew, w0, w3⟩ := IN_ex z (by decide)
  have w3' : (w : Int) ≤ 3 := w3
  have h0 := h.thr 0
  have hok' := fun D => hok m m' mi w D hm hm' hmi em em' emi ew (by omega)
  have hre' := hre m m' mi w hm hm' hmi em em' emi ew (by omega)
  rw [em, em', emi, ew]
  refine rr_both (by omega) hm hm' (h0.1 m hm) (h0.1 m' hm') (hv m hm) (hv m' hm') (fun D nf g e F => ⟨(fun z => nomatch z), fun n11 f12 z => ?_⟩) (fun e => ⟨fun _ => ⟨fun _ => hre' (fun D' e' => by rw [BLS, e] at e'; cases e') _ h0.ref, (fun _ _ z => nomatch z)⟩, (fun _ _ z => nomatch z)⟩)
  cases z
  refine rr_least F (fun D' nf' g' e' F' => ⟨(fun z => nomatch z), fun n22 f23 z => ?_⟩)
  cases z
  have eb : BLS (S m) (S m') w = some D' := by rw [BLS, e]; exact e'
  exact rr_become h0 F' hmi (fun q => hok' D' ⟨eb, q, F'.1, F'.2.2.1⟩) (fun q => hre' (fun D9 e9 => by rw [eb] at e9; cases e9; exact q))
end SRN
