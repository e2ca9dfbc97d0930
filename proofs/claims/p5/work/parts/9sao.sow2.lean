section SRO
variable {ν : TMem} {S : Nat → AM} {a r k t : Int32} {a1 a2 a3 a4 : Int32} {Q : Int32 → TMem → Prop} {m N : Nat} {ch seed : Int32}
theorem RSt.ri (h : RSt ν S a r k t) (hv : AVs S) : RI ν := fun i hi => by
  have e := (h.1 i hi).1
  have v := hv i hi
  have v1 := v.1
  have v7 := v.2.1
  rw [e, nI_toInt (by omega)]
  omega
theorem LK_nI {j : Nat} (hm : m < 4) : LK (nI m) j = 21 * m + j := by
  rw [LK, nI_toInt (by omega)]
  rfl
def SR8 (N m : Nat) (ch seed : Int32) (ν ν9 : TMem) (i : Nat) : Prop := RI ν9 ∧ (∀ k, k ≠ 4 → ν9 k = ν k) ∧ (∀ p, (p < 21 * m ∨ 21 * m + 21 ≤ p) → ν9 4 p = ν 4 p) ∧ (∀ j, j < i → ν9 4 (21 * m + j) = CE (nI N) ch seed j) ∧ ∀ j, i ≤ j → j < 21 → ν9 4 (21 * m + j) = 0
theorem rr_61 {K : Int32 → TMem → Prop} (hm : m < 4) (hN1 : 1 ≤ N) (hN7 : N ≤ 7) (hc : 0 ≤ ch.toInt ∧ ch.toInt ≤ 6) (h0 : SR8 N m ch seed ν ν 0) (hK : ∀ ν9 : TMem, SR8 N m ch seed ν ν9 (3 * N) → K (XS (nI N) ch seed (3 * N)) ν9) : ∃ nf, wpl_X11_sow_61 (nI m) (nI N) ch K nf 0 seed ν := by
  have en := nI_toInt (n := N) (by omega)
  have L70 : ∀ (x : Nat) (K2 : Int32 → TMem → Prop), x < N → (∀ ν9 : TMem, SR8 N m ch seed ν ν9 (3 * x + 3) → K2 (XS (nI N) ch seed (3 * x + 3)) ν9) → ∀ (nf b : Nat) (ν1 : TMem), 3 - b < nf → b ≤ 3 → SR8 N m ch seed ν ν1 (3 * x + b) → wpl_X11_sow_70 (nI x) (nI m) (nI N) ch K2 nf (nI b) (XS (nI N) ch seed (3 * x + b)) ν1 := by
    intro x K2 hx hK2 nf
    induction nf with
    | zero => intro b ν1 hk; exact absurd hk (Nat.not_lt_zero _)
    | succ nf ih =>
      intro b ν1 hk hb hS
      refine ⟨fun q => ?_, fun q => ?_⟩
      · rw [show (3 : Int32) = nI 3 from rfl, nI_leI (by omega) (by omega)] at q
        rw [show 3 * x + b = 3 * x + 3 by omega] at hS ⊢
        exact hK2 ν1 hS
      rw [show (3 : Int32) = nI 3 from rfl, nI_leI (by omega) (by omega)] at q
      obtain ⟨s1, s2, s3, s4, s5⟩ := hS
      have lk := LK_nI (j := 3 * x + b) hm
      refine r_79 (a := x) (b := b) (nI_toInt (by omega)) (nI_toInt (by omega)) (by omega) (by omega) (M1_nI hm) (by omega) (by omega) hc s1 (by rw [lk]; exact s5 _ (Nat.le_refl _) (by omega)) (fun ν9 f9 m9 k9 x9 => ?_)
      rw [lk] at m9 x9
      rw [nI_1]
      refine ih (b + 1) ν9 (by omega) (by omega) ⟨f9.1, fun k hk => (k9 k hk).trans (s2 k hk), fun p hp => by rw [m9 p (by omega)]; exact s3 p hp, fun j hj => ?_, fun j j1 j2 => by rw [m9 _ (by omega)]; exact s5 j (by omega) j2⟩
      by_cases e : j = 3 * x + b
      · rw [e, x9]
        rfl
      · rw [m9 _ (by omega)]
        exact s4 j (by omega)
  have L61 : ∀ (nf x : Nat) (ν1 : TMem), N - x < nf → x ≤ N → SR8 N m ch seed ν ν1 (3 * x) → wpl_X11_sow_61 (nI m) (nI N) ch K nf (nI x) (XS (nI N) ch seed (3 * x)) ν1 := by
    intro nf
    induction nf with
    | zero => intro x ν1 hk; exact absurd hk (Nat.not_lt_zero _)
    | succ nf ih =>
      intro x ν1 hk hx hS
      refine ⟨fun q => ?_, fun q => ?_⟩
      · rw [nI_leI (by omega) (by omega)] at q
        rw [show x = N by omega] at hS ⊢
        exact hK ν1 hS
      rw [nI_leI (by omega) (by omega)] at q
      have g := L70 x (fun (u52 : Int32) (μ53 : TMem) => wpl_X11_sow_61 (nI m) (nI N) ch K nf (nI x + (1 : Int32)) u52 μ53) (by omega) (fun ν9 h9 => by rw [nI_1]; exact ih (x + 1) ν9 (by omega) (by omega) h9) 4 0 ν1 (by omega) (by omega) hS
      rw [nI_0] at g
      exact ⟨_, g⟩
  have g := L61 (N + 1) 0 ν (by omega) (by omega) h0
  rw [nI_0] at g
  exact ⟨_, g⟩
theorem rr_193 {x : Int32} {K : TMem → Prop} (hm : m < 4) (hN7 : N ≤ 7) (hg : ν 3 m = 0) (hK : ∀ ν9 : TMem, ν9 3 m = (GSg x N).1 → (∀ i, i ≠ m → ν9 3 i = ν 3 i) → (∀ k, k ≠ 3 → ν9 k = ν k) → K ν9) : ∃ nf, wpl_X11_sow_193 (nI m) (nI N) K nf 0 x ν := by
  have im : (nI m).toNatClampNeg = m := nI_clamp (by omega)
  have L : ∀ (nf i : Nat) (ν1 : TMem), N - i < nf → i ≤ N → ν1 3 m = (GSg x i).1 → (∀ j, j ≠ m → ν1 3 j = ν 3 j) → (∀ k, k ≠ 3 → ν1 k = ν k) → wpl_X11_sow_193 (nI m) (nI N) K nf (nI i) (GSg x i).2 ν1 := by
    intro nf
    induction nf with
    | zero => intro i ν1 hk; exact absurd hk (Nat.not_lt_zero _)
    | succ nf ih =>
      intro i ν1 hk hi w1 w2 w3
      refine ⟨fun q => ?_, fun q => ⟨fun z => ?_, fun z => ⟨s_in hm (by omega), s_in hm (by omega), ?_⟩⟩⟩
      · rw [nI_leI (by omega) (by omega)] at q
        rw [show i = N by omega] at w1
        exact hK ν1 w1 w2 w3
      · rw [nI_leI (by omega) (by omega)] at q
        have z' : ¬ md (dr (GSg x i).2 / (64 : Int32)) (2 : Int32) = 0 := z
        rw [nI_1]
        exact ih (i + 1) ν1 (by omega) (by omega) (by rw [w1, GSg, if_neg z']) w2 w3
      · rw [nI_leI (by omega) (by omega)] at q
        have z' : md (dr (GSg x i).2 / (64 : Int32)) (2 : Int32) = 0 := z
        rw [nI_1, im, w1]
        exact ih (i + 1) _ (by omega) (by omega) (by rw [tms_eq, upd_at, GSg, if_pos z']) (fun j hj => by rw [tms_eq, upd_ne hj]; exact w2 j hj) (fun k hk => by rw [tms_ne hk]; exact w3 k hk)
  have g := L (N + 1) 0 ν (by omega) (by omega) hg (fun _ _ => rfl) (fun _ _ => rfl)
  rw [nI_0] at g
  exact ⟨_, g⟩
/-- numbers drawn stay below 65536 -/
def DRW (x : Int32) : Prop := ∃ X : Nat, X < 65536 ∧ x = nI X
theorem dr_ok {x : Int32} (h : DRW x) : ∃ Y : Nat, Y < 65536 ∧ dr x = nI Y ∧ dr x / (64 : Int32) = nI (Y / 64) := by
  obtain ⟨X, hX, rfl⟩ := h
  have e : dr (nI X) = nI ((X * 25173 + 13849) % 65536) := by
    rw [dr, show (25173 : Int32) = nI 25173 from rfl, show (13849 : Int32) = nI 13849 from rfl, show (65536 : Int32) = nI 65536 from rfl, s_mul, nI_add, s_mod (by omega) (by omega) (by omega)]
  refine ⟨(X * 25173 + 13849) % 65536, by omega, e, ?_⟩
  rw [e, show (64 : Int32) = nI 64 from rfl, s_div (by omega) (by omega) (by omega)]
theorem SS_ok : ∀ (z t : Nat) (s x : Int32), t + z < 100 → N ≤ 7 → nn s < 2 ^ N → DRW x → nn (SS (nI N) ch z (nI t) s x).1 < 2 ^ N ∧ DRW (SS (nI N) ch z (nI t) s x).2 := by
  intro z
  induction z with
  | zero => intro t s x _ _ hs hx; exact ⟨hs, hx⟩
  | succ z ih =>
    intro t s x ht hN hs hx
    rw [SS]
    by_cases c : nI N ≤ nI t
    · rw [if_pos c]; exact ⟨hs, hx⟩
    · rw [if_neg c, nI_1]
      obtain ⟨Y, hY, eY, _⟩ := dr_ok hx
      rw [nI_leI (by omega) (by omega)] at c
      refine ih (t + 1) _ _ (by omega) hN ?_ ⟨Y, hY, eY⟩
      split
      · rw [nn_or, nn_two t (by omega)]
        refine s_lt2 (fun i hi => ?_)
        rw [s_or2, s_big hs hi, decide_eq_false (by omega)]
        rfl
      · exact hs
theorem CS_ok {x : Int32} (hN1 : 1 ≤ N) (hN7 : N ≤ 7) (hx : DRW x) : nn (CS (nI N) ch x).1 < 2 ^ N ∧ DRW (CS (nI N) ch x).2 := by
  rw [CS]
  by_cases c : ch = 0
  · rw [if_pos c]
    obtain ⟨Y, hY, eY, e2⟩ := dr_ok hx
    refine ⟨?_, Y, hY, eY⟩
    show nn ((1 : Int32) <<< (md (dr x / (64 : Int32)) (nI N) &&& 31)) < 2 ^ N
    have h2 := Nat.mod_lt (Y / 64) (show N > 0 by omega)
    rw [e2, md, s_mod (by omega) (by omega) (by omega), nn_two _ (by omega)]
    exact Nat.pow_lt_pow_right (by decide) h2
  · rw [if_neg c]
    have g := SS_ok (N := N) (ch := ch) 8 0 0 x (by omega) hN7 (by rw [nn_0]; exact Nat.two_pow_pos N) hx
    rw [nI_0] at g
    exact g
theorem XS_ok (hN1 : 1 ≤ N) (hN7 : N ≤ 7) (hs : DRW seed) : ∀ i, DRW (XS (nI N) ch seed i) := by
  intro i
  induction i with
  | zero => exact hs
  | succ i ih => exact (CS_ok hN1 hN7 ih).2
theorem GSg_ok {x : Int32} : ∀ i, i ≤ 7 → nn (GSg x i).1 < 2 ^ i := by
  intro i
  induction i with
  | zero => intro _; show nn 0 < 1; rw [nn_0]; omega
  | succ i ih =>
    intro hi
    have h := ih (by omega)
    rw [GSg]
    split
    · show nn ((GSg x i).1 ||| ((1 : Int32) <<< (nI i &&& 31))) < _
      rw [nn_or, nn_two i (by omega)]
      refine s_lt2 (fun j hj => ?_)
      rw [s_or2, s_big h (by omega), decide_eq_false (by omega)]
      rfl
    · show nn (GSg x i).1 < _
      exact Nat.lt_trans h (Nat.pow_lt_pow_right (by decide) (by omega))
theorem aS_AV (hN1 : 1 ≤ N) (hN7 : N ≤ 7) (hs : IN seed 0 65535) : AV (aS seed N ch) := by
  obtain ⟨X, eX, x1, x2⟩ := IN_ex hs (by decide)
  have x2' : (X : Int) ≤ 65535 := x2
  have hd : DRW seed := ⟨X, by omega, eX⟩
  refine ⟨hN1, hN7, ?_, GSg_ok N hN7, fun j hj => ?_, fun j hj => ?_⟩
  · show nn 1 < 2 ^ N
    rw [show nn 1 = 1 from by decide]
    exact Nat.one_lt_two_pow (by omega)
  · have hj' : j < 3 * N := hj
    show nn (if j < 3 * N then CE (nI N) ch seed j else 0) < 2 ^ N
    rw [if_pos hj']
    exact (CS_ok hN1 hN7 (XS_ok hN1 hN7 hd j)).1
  · have hj' : 3 * N ≤ j := hj
    show (if j < 3 * N then CE (nI N) ch seed j else 0) = 0
    rw [if_neg (by omega)]
theorem rr_sow (h : RSt ν S a r k t) (hv : AVs S) (hok : ∀ m n, m < 4 → a1 = nI m → a3 = nI n → 1 ≤ n → n ≤ 7 → IN a2 0 65535 → IN a4 0 6 → ∀ ν9, RSt ν9 (sUp S m (aS a2 n a4)) (a + 1) r k 0 → Q (AC (aS a2 n a4)) ν9) (h1 : ¬ M1 a1 → ∀ b ν9, RSt ν9 S a r k 1 → Q b ν9) (h2 : M1 a1 → ¬ (IN a2 0 65535 ∧ IN a3 1 7 ∧ IN a4 0 6) → ∀ b ν9, RSt ν9 S a r k 2 → Q b ν9) : wp_X11_sow ν a1 a2 a3 a4 Q := by
  have b1 : ¬ M1 a1 → ∀ (y : Int32) (B : TMem → Prop), wp_X11_isThrown ν 0 y (fun (r6 : Int32) (μ5 : TMem) => (r6 = 0 → B μ5) ∧ (¬ r6 = 0 → (Q (0 : Int32) μ5))) := fun z y B => th_1 ⟨fun q => absurd q (by decide), fun _ => h1 z _ _ (h.thr 1)⟩
  have b2 : M1 a1 → ¬ (IN a2 0 65535 ∧ IN a3 1 7 ∧ IN a4 0 6) → ∀ (B : TMem → Prop), wp_X11_isThrown ν 1 0 (fun (r6 : Int32) (μ5 : TMem) => (r6 = 0 → B μ5) ∧ (¬ r6 = 0 → (Q (0 : Int32) μ5))) := fun z z2 B => th_2 ⟨fun q => absurd q (by decide), fun _ => h2 z z2 _ _ (h.thr 2)⟩
  refine rr_one (fun m hm em => ?_) (fun z => ?_)
  · have hM : M1 a1 := em ▸ M1_nI hm
    refine rr_in (fun y2 J hJ => ⟨fun q => absurd q (by decide), fun _ => rr_in (fun y3 => ⟨fun q => absurd q (by decide), fun _ => rr_in (fun y4 => ⟨fun q => absurd q (by decide), fun _ => hJ 1 (th_ok ⟨fun _ => ?_, fun q => absurd rfl q⟩)⟩) (fun y4 => ⟨fun _ => hJ 0 (b2 hM (fun q => y4 q.2.2) _), fun q => absurd rfl q⟩)⟩) (fun y3 => ⟨fun _ => hJ 0 (b2 hM (fun q => y3 q.2.1) _), fun q => absurd rfl q⟩)⟩) (fun y2 J hJ => ⟨fun _ => hJ 0 (b2 hM (fun q => y2 q.1) _), fun q => absurd rfl q⟩)
    obtain ⟨N, eN, n1, n7⟩ := IN_ex y3 (by decide)
    have n1' : (1 : Int) ≤ N := n1
    have n7' : (N : Int) ≤ 7 := n7
    have h0 := h.thr 0
    have hok' := hok m N hm em eN (by omega) (by omega) y2 y4
    have hRI := h0.ri hv
    rw [em, eN]
    generalize hN0 : tms ν 0 7 0 = W at *
    refine rr_clear hm (fun ν8 hR8 hF8 => ?_)
    have ri8 : RI ν8 := fun i hi => by
      by_cases e : i = m
      · rw [e, hR8.1, show (nI (aC N).1).toInt = (N : Int) from nI_toInt (show N < 2 ^ 31 by omega)]; omega
      · rw [(hF8.2.1 i e).1]; exact hRI i hi
    refine rr_61 (N := N) (seed := a2) (ch := a4) hm (by omega) (by omega) y4 ⟨ri8, fun _ _ => rfl, fun _ _ => rfl, fun j hj => absurd hj (Nat.not_lt_zero _), fun j _ hj => hR8.2.2.2 j hj⟩ (fun ν9 s9 => ?_)
    obtain ⟨s1, s2, s3, s4, s5⟩ := s9
    refine rr_193 (N := N) hm (by omega) (by rw [s2 3 (by decide)]; exact hR8.2.2.1) (fun νa g1 g2 g3 => ?_)
    have hRS : HR νa m (aS a2 N a4) := ⟨by rw [g3 1 (by decide), s2 1 (by decide)]; exact hR8.1, by rw [g3 2 (by decide), s2 2 (by decide)]; exact hR8.2.1, g1, fun j hj => by
      rw [g3 4 (by decide)]
      show _ = if j < 3 * N then _ else _
      by_cases e : j < 3 * N
      · rw [if_pos e]; exact s4 j e
      · rw [if_neg e]; exact s5 j (by omega) hj⟩
    refine rr_arrowsOf hm hRS (aS_AV (by omega) (by omega) y2) (hok' _ (h0.act hRS ⟨?_, fun i hi => ⟨?_, ?_, ?_⟩, fun p hp => ?_⟩))
    · rw [g3 0 (by decide), s2 0 (by decide)]; exact hF8.1
    · rw [g3 1 (by decide), s2 1 (by decide)]; exact (hF8.2.1 i hi).1
    · rw [g3 2 (by decide), s2 2 (by decide)]; exact (hF8.2.1 i hi).2.1
    · rw [g2 i hi, s2 3 (by decide)]; exact (hF8.2.1 i hi).2.2
    · rw [g3 4 (by decide), s3 p hp]; exact hF8.2.2 p hp
  · refine rr_in (fun y2 J hJ => ⟨fun _ => hJ 0 (b1 z _ _), fun _ => rr_in (fun y3 => ⟨fun _ => hJ 0 (b1 z _ _), fun _ => rr_in (fun y4 => ⟨fun _ => hJ 0 (b1 z _ _), fun _ => hJ 1 (b1 z _ _)⟩) (fun y4 => ⟨fun _ => hJ 0 (b1 z _ _), fun q => absurd rfl q⟩)⟩) (fun y3 => ⟨fun _ => hJ 0 (b1 z _ _), fun q => absurd rfl q⟩)⟩) (fun y2 J hJ => ⟨fun _ => hJ 0 (b1 z _ _), fun q => absurd rfl q⟩)
end SRO
