section SAE
variable {μ μ9 : TMem} {S : Nat → AM} {a r k : Int32} {a1 a2 a3 a4 : Int32} {X : String → TMem → Prop} {k0 N : Nat} {ch seed : Int32}
/-- the cells before i are sown -/
def SCF (N : Nat) (ch seed : Int32) (k0 : Nat) (μ μ4 : TMem) (i : Nat) : Prop := (∀ k, k ≠ k0 + 1 → k ≠ 14 → μ4 k = μ k) ∧ μ4 14 0 = XS (nI N) ch seed i ∧ ∀ j, j < i → μ4 (k0 + 1) j = CE (nI N) ch seed j
theorem e_arrowsF {Q : TMem → Prop} (hk : kd k0 = 2) (hn : μ k0 1 = nI N) (hN1 : 1 ≤ N) (hN7 : N ≤ 7) (hr : 3 * N ≤ tl (k0 + 1)) (hc : 0 ≤ ch.toInt ∧ ch.toInt ≤ 6) (hs : μ 14 0 = seed) (h : ∀ μ9 : TMem, SCF N ch seed k0 μ μ9 (3 * N) → Q μ9) : wp_X2_sowArrows k0 μ ch Q := by
  have q := k14 hk
  have en := nI_toInt (n := N) (by omega)
  have L2 : ∀ (a : Nat) (K : TMem → Prop), a < N → (∀ μ9, SCF N ch seed k0 μ μ9 (3 * a + 3) → K μ9) → ∀ (nf b : Nat) (μ4 : TMem), 3 - b < nf → b ≤ 3 → SCF N ch seed k0 μ μ4 (3 * a + b) → wpl_X2_sowArrows_13 k0 (nI a) ch K nf (nI b) μ4 := by
    intro a K ha hK nf
    induction nf with
    | zero => intro b μ4 hk; exact absurd hk (Nat.not_lt_zero _)
    | succ nf ih =>
      intro b μ4 hk1 hb hS
      refine ⟨fun q9 => ?_, fun q9 => ?_⟩
      · rw [show (3 : Int32) = nI 3 from rfl, nI_leI (by omega) (by omega)] at q9
        rw [show 3 * a + b = 3 * a + 3 by omega] at hS
        exact hK μ4 hS
      rw [show (3 : Int32) = nI 3 from rfl, nI_leI (by omega) (by omega)] at q9
      obtain ⟨s1, s2, s3⟩ := hS
      have hn4 : μ4 k0 1 = nI N := by rw [s1 k0 (by omega) q.1]; exact hn
      intro J hJ
      have key : ∀ (v : Int32) (μ9 : TMem), (∀ k, k ≠ 14 → μ9 k = μ4 k) → μ9 14 0 = (CS (nI N) ch (μ4 14 0)).2 → v = (CS (nI N) ch (μ4 14 0)).1 → J v μ9 := by
        intro v μ9 m9 x9 hv
        refine hJ v μ9 (e_putN (by omega) ?_)
        rw [nI_1]
        refine ih (b + 1) _ (by omega) (by omega) ⟨fun k x y => by rw [tms_ne x, m9 k y]; exact s1 k x y, ?_, fun j hj => ?_⟩
        · rw [tms_ne (by omega), x9, s2]
          rfl
        · rw [tms_eq]
          by_cases e : j = 3 * a + b
          · rw [e, upd_at, hv, s2]
            rfl
          · rw [upd_ne e, m9 _ q.2]
            exact s3 j (by omega)
      refine ⟨fun c0 => e_some hk hn4 (by omega) hc (fun μ9 f9 m9 x9 => key _ μ9 m9 ?_ ?_), fun c0 => e_one hk hn4 (by omega) (fun μ9 f9 m9 x9 => key _ μ9 m9 ?_ ?_)⟩
      · rw [x9, CS, if_neg c0]
      · rw [CS, if_neg c0]
      · rw [x9, CS, if_pos c0]
      · rw [CS, if_pos c0]
  have L1 : ∀ (nf a : Nat) (μ4 : TMem), N - a < nf → a ≤ N → SCF N ch seed k0 μ μ4 (3 * a) → wpl_X2_sowArrows_2 k0 ch Q nf (nI a) μ4 := by
    intro nf
    induction nf with
    | zero => intro a μ4 hk; exact absurd hk (Nat.not_lt_zero _)
    | succ nf ih =>
      intro a μ4 hk1 ha hS
      have hn4 : μ4 k0 1 = nI N := by rw [hS.1 k0 (by omega) q.1]; exact hn
      refine ⟨fun q9 => ?_, fun q9 => ?_⟩
      · rw [hn4, nI_leI (by omega) (by omega)] at q9
        rw [show a = N by omega] at hS
        exact h μ4 hS
      rw [hn4, nI_leI (by omega) (by omega)] at q9
      have g := L2 a (fun μ22 => wpl_X2_sowArrows_2 k0 ch Q nf (nI a + (1 : Int32)) μ22) (by omega) (fun μ9 h9 => by rw [nI_1]; exact ih (a + 1) μ9 (by omega) (by omega) h9) 4 0 μ4 (by omega) (by omega) hS
      rw [nI_0] at g
      exact ⟨_, g⟩
  have g := L1 (N + 1) 0 μ (by omega) (Nat.zero_le _) ⟨fun _ _ _ => rfl, hs, fun j hj => absurd hj (Nat.not_lt_zero _)⟩
  rw [nI_0] at g
  exact ⟨_, g⟩
/-- goals drawn: (goals, number) -/
def GSg (x : Int32) : Nat → Int32 × Int32
  | 0 => (0, x)
  | i + 1 => (if md (dr (GSg x i).2 / (64 : Int32)) (2 : Int32) = 0 then (GSg x i).1 ||| ((1 : Int32) <<< (nI i &&& 31)) else (GSg x i).1, dr (GSg x i).2)
theorem e_goalsF {x : Int32} {Q : TMem → Prop} (hk : kd k0 = 2) (hn : μ k0 1 = nI N) (hN7 : N ≤ 7) (hs : μ 14 0 = x) (hg : μ k0 2 = 0) (h : ∀ μ9 : TMem, μ9 k0 1 = nI N → μ9 k0 2 = (GSg x N).1 → μ9 k0 3 = μ k0 3 → (∀ k, k ≠ k0 → k ≠ 14 → μ9 k = μ k) → Q μ9) : wp_X2_sowGoals k0 μ Q := by
  have q := k14 hk
  have L1 : ∀ (nf a : Nat) (μ3 : TMem), N - a < nf → a ≤ N → μ3 k0 1 = nI N → μ3 k0 2 = (GSg x a).1 → μ3 k0 3 = μ k0 3 → μ3 14 0 = (GSg x a).2 → (∀ k, k ≠ k0 → k ≠ 14 → μ3 k = μ k) → wpl_X2_sowGoals_2 k0 Q nf (nI a) μ3 := by
    intro nf
    induction nf with
    | zero => intro a μ3 hk; exact absurd hk (Nat.not_lt_zero _)
    | succ nf ih =>
      intro a μ3 hk1 ha m1 m2 m3 m14 mf
      refine ⟨fun q9 => ?_, fun q9 => ?_⟩
      · rw [m1, nI_leI (by omega) (by omega)] at q9
        rw [show a = N by omega] at m2
        exact h μ3 m1 m2 m3 mf
      rw [m1, nI_leI (by omega) (by omega)] at q9
      refine e_draw (fun μ5 f5 k5 x5 => ?_)
      have e5 : μ5 k0 = μ3 k0 := k5 k0 q.1
      rw [m14] at x5 ⊢
      refine ⟨fun z => ?_, fun z => ?_⟩
      · have z' : ¬ md (dr (GSg x a).2 / (64 : Int32)) (2 : Int32) = 0 := z
        rw [nI_1]
        refine ih (a + 1) μ5 (by omega) (by omega) (by rw [e5]; exact m1) (by rw [e5, m2, GSg, if_neg z']) (by rw [e5]; exact m3) (by rw [x5, GSg]) (fun k y1 y2 => by rw [k5 k y2]; exact mf k y1 y2)
      · have z' : md (dr (GSg x a).2 / (64 : Int32)) (2 : Int32) = 0 := z
        rw [nI_1]
        refine ih (a + 1) _ (by omega) (by omega) (by simp [tms_ix, e5, m1]) ?_ (by simp [tms_ix, e5, m3]) (by rw [tms_ne (by omega), x5, GSg]) (fun k y1 y2 => by rw [tms_ne y1, k5 k y2]; exact mf k y1 y2)
        rw [tms_eq, upd_at, e5, m2, GSg, if_pos z']
  have g := L1 (N + 1) 0 μ (by omega) (Nat.zero_le _) hn (by rw [hg]; rfl) rfl (by rw [hs]; rfl) (fun _ _ _ => rfl)
  rw [nI_0] at g
  exact ⟨_, g⟩
/-- a machine sown -/
def aS (seed : Int32) (N : Nat) (ch : Int32) : AM := (N, 1, (GSg (XS (nI N) ch seed (3 * N)) N).1, fun j => if j < 3 * N then CE (nI N) ch seed j else 0)
theorem ee_sow {Q : Int32 → TMem → Prop} (h : CSt μ S a r k) (hv : AVs S) (hok : ∀ m n, m < 4 → a1 = nI m → a3 = nI n → 1 ≤ n → n ≤ 7 → IN a2 0 65535 → IN a4 0 6 → ∀ μ9, CSt μ9 (sUp S m (aS a2 n a4)) (a + 1) r k → Q (AC (aS a2 n a4)) μ9) (h1 : ¬ M1 a1 → X "java/lang/IndexOutOfBoundsException" μ) (h2 : M1 a1 → ¬ (IN a2 0 65535 ∧ IN a3 1 7 ∧ IN a4 0 6) → X "java/lang/IllegalArgumentException" μ) : wp_X9_sow μ a1 a2 a3 a4 Q X := by
  refine e_mach (fun m hm em => ?_) h1
  have hM1 : M1 a1 := em ▸ M1_nI hm
  refine e_rng (fun y2 => e_rng (fun y3 => e_rng (fun y4 => ?_) (fun z => h2 hM1 (fun w => z w.2.2))) (fun z => h2 hM1 (fun w => z w.2.1))) (fun z => h2 hM1 (fun w => z w.1))
  obtain ⟨N, eN, n1, n7⟩ := IN_ex y3 (by decide)
  have n1' : (1 : Int) ≤ N := n1
  have n7' : (N : Int) ≤ 7 := n7
  have hk := kdm hm
  have q := k14 hk
  have t1 := tlm hm
  have hz : ∀ j, (tms μ 14 0 a2) j = if j = 14 then upd (μ 14) 0 a2 else μ j := fun j => by
    by_cases e : j = 14
    · rw [if_pos e, e, tms_eq]
    · rw [if_neg e, tms_ne e]
  rw [eN]
  show wp_X2_clear (2 + 2 * m) (tms μ 14 0 a2) (nI N) _
  refine e_clearA hk (by omega) (by omega) (fun μ7 h7 f7 => ?_)
  obtain ⟨c1, c2, c3, c4⟩ := h7
  have x7 : μ7 14 0 = a2 := by rw [f7 14 (by omega) (by omega), tms_eq, upd_at]
  refine e_arrowsF (N := N) (seed := a2) hk c1 (by omega) (by omega) (by omega) y4 x7 (fun μ8 s8 => ?_)
  obtain ⟨s1, s2, s3⟩ := s8
  have e8 : μ8 (2 + 2 * m) = μ7 (2 + 2 * m) := s1 _ (by omega) q.1
  refine e_goalsF (N := N) (x := XS (nI N) a4 a2 (3 * N)) hk (by rw [e8]; exact c1) (by omega) s2 (by rw [e8]; exact c3) (fun μ9 g1 g2 g3 gf => ?_)
  have hM9 : HM μ9 (2 + 2 * m) (aS a2 N a4) := ⟨g1, by rw [g3, e8]; exact c2, g2, fun j hj => by
    have hj' : j < 3 * N := hj
    rw [gf _ (by omega) q.2, s3 j hj']
    show _ = if j < 3 * N then _ else _
    rw [if_pos hj']⟩
  refine e_countA hM9.1 (show N ≤ 32 by omega) (show 3 * N ≤ _ by omega) hM9.2.2.2 ?_
  refine hok m N hm em eN (by omega) (by omega) y2 y4 _ (h.act hM9 ?_ (fun j x1 x2 x3 x4 => ?_) (fun g i => ?_))
  · rw [gf 0 (by omega) (by omega), s1 0 (by omega) (by omega), f7 0 (by omega) (by omega), tms_ne (by decide)]
  · rw [gf j x3 (by omega), s1 j x4 (by omega), f7 j x3 x4, tms_ne (by omega)]
  · rw [gf 43 (by omega) (by omega), s1 43 (by omega) (by omega), f7 43 (by omega) (by omega), tms_ne (by decide)]
    exact g i
end SAE
