section SOW
theorem pop_ex : ∃ f : Int32 → Int32, f 0 = 0 ∧ ∀ (a : Int32) (Q : Int32 → Prop), Q (f a) → wp_J6_bitCount_0f7a4 a Q := by
  refine ⟨_, ?_, fun a Q h => h⟩
  decide
noncomputable def pop : Int32 → Int32 := Classical.choose pop_ex
theorem pop_0 : pop 0 = 0 := (Classical.choose_spec pop_ex).1
theorem pop_w {a : Int32} {Q : Int32 → Prop} (h : Q (pop a)) : wp_J6_bitCount_0f7a4 a Q := (Classical.choose_spec pop_ex).2 a Q h
/-- the next number drawn -/
def dr (x : Int32) : Int32 := ((x * (25173 : Int32)) + (13849 : Int32)) - ((x * (25173 : Int32)) + (13849 : Int32)) / (65536 : Int32) * (65536 : Int32)
def md (a b : Int32) : Int32 := a - a / b * b
/-- a set sown for a choice other than 0: (set, number) after it -/
def SS (n ch : Int32) : Nat → Int32 → Int32 → Int32 → Int32 × Int32
  | 0, _, s, x => (s, x)
  | k + 1, t, s, x => if n ≤ t then (s, x) else SS n ch k (t + (1 : Int32)) (if md (dr x / (64 : Int32)) (ch + (1 : Int32)) = 0 then s ||| ((1 : Int32) <<< (t &&& 31)) else s) (dr x)
def CS (n ch x : Int32) : Int32 × Int32 := if ch = 0 then ((1 : Int32) <<< (md (dr x / (64 : Int32)) n &&& 31), dr x) else SS n ch 8 0 0 x
/-- the number before the cell i, and the cell -/
def XS (n ch seed : Int32) : Nat → Int32
  | 0 => seed
  | i + 1 => (CS n ch (XS n ch seed i)).2
def CE (n ch seed : Int32) (i : Nat) : Int32 := (CS n ch (XS n ch seed i)).1
noncomputable def AN (n ch seed : Int32) : Nat → Int32
  | 0 => 0
  | i + 1 => AN n ch seed i + pop (CE n ch seed i)
variable {μ : TMem} {k0 : Nat} {n ch : Int32}
theorem e_draw {Q : Int32 → TMem → Prop} (h : ∀ μ9 : TMem, Fr 3 μ μ9 → (∀ k, k ≠ 14 → μ9 k = μ k) → μ9 14 0 = dr (μ 14 0) → Q (dr (μ 14 0) / (64 : Int32)) μ9) : wp_X0_draw μ Q := by
  have e : (tms μ 14 0 (dr (μ 14 0))) 14 0 = dr (μ 14 0) := by simp [tms, upd]
  have e' : wp_X0_draw μ Q = Q (((tms μ 14 0 (dr (μ 14 0))) 14 0) / (64 : Int32)) (tms μ 14 0 (dr (μ 14 0))) := rfl
  rw [e', e]
  exact h _ (Fr.st Fr.rf (by rfl) (Or.inl (by decide))) (fun k hk => by simp [tms, hk]) e
theorem k14 (hk : kd k0 = 2) : k0 ≠ 14 ∧ k0 + 1 ≠ 14 := by
  refine ⟨fun e => by rw [e] at hk; exact absurd hk (by decide), fun e => ?_⟩
  have : k0 = 13 := by omega
  rw [this] at hk
  exact absurd hk (by decide)
theorem e_some (hk : kd k0 = 2) (hn : μ k0 1 = n) (hn7 : n.toInt ≤ 7) (hc : 0 ≤ ch.toInt ∧ ch.toInt ≤ 6) {Q : Int32 → TMem → Prop} (h : ∀ μ9 : TMem, Fr 3 μ μ9 → (∀ k, k ≠ 14 → μ9 k = μ k) → μ9 14 0 = (SS n ch 8 0 0 (μ 14 0)).2 → Q (SS n ch 8 0 0 (μ 14 0)).1 μ9) : wp_X2_sowSome k0 μ ch Q := by
  have d0 : ¬ ch < 0 := by rw [l_lt, ii_0]; omega
  have d1 : ¬ (ch + (1 : Int32)) = 0 := by
    intro e
    have := congrArg Int32.toInt e
    rw [show (ch + (1 : Int32)).toInt = ch.toInt + 1 from ii_a rfl rfl (by omega) (by omega), ii_0] at this
    omega
  have L : ∀ (nf f : Nat) (t sv : Int32) (μ5 : TMem), ((7 : Int) - t.toInt).toNat < nf → ((7 : Int) - t.toInt).toNat < f → Fr 3 μ μ5 → (∀ k, k ≠ 14 → μ5 k = μ k) → SS n ch f t sv (μ5 14 0) = SS n ch 8 0 0 (μ 14 0) → wpl_X2_sowSome_5 k0 ch Q nf t sv μ5 := by
    intro nf
    induction nf with
    | zero => intro f t sv μ5 hk; exact absurd hk (Nat.not_lt_zero _)
    | succ nf ih =>
      intro f t sv μ5 hk1 hf fr hm hS
      obtain ⟨g, rfl⟩ : ∃ g, f = g + 1 := ⟨f - 1, by omega⟩
      have hn5 : μ5 k0 1 = n := by rw [hm k0 (k14 hk).1]; exact hn
      refine ⟨fun c => ?_, fun c => e_draw (fun μ9 f9 m9 x9 => ⟨fun z => absurd z d0, fun _ => ⟨d1, fun c2 => ?_, fun c2 => ?_⟩⟩)⟩
      · rw [hn5] at c
        have e : SS n ch (g + 1) t sv (μ5 14 0) = (sv, μ5 14 0) := by rw [SS, if_pos c]
        rw [e] at hS
        have := h μ5 fr hm (by rw [← hS])
        rw [← hS] at this
        exact this
      all_goals
        rw [hn5] at c
        have c1 := nle c
        have e1 := inc_i c
        refine ih g _ _ μ9 (by omega) (by omega) (fr.trans f9) (fun k hk => (m9 k hk).trans (hm k hk)) ?_
        rw [← hS, SS, if_neg c, x9]
        first | rw [if_neg (show ¬ md (dr (μ5 14 0) / (64 : Int32)) (ch + (1 : Int32)) = 0 from c2)] | rw [if_pos (show md (dr (μ5 14 0) / (64 : Int32)) (ch + (1 : Int32)) = 0 from c2)]
  exact ⟨_, L _ 8 0 0 μ (Nat.lt_succ_self _) (by decide) Fr.rf (fun _ _ => rfl) rfl⟩
theorem e_one (hk : kd k0 = 2) (hn : μ k0 1 = n) (hn1 : 1 ≤ n.toInt) {Q : Int32 → TMem → Prop} (h : ∀ μ9 : TMem, Fr 3 μ μ9 → (∀ k, k ≠ 14 → μ9 k = μ k) → μ9 14 0 = dr (μ 14 0) → Q ((1 : Int32) <<< (md (dr (μ 14 0) / (64 : Int32)) n &&& 31)) μ9) : wp_X2_sowOne k0 μ Q := by
  refine e_draw (fun μ9 f9 m9 x9 => ?_)
  have hn9 : μ9 k0 1 = n := by rw [m9 k0 (k14 hk).1]; exact hn
  refine ⟨fun c => ?_, fun _ => ?_⟩
  · rw [hn9, l_le, ii_0] at c
    omega
  · rw [hn9]
    refine ⟨fun e => ?_, h μ9 f9 m9 x9⟩
    rw [e, ii_0] at hn1
    omega
end SOW
