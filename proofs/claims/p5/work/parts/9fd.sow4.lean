section SOZ
variable {μ : TMem} {n ch : Int32} {Q : Int32 → Prop} {Qm : Int32 → TMem → Prop} {Qv : TMem → Prop}
/-- where the cell i of the machine a lies -/
def LK (a : Int32) (i : Nat) : Nat := 21 * a.toInt.toNat + i
theorem r_key {a b c : Int32} {i j : Nat} (hm : M1 a) (hb : b.toInt = i) (hc : c.toInt = j) (hi : i ≤ 6) (hj : j ≤ 2) (h : ∀ r : Int32, vp_in r 84 → r.toNatClampNeg = LK a (3 * i + j) → Q r) : wp_X11_key a b c Q :=
  t_key hm ⟨by omega, by omega⟩ ⟨by omega, by omega⟩ (fun r hr => h r (in84 (by have := hm.1; omega) (by have := hm.2; omega)) (by have := hm.1; rw [ii_cl, hr, LK]; omega))
/-- sown as far as the cell i: nothing else of row 4 changed -/
theorem r_79 {a1 v28 v29 v33 x0 : Int32} {a b : Nat} {K : Int32 → TMem → Prop} (h28 : v28.toInt = b) (h29 : v29.toInt = a) (hb : b ≤ 2) (ha : a ≤ 6) (hm : M1 a1) (hn1 : 1 ≤ n.toInt) (hn7 : n.toInt ≤ 7) (h33 : 0 ≤ v33.toInt ∧ v33.toInt ≤ 6) (hI : RI μ) (hz : μ 4 (LK a1 (3 * a + b)) = 0)
    (hK : ∀ μ9 : TMem, FQ μ μ9 → (∀ j, j ≠ LK a1 (3 * a + b) → μ9 4 j = μ 4 j) → (∀ k, k ≠ 4 → μ9 k = μ k) → μ9 4 (LK a1 (3 * a + b)) = (CS n v33 x0).1 → K (CS n v33 x0).2 μ9) : ∃ nf, wpl_X11_sow_79 v28 v29 a1 n v33 K nf 0 x0 μ := by
  have d1 : ¬ (v33 + (1 : Int32)) = 0 := by
    intro e
    have := congrArg Int32.toInt e
    rw [show (v33 + (1 : Int32)).toInt = v33.toInt + 1 from ii_a rfl rfl (by omega) (by omega), ii_0] at this
    omega
  have d2 : ¬ n = 0 := by
    intro e
    rw [e, ii_0] at hn1
    omega
  by_cases c0 : v33 = 0
  · refine ⟨2, ?_⟩
    intro J hJ
    refine ⟨fun c => absurd c0 c, fun _ => hJ 1 ⟨fun c => absurd c (by decide), fun _ => ⟨fun c => absurd c0 c, fun _ => r_key hm h29 h28 ha hb (fun r hr er => ⟨d2, hr, ?_⟩)⟩⟩⟩
    intro J2 hJ2
    refine ⟨fun c => absurd c0 c, fun _ => hJ2 1 ⟨fun _ => ?_, fun c => absurd (by decide) c⟩⟩
    have := hK (tms μ 4 r.toNatClampNeg ((1 : Int32) <<< (md (dr x0 / (64 : Int32)) n &&& 31))) ((FQ.rf hI).st (by decide) (Or.inl (by decide))) (fun j hj => by rw [er]; simp [tms, upd, hj]) (fun k hk => by simp [tms, hk]) (by rw [er, CS, if_pos c0]; simp [tms, upd])
    rw [CS, if_pos c0] at this
    exact this
  · have L : ∀ (nf f : Nat) (t x : Int32) (μ5 : TMem), ((7 : Int) - t.toInt).toNat < nf → ((7 : Int) - t.toInt).toNat < f → FQ μ μ5 → (∀ j, j ≠ LK a1 (3 * a + b) → μ5 4 j = μ 4 j) → (∀ k, k ≠ 4 → μ5 k = μ k) → SS n v33 f t (μ5 4 (LK a1 (3 * a + b))) x = SS n v33 8 0 0 x0 → wpl_X11_sow_79 v28 v29 a1 n v33 K nf t x μ5 := by
      intro nf
      induction nf with
      | zero => intro f t x μ5 hk; exact absurd hk (Nat.not_lt_zero _)
      | succ nf ih =>
        intro f t x μ5 hk1 hf f5 m5 k5 hS
        obtain ⟨g, rfl⟩ : ∃ g, f = g + 1 := ⟨f - 1, by omega⟩
        intro J hJ
        refine ⟨fun _ => hJ n ⟨fun c => ?_, fun c => ⟨fun _ => ⟨d1, fun c2 => ?_, fun c2 => r_key hm h29 h28 ha hb (fun r hr er => ⟨hr, hr, ?_⟩)⟩, fun z => absurd z c0⟩⟩, fun z => absurd z c0⟩
        · have e : SS n v33 (g + 1) t (μ5 4 (LK a1 (3 * a + b))) x = (μ5 4 (LK a1 (3 * a + b)), x) := by rw [SS, if_pos c]
          rw [e] at hS
          have := hK μ5 f5 m5 k5 (by rw [CS, if_neg c0, ← hS])
          rw [CS, if_neg c0, ← hS] at this
          exact this
        · have c1 := nle c
          have e1 := inc_i c
          refine ih g _ (dr x) μ5 (by omega) (by omega) f5 m5 k5 ?_
          rw [← hS, SS, if_neg c, if_neg (show ¬ md (dr x / (64 : Int32)) (v33 + (1 : Int32)) = 0 from c2)]
        · have c1 := nle c
          have e1 := inc_i c
          rw [er]
          refine ih g _ (dr x) _ (by omega) (by omega) (f5.st (by decide) (Or.inl (by decide))) (fun j hj => by simp only [tms, upd, if_true, if_neg hj]; exact m5 j hj) (fun k hk => by simp only [tms, if_neg hk]; exact k5 k hk) ?_
          rw [← hS, SS, if_neg c, if_pos (show md (dr x / (64 : Int32)) (v33 + (1 : Int32)) = 0 from c2)]
          simp only [tms, upd, if_true]
    exact ⟨_, L _ 8 0 x0 μ (Nat.lt_succ_self _) (by decide) (FQ.rf hI) (fun _ _ => rfl) (fun _ _ => rfl) (by rw [hz])⟩
end SOZ
