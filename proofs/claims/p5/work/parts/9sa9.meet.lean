section SMT
variable {μ μ0 : TMem} {k1 k2 : Nat} {D1 D2 : DF}
theorem e_isIn {x : Int32} {i : Nat} {Q : Int32 → Prop} (hi : i < 32) (hQ : Q (bi ((nn x).testBit i))) : wp_X9_isIn x (nI i) Q := by
  refine ⟨fun z => ?_, fun z => ?_⟩
  · rw [s_isIn hi] at z
    rw [z] at hQ
    exact hQ
  · rw [s_isIn hi] at z
    rw [show (nn x).testBit i = true by simpa using z] at hQ
    exact hQ
/-- what two flags make: 0 either, 1 both, 2 the first alone, 3 just one -/
def opW (w : Nat) (x y : Bool) : Bool := if w = 0 then x || y else if w = 1 then x && y else if w = 2 then x && !y else x != y
theorem e_isGoal4 {i w x y : Nat} {g1 g2 : Bool} {Q : Int32 → Prop} (hi : i < 200) (hw : w ≤ 3) (hx : x < 32) (hy : y < 32) (h37 : μ 37 i = nI x) (h39 : μ 39 i = nI y) (e1 : (nn (μ 35 6)).testBit x = g1) (e2 : (nn (μ 35 7)).testBit y = g2) (hQ : Q (bi (opW w g1 g2))) : wp_X4_isGoal μ (nI i) (nI w) Q := by
  refine e_row (k := 36) (show i < tl 37 from hi) ?_
  show wp_X9_isIn (μ 35 6) (μ 37 i) _
  rw [h37]
  refine e_isIn hx ?_
  rw [e1]
  refine e_row (k := 38) (show i < tl 39 from hi) ?_
  show wp_X9_isIn (μ 35 7) (μ 39 i) _
  rw [h39]
  refine e_isIn hy ?_
  rw [e2]
  have w0 : nI w = (0 : Int32) ↔ w = 0 := by rw [← nI_0]; exact nI_eq (by omega) (by omega)
  have w1 : nI w = (1 : Int32) ↔ w = 1 := nI_eq (b := 1) (by omega) (by omega)
  have w2 : nI w = (2 : Int32) ↔ w = 2 := nI_eq (b := 2) (by omega) (by omega)
  refine ⟨fun q => ?_, fun q => ⟨fun q1 => ?_, fun q1 => ⟨fun q2 => ?_, fun q2 => ?_⟩⟩⟩
  · rw [w0] at q
    subst q
    cases g1 <;> cases g2 <;> exact ⟨fun z => by first | exact hQ | exact absurd rfl z, fun z => by first | exact ⟨fun z2 => by first | exact hQ | exact absurd z2 (by decide), fun z2 => by first | exact hQ | exact absurd rfl z2⟩ | exact absurd z (by decide)⟩
  · rw [w1] at q1
    subst q1
    cases g1 <;> cases g2 <;> exact ⟨fun z => by first | exact hQ | exact absurd z (by decide), fun z => by first | exact absurd rfl z | exact ⟨fun z2 => by first | exact hQ | exact absurd z2 (by decide), fun z2 => by first | exact hQ | exact absurd rfl z2⟩⟩
  · rw [w2] at q2
    subst q2
    cases g1 <;> cases g2 <;> exact ⟨fun z => by first | exact hQ | exact absurd z (by decide), fun z => by first | exact absurd rfl z | exact ⟨fun z2 => by first | exact hQ | exact absurd rfl z2, fun z2 => by first | exact hQ | exact absurd z2 (by decide)⟩⟩
  · rw [w0] at q
    rw [w1] at q1
    rw [w2] at q2
    have e : opW w g1 g2 = (g1 != g2) := by rw [opW, if_neg q, if_neg q1, if_neg q2]
    rw [e] at hQ
    cases g1 <;> cases g2 <;> exact ⟨fun z => by first | exact hQ | exact absurd z (by decide), fun z => by first | exact hQ | exact absurd rfl z⟩
theorem e_add {c x y : Nat} {a3 a4 : Int32} {g1 g2 : Bool} {Q : TMem → Prop} (hc : μ 35 8 = nI c) (hc2 : c < 200) (hx : x < 32) (hy : y < 32) (e1 : (nn (μ 35 6)).testBit x = g1) (e2 : (nn (μ 35 7)).testBit y = g2) (hQ : ∀ μ9 : TMem, μ9 35 8 = nI (c + 1) → μ9 35 6 = μ 35 6 → μ9 35 7 = μ 35 7 → μ9 35 9 = (if μ 35 9 = (-1 : Int32) ∧ g1 ≠ g2 then nI c else μ 35 9) → μ9 37 = upd (μ 37) c (nI x) → μ9 39 = upd (μ 39) c (nI y) → μ9 43 = upd (μ 43) c a4 → μ9 47 = upd (μ 47) (x * 32 + y) (nI c) → (∀ k, k ≠ 35 → k ≠ 37 → k ≠ 39 → k ≠ 41 → k ≠ 43 → k ≠ 47 → μ9 k = μ k) → Q μ9) : wp_X4_add μ (nI x) (nI y) a3 a4 Q := by
  unfold wp_X4_add
  rw [hc]
  refine e_rowput (k := 36) (show c < tl 37 from hc2) ?_
  rw [show (tms μ (36 + 1) c (nI x)) 35 8 = nI c by rw [tms_ne (by decide)]; exact hc]
  refine e_rowput (k := 38) (show c < tl 39 from hc2) ?_
  rw [show (tms (tms μ (36 + 1) c (nI x)) (38 + 1) c (nI y)) 35 8 = nI c by rw [tms_ne (by decide), tms_ne (by decide)]; exact hc]
  refine e_rowput (k := 40) (show c < tl 41 from hc2) ?_
  rw [show (tms (tms (tms μ (36 + 1) c (nI x)) (38 + 1) c (nI y)) (40 + 1) c a3) 35 8 = nI c by rw [tms_ne (by decide), tms_ne (by decide), tms_ne (by decide)]; exact hc]
  refine e_rowput (k := 42) (show c < tl 43 from hc2) ?_
  rw [show (tms (tms (tms (tms μ (36 + 1) c (nI x)) (38 + 1) c (nI y)) (40 + 1) c a3) (42 + 1) c a4) 35 8 = nI c by rw [tms_ne (by decide), tms_ne (by decide), tms_ne (by decide), tms_ne (by decide)]; exact hc]
  rw [show (32 : Int32) = nI 32 from rfl, s_mul, nI_add]
  refine e_rowput (k := 46) (show x * 32 + y < tl 47 by rw [show tl 47 = 1024 from rfl]; omega) ?_
  show (¬ (tms (tms (tms (tms (tms μ 37 c (nI x)) 39 c (nI y)) 41 c a3) 43 c a4) 47 (x * 32 + y) (nI c)) 35 9 = (-1 : Int32) → Q (tms (tms (tms (tms (tms (tms μ 37 c (nI x)) 39 c (nI y)) 41 c a3) 43 c a4) 47 (x * 32 + y) (nI c)) 35 8 (((tms (tms (tms (tms (tms μ 37 c (nI x)) 39 c (nI y)) 41 c a3) 43 c a4) 47 (x * 32 + y) (nI c)) 35 8) + (1 : Int32)))) ∧ ((tms (tms (tms (tms (tms μ 37 c (nI x)) 39 c (nI y)) 41 c a3) 43 c a4) 47 (x * 32 + y) (nI c)) 35 9 = (-1 : Int32) → wp_X4_isGoal (tms (tms (tms (tms (tms μ 37 c (nI x)) 39 c (nI y)) 41 c a3) 43 c a4) 47 (x * 32 + y) (nI c)) ((tms (tms (tms (tms (tms μ 37 c (nI x)) 39 c (nI y)) 41 c a3) 43 c a4) 47 (x * 32 + y) (nI c)) 35 8) (nI 3) _)
  generalize hM : (tms (tms (tms (tms (tms μ 37 c (nI x)) 39 c (nI y)) 41 c a3) 43 c a4) 47 (x * 32 + y) (nI c)) = M
  have m35 : M 35 = μ 35 := by rw [← hM, tms_ne (by decide), tms_ne (by decide), tms_ne (by decide), tms_ne (by decide), tms_ne (by decide)]
  have m37 : M 37 = upd (μ 37) c (nI x) := by rw [← hM, tms_ne (by decide), tms_ne (by decide), tms_ne (by decide), tms_ne (by decide), tms_eq]
  have m39 : M 39 = upd (μ 39) c (nI y) := by rw [← hM, tms_ne (by decide), tms_ne (by decide), tms_ne (by decide), tms_eq, tms_ne (by decide)]
  have m43 : M 43 = upd (μ 43) c a4 := by rw [← hM, tms_ne (by decide), tms_eq, tms_ne (by decide), tms_ne (by decide), tms_ne (by decide)]
  have m47 : M 47 = upd (μ 47) (x * 32 + y) (nI c) := by rw [← hM, tms_eq, tms_ne (by decide), tms_ne (by decide), tms_ne (by decide), tms_ne (by decide)]
  have mf : ∀ k, k ≠ 37 → k ≠ 39 → k ≠ 41 → k ≠ 43 → k ≠ 47 → M k = μ k := fun k a b d e f => by rw [← hM, tms_ne f, tms_ne e, tms_ne d, tms_ne b, tms_ne a]
  have last : ∀ z : Int32, (z = if μ 35 9 = (-1 : Int32) ∧ g1 ≠ g2 then nI c else μ 35 9) → ∀ N : TMem, N 35 6 = μ 35 6 → N 35 7 = μ 35 7 → N 35 9 = z → (∀ k, k ≠ 35 → N k = M k) → Q (tms N 35 8 (nI c + (1 : Int32))) := fun z hz N n6 n7 n9 nf => by
    rw [nI_1]
    refine hQ _ (by simp [tms_ix]) (by simp [tms_ix, n6]) (by simp [tms_ix, n7]) (by simp [tms_ix, n9, hz]) ?_ ?_ ?_ ?_ (fun k a b d e f g => ?_)
    · rw [tms_ne (by decide), nf _ (by decide), m37]
    · rw [tms_ne (by decide), nf _ (by decide), m39]
    · rw [tms_ne (by decide), nf _ (by decide), m43]
    · rw [tms_ne (by decide), nf _ (by decide), m47]
    · rw [tms_ne a, nf _ a, mf k b d e f g]
  rw [m35, hc]
  refine ⟨fun z => last _ rfl M (by rw [m35]) (by rw [m35]) (by rw [m35, if_neg (fun w => z w.1)]) (fun _ _ => rfl), fun z => ?_⟩
  refine e_isGoal4 (i := c) (w := 3) (x := x) (y := y) (g1 := g1) (g2 := g2) hc2 (by omega) hx hy (by rw [m37, upd_at]) (by rw [m39, upd_at]) (by rw [m35]; exact e1) (by rw [m35]; exact e2) ⟨fun w => ?_, fun w => ?_⟩
  · rw [bi_0] at w
    have w' : g1 = g2 := by simpa [opW] using w
    have := last _ rfl M (by rw [m35]) (by rw [m35]) (by rw [m35, if_neg (fun q => q.2 w')]) (fun _ _ => rfl)
    exact this
  · rw [bi_0] at w
    have w' : g1 ≠ g2 := by simpa [opW] using w
    have := last _ rfl (tms M 35 9 (nI c)) (by simp [tms_ix, m35]) (by simp [tms_ix, m35]) (by simp [tms_ix, z, w']) (fun k hk => by rw [tms_ne hk])
    have e8 : (tms M 35 9 (nI c)) 35 8 = nI c := by simp [tms_ix, m35, hc]
    rw [e8]
    exact this
end SMT
