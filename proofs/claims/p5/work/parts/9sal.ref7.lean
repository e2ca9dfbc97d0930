section SRL
variable {ν : TMem} {S : Nat → AM} {a r k t : Int32} {a1 a2 a3 a4 : Int32} {Q : Int32 → TMem → Prop} {Qi : Int32 → Prop} {Qo : Option AI → Prop} {m : Nat} {A B : AM} {D D1 D2 : DF} {na1 na2 : Nat} {fa1 fa2 : Nat → Int32} {n : Nat}
theorem rr_unlike {p : Nat} (h1 : HF na1 fa1 D1) (h2 : HF na2 fa2 D2) (hp : p / 32 < D1.1 ∧ p % 32 < D2.1) (h : Qi (bi (uM D1 D2 p))) : wp_X11_isUnlike na1 fa1 na2 fa2 (nI p) Qi := by
  obtain ⟨c1, c32, cT, cn, cf, cg⟩ := h1
  obtain ⟨d1, d32, dT, dn, df, dg⟩ := h2
  unfold wp_X11_isUnlike
  have e1 : ((4 : Int32) * (nI p / (32 : Int32))) + (3 : Int32) = nI (4 * (p / 32) + 3) := by
    rw [show (32 : Int32) = nI 32 from rfl, s_div (by omega) (by omega) (by omega), show (4 : Int32) = nI 4 from rfl, show (3 : Int32) = nI 3 from rfl, s_mul, nI_add]
  have e2 : ((4 : Int32) * (nI p - nI p / (32 : Int32) * (32 : Int32))) + (3 : Int32) = nI (4 * (p % 32) + 3) := by
    rw [show (32 : Int32) = nI 32 from rfl, s_mod (by omega) (by omega) (by omega), show (4 : Int32) = nI 4 from rfl, show (3 : Int32) = nI 3 from rfl, s_mul, nI_add]
  rw [e1, e2, nI_clamp (by omega), nI_clamp (by omega), cg _ hp.1, dg _ hp.2, bi_inj]
  refine ⟨s_in (by omega) (by omega), s_in (by omega) (by omega), fun z => ?_, fun z => ?_⟩
  · rw [show uM D1 D2 p = false by rw [uM, z]; simp] at h
    exact h
  · rw [show uM D1 D2 p = true by rw [uM]; simpa using z] at h
    exact h
/-- where the reference's meeting stands -/
def RMT (D1 D2 : DF) (lim : Nat) (u : Nat → Bool) (R : Option (List Nat × List Nat)) (L T : List Nat) (f : Nat → Int32) : Prop := EI lim (fM D1 D2) u R L T ∧ (∀ x ∈ L, x / 32 < D1.1 ∧ x % 32 < D2.1) ∧ ∀ i, i < L.length → f (3 * i + 1) = nI (L.getD i 0)
variable {lim : Nat} {w : Int32} {R : Option (List Nat × List Nat)}
theorem s_t1 (x : Nat) : (3 : Int32) * nI x + (1 : Int32) = nI (3 * x + 1) := by
  rw [show (3 : Int32) = nI 3 from rfl, show (1 : Int32) = nI 1 from rfl, s_mul, nI_add]
theorem s_t2 (x : Nat) : (3 : Int32) * nI x + (2 : Int32) = nI (3 * x + 2) := by
  rw [show (3 : Int32) = nI 3 from rfl, show (2 : Int32) = nI 2 from rfl, s_mul, nI_add]
theorem s_t3 (x : Nat) : (3 : Int32) * nI x + (3 : Int32) = nI (3 * x + 3) := by
  rw [show (3 : Int32) = nI 3 from rfl, s_mul, nI_add]
theorem rr_mt87 {f : Nat → Int32} {L : List Nat} {x n8 : Nat} {v25 v26 v28 v29 : Int32} {K : Int32 → Prop} (hn : 3 * L.length ≤ n8) (h200 : L.length ≤ 200) (hx : x < 1024) (hl : ∀ y ∈ L, y < 1024) (hf : ∀ i, i < L.length → f (3 * i + 1) = nI (L.getD i 0)) (h : K (nI (L.idxOf x))) : ∃ z, wpl_X11_met_87 fa1 na1 fa2 na2 f n8 (nI x) v25 v26 (nI L.length) v28 v29 K z 0 := by
  have go : ∀ (z i : Nat), L.length - i < z → i ≤ L.length → (∀ j, j < i → L.getD j 0 ≠ x) → wpl_X11_met_87 fa1 na1 fa2 na2 f n8 (nI x) v25 v26 (nI L.length) v28 v29 K z (nI i) := by
    intro z
    induction z with
    | zero => intro i hk; exact absurd hk (Nat.not_lt_zero _)
    | succ z ih =>
      intro i hk hi hno
      refine ⟨fun q => ?_, fun q => ?_⟩
      · rw [nI_leI (by omega) (by omega)] at q
        rw [List.idxOf_eq_length (not_mem_of (fun j hj => hno j (by omega)))] at h
        rw [show i = L.length by omega]
        exact h
      rw [nI_leI (by omega) (by omega)] at q
      have b := hl _ (getD_mem (L := L) (i := i) (by omega))
      rw [s_t1, nI_clamp (by omega), hf i (by omega), nI_eq (by omega) (by omega), nI_1]
      refine ⟨s_in (by omega) (by omega), fun y => ?_, fun y => ih (i + 1) (by omega) (by omega) (fun j hj => ?_)⟩
      · rw [idx_of (by omega) y hno] at h
        exact h
      · by_cases e : j = i
        · rw [e]; exact y
        · exact hno j (by omega)
  have g := go (L.length + 1) 0 (by omega) (by omega) (fun j hj => absurd hj (Nat.not_lt_zero _))
  rw [nI_0] at g
  exact ⟨_, g⟩
/-- what is behind a step: how many, and whether to stop -/
theorem rr_mtfin {v16 : Int32} {f : Nat → Int32} {L T : List Nat} {NEXT : Prop} {Qn : Nat → (Nat → Int32) → Prop} (h1 : HF na1 fa1 D1) (h2 : HF na2 fa2 D2) (hlim : lim ≤ 200) (hw : v16 = 0 ↔ ¬ w = 0) (hM : RMT D1 D2 lim (uW D1 D2 w) R L T f) (hN : uW D1 D2 w (L.getD (L.length - 1) 0) = false → NEXT) (hQ : R = some (L, T) → Qn (3 * (lim + 1) + 1) (upd f 0 (nI L.length))) :
    vp_in (0 : Int32) (3 * (lim + 1) + 1) ∧ (((nI lim) < (nI L.length) → (Qn (3 * (lim + 1) + 1) (upd f (0 : Int32).toNatClampNeg (nI L.length)))) ∧ (¬ (nI lim) < (nI L.length) → ((v16 = 0 → NEXT) ∧ (¬ v16 = 0 → (vp_in (((3 : Int32) * (nI L.length)) - (2 : Int32)) (3 * (lim + 1) + 1) ∧ (wp_X11_isUnlike na1 fa1 na2 fa2 ((upd f (0 : Int32).toNatClampNeg (nI L.length)) (((3 : Int32) * (nI L.length)) - (2 : Int32)).toNatClampNeg) (fun (r42 : Int32) => (r42 = 0 → NEXT) ∧ (¬ r42 = 0 → (Qn (3 * (lim + 1) + 1) (upd f (0 : Int32).toNatClampNeg (nI L.length))))))))))) := by
  obtain ⟨e1, e2, e3⟩ := hM
  have hL := e1.2.1
  have hL1 := e1.2.2.1
  have lm : L.getD (L.length - 1) 0 ∈ L := getD_mem (by omega)
  have z0 : (0 : Int32).toNatClampNeg = 0 := rfl
  rw [z0, nI_ltI (by omega) (by omega)]
  refine ⟨s_in (a := 0) (by omega) (by omega), fun q => absurd q (by omega), fun _ => ⟨fun q => hN (by rw [uW, decide_eq_false (hw.mp q)]; rfl), fun q => ?_⟩⟩
  have w0 : w = 0 := Classical.byContradiction (fun z => q (hw.mpr z))
  have e : (3 : Int32) * nI L.length - (2 : Int32) = nI (3 * (L.length - 1) + 1) := by
    rw [show (3 : Int32) = nI 3 from rfl, show (2 : Int32) = nI 2 from rfl, s_mul, s_sub (by omega) (by omega)]
    congr 1
    omega
  rw [e, nI_clamp (by omega), upd_ne (by omega), e3 _ (by omega)]
  refine ⟨s_in (by omega) (by omega), rr_unlike h1 h2 (e2 _ lm) ⟨fun z => hN ?_, fun z => hQ (e1.done (Or.inr ?_))⟩⟩
  · rw [bi_0] at z
    rw [uW, z]; simp
  · rw [bi_0] at z
    rw [uW, decide_eq_true w0, Bool.true_and]
    simpa using z
theorem rr_mt27 {x : Nat} {v16 : Int32} {K : Int32 → (Nat → Int32) → Prop} {Qn : Nat → (Nat → Int32) → Prop} (h1 : HF na1 fa1 D1) (h2 : HF na2 fa2 D2) (hlim : lim ≤ 200) (hw : v16 = 0 ↔ ¬ w = 0)
    (hK : ∀ (L T : List Nat) (f : Nat → Int32), T.length = 3 * (x + 1) → x < L.length → f 0 = nI L.length → RMT D1 D2 lim (uW D1 D2 w) R L T f → K (nI L.length) f) (hQ1 : ∀ (L T : List Nat) (f : Nat → Int32), R = some (L, T) → f 0 = nI L.length → RMT D1 D2 lim (uW D1 D2 w) R L T f → Qn (3 * (lim + 1) + 1) f) (hQ0 : R = none → ∀ f : Nat → Int32, f 0 = nI (lim + 1) → Qn (3 * (lim + 1) + 1) f) :
    ∀ (z b : Nat) (L T : List Nat) (f : Nat → Int32), 3 - b < z → b ≤ 3 → T.length = 3 * x + b → x < L.length → f 0 = nI L.length → uW D1 D2 w (L.getD (L.length - 1) 0) = false → RMT D1 D2 lim (uW D1 D2 w) R L T f → wpl_X11_met_27 fa1 na1 fa2 na2 (3 * (lim + 1) + 1) (nI x) (nI lim) v16 K Qn z (nI b) (nI L.length) f := by
  intro z
  induction z with
  | zero => intro b L T f hk; exact absurd hk (Nat.not_lt_zero _)
  | succ z ih =>
    intro b L T f hk hb hT hx hf0 hu hM
    have hM' := hM
    obtain ⟨e1, e2, e3⟩ := hM'
    obtain ⟨c1, c32, cT, cn, cf, cg⟩ := h1
    obtain ⟨d1, d32, dT, dn, df, dg⟩ := h2
    have hL := e1.2.1
    refine ⟨fun q => ?_, fun q => ?_⟩
    · rw [show (3 : Int32) = nI 3 from rfl, nI_leI (by omega) (by omega)] at q
      exact hK L T f (by omega) hx hf0 hM
    rw [show (3 : Int32) = nI 3 from rfl, nI_leI (by omega) (by omega)] at q
    have hd : ¬ (3 * L.length ≤ T.length ∨ uW D1 D2 w (L.getD (L.length - 1) 0) = true) := fun y => y.elim (fun y => by omega) (fun y => by rw [hu] at y; cases y)
    have am := e2 _ (getD_mem hx)
    have lt1 := cT (3 * (L.getD x 0 / 32) + b) (by omega)
    have lt2 := dT (3 * (L.getD x 0 % 32) + b) (by omega)
    have hq : nxt (fM D1 D2) L T = D1.2.1 (3 * (L.getD x 0 / 32) + b) * 32 + D2.2.1 (3 * (L.getD x 0 % 32) + b) := by
      rw [nxt, hT, show (3 * x + b) / 3 = x by omega, show (3 * x + b) % 3 = b by omega]
      rfl
    have hl : ∀ y ∈ L, y < 1024 := fun y hy => by have := e2 y hy; omega
    refine ⟨by rw [s_t1]; exact s_in (by omega) (by omega), fun J20 hJ20 => ⟨fun _ => ?_, fun y => absurd (by rw [← nI_0, nI_leI (by omega) (by omega)]; omega) y⟩⟩
    rw [s_t1, nI_clamp (by omega), e3 x hx]
    have e4a : ((4 : Int32) * (nI (L.getD x 0) / (32 : Int32))) + nI b = nI (4 * (L.getD x 0 / 32) + b) := by
      rw [show (32 : Int32) = nI 32 from rfl, s_div (by omega) (by omega) (by omega), show (4 : Int32) = nI 4 from rfl, s_mul, nI_add]
    have e4b : ((4 : Int32) * (nI (L.getD x 0) - nI (L.getD x 0) / (32 : Int32) * (32 : Int32))) + nI b = nI (4 * (L.getD x 0 % 32) + b) := by
      rw [show (32 : Int32) = nI 32 from rfl, s_mod (by omega) (by omega) (by omega), show (4 : Int32) = nI 4 from rfl, s_mul, nI_add]
    rw [e4a, e4b, nI_clamp (by omega), nI_clamp (by omega), cf _ b am.1 (by omega), df _ b am.2 (by omega), show (32 : Int32) = nI 32 from rfl, s_mul, nI_add, ← hq]
    have hx3 : nxt (fM D1 D2) L T < 1024 := by rw [hq]; omega
    have hxr : nxt (fM D1 D2) L T / 32 < D1.1 ∧ nxt (fM D1 D2) L T % 32 < D2.1 := by rw [hq]; omega
    refine ⟨s_in (by omega) (by omega), s_in (by omega) (by omega), hJ20 _ (rr_mt87 (L := L) (by omega) (by omega) hx3 hl e3 ?_)⟩
    intro J35 hJ35
    by_cases c : nxt (fM D1 D2) L T ∈ L
    · have il := idx_lt c
      refine ⟨fun _ => hJ35 _ _ (rr_mtfin (T := T ++ [L.idxOf (nxt (fM D1 D2) L T)]) ⟨c1, c32, cT, cn, cf, cg⟩ ⟨d1, d32, dT, dn, df, dg⟩ hlim hw ⟨e1.old hd c, e2, e3⟩ (fun hu' => ?_) (fun hR => hQ1 L _ _ hR (by rw [upd_at]) ⟨e1.old hd c, e2, fun i hi => by rw [upd_ne (by omega)]; exact e3 i hi⟩)), fun y => absurd ((nI_eq (by omega) (by omega)).mp y) (by omega)⟩
      rw [nI_1]
      exact ih (b + 1) L (T ++ [L.idxOf (nxt (fM D1 D2) L T)]) _ (by omega) (by omega) (by rw [List.length_append]; simp; omega) hx (by show upd f 0 _ 0 = _; rw [upd_at]) hu' ⟨e1.old hd c, e2, fun i hi => by show upd f 0 _ (3 * i + 1) = _; rw [upd_ne (by omega)]; exact e3 i hi⟩
    · rw [List.idxOf_eq_length c]
      refine ⟨fun y => absurd rfl y, fun _ => ⟨by rw [s_t1]; exact s_in (by omega) (by omega), by rw [s_t2]; exact s_in (by omega) (by omega), by rw [s_t3]; exact s_in (by omega) (by omega), ?_⟩⟩
      have z0 : (0 : Int32).toNatClampNeg = 0 := rfl
      rw [s_t1, s_t2, s_t3, nI_clamp (by omega), nI_clamp (by omega), nI_clamp (by omega), nI_1]
      by_cases hl' : lim ≤ L.length
      · refine hJ35 _ _ ⟨s_in (a := 0) (by omega) (by omega), fun _ => hQ0 (e1.full hd c hl') _ (by rw [z0, upd_at, show L.length = lim by omega]), fun y => absurd (by rw [nI_ltI (by omega) (by omega)]; omega) y⟩
      · have hnew := e1.new hd c hl'
        have r2 : ∀ y ∈ L ++ [nxt (fM D1 D2) L T], y / 32 < D1.1 ∧ y % 32 < D2.1 := fun y hy => by
          rw [List.mem_append] at hy
          rcases hy with hy | hy
          · exact e2 y hy
          · simp at hy
            rw [hy]
            exact hxr
        have r3 : ∀ i, i < (L ++ [nxt (fM D1 D2) L T]).length → (upd (upd (upd f (3 * L.length + 1) (nI (nxt (fM D1 D2) L T))) (3 * L.length + 2) (nI x)) (3 * L.length + 3) (nI b)) (3 * i + 1) = nI ((L ++ [nxt (fM D1 D2) L T]).getD i 0) := fun i hi => by
          rw [List.length_append] at hi
          simp at hi
          rw [upd_ne (by omega), upd_ne (by omega)]
          by_cases e : i = L.length
          · rw [e, upd_at, getD_new]
          · rw [upd_ne (by omega), getD_app (by omega)]
            exact e3 i (by omega)
        have len : (L ++ [nxt (fM D1 D2) L T]).length = L.length + 1 := by rw [List.length_append]; rfl
        have fin := rr_mtfin (NEXT := wpl_X11_met_27 fa1 na1 fa2 na2 (3 * (lim + 1) + 1) (nI x) (nI lim) v16 K Qn z (nI b + (1 : Int32)) (nI (L.length + 1)) (upd (upd (upd (upd f (3 * L.length + 1) (nI (nxt (fM D1 D2) L T))) (3 * L.length + 2) (nI x)) (3 * L.length + 3) (nI b)) (0 : Int32).toNatClampNeg (nI (L.length + 1)))) (Qn := Qn) (L := L ++ [nxt (fM D1 D2) L T]) (T := T ++ [L.length]) (R := R) ⟨c1, c32, cT, cn, cf, cg⟩ ⟨d1, d32, dT, dn, df, dg⟩ hlim hw ⟨hnew, r2, r3⟩ (fun hu' => by
          have g := ih (b + 1) (L ++ [nxt (fM D1 D2) L T]) (T ++ [L.length]) (upd (upd (upd (upd f (3 * L.length + 1) (nI (nxt (fM D1 D2) L T))) (3 * L.length + 2) (nI x)) (3 * L.length + 3) (nI b)) 0 (nI (L.length + 1))) (by omega) (by omega) (by rw [List.length_append]; simp; omega) (by rw [len]; omega) (by rw [upd_at, len]) hu' ⟨hnew, r2, fun i hi => by rw [upd_ne (by omega)]; exact r3 i hi⟩
          rw [len] at g
          rw [nI_1]
          exact g) (fun hR => hQ1 _ _ _ hR (by rw [upd_at]) ⟨hnew, r2, fun i hi => by rw [upd_ne (by omega)]; exact r3 i hi⟩)
        rw [len] at fin
        exact hJ35 _ _ fin
/-- what met tells -/
def MF9 (D1 D2 : DF) (lim : Nat) (L : List Nat) (f : Nat → Int32) : Prop := f 0 = nI L.length ∧ L.length ≤ lim ∧ 1 ≤ L.length ∧ (∀ x ∈ L, x / 32 < D1.1 ∧ x % 32 < D2.1) ∧ ∀ i, i < L.length → f (3 * i + 1) = nI (L.getD i 0)
theorem rr_met {v16 : Int32} {Qn : Nat → (Nat → Int32) → Prop} (h1 : HF na1 fa1 D1) (h2 : HF na2 fa2 D2) (hlim : lim ≤ 200) (hl1 : 1 ≤ lim) (hw : v16 = 0 ↔ ¬ w = 0) (hQ1 : ∀ (L T : List Nat) (f : Nat → Int32), MR9 D1 D2 lim w = some (L, T) → MF9 D1 D2 lim L f → Qn (3 * (lim + 1) + 1) f) (hQ0 : MR9 D1 D2 lim w = none → ∀ f : Nat → Int32, f 0 = nI (lim + 1) → Qn (3 * (lim + 1) + 1) f) : wp_X11_met na1 fa1 na2 fa2 (nI lim) v16 Qn := by
  have d1 := h1.1
  have d2 := h2.1
  have q1 : ∀ (L T : List Nat) (f : Nat → Int32), MR9 D1 D2 lim w = some (L, T) → f 0 = nI L.length → RMT D1 D2 lim (uW D1 D2 w) (MR9 D1 D2 lim w) L T f → Qn (3 * (lim + 1) + 1) f := fun L T f hR hf hM => hQ1 L T f hR ⟨hf, hM.1.2.1, hM.1.2.2.1, hM.2.1, hM.2.2⟩
  have O : ∀ (z x : Nat) (L T : List Nat) (f : Nat → Int32), 201 - x < z → x ≤ L.length → T.length = 3 * x → (x = 0 ∧ f 1 = nI (L.getD 0 0) ∨ f 0 = nI L.length) → RMT D1 D2 lim (uW D1 D2 w) (MR9 D1 D2 lim w) L T f → wpl_X11_met_17 fa1 na1 fa2 na2 (3 * (lim + 1) + 1) (nI lim) v16 Qn z (nI x) (nI L.length) f := by
    intro z
    induction z with
    | zero => intro x L T f hk; exact absurd hk (Nat.not_lt_zero _)
    | succ z ih =>
      intro x L T f hk hx hT hf hM
      have e1 := hM.1
      have hL := e1.2.1
      have hL1 := e1.2.2.1
      refine ⟨fun q => ?_, fun q => ?_⟩
      · rw [nI_leI (by omega) (by omega)] at q
        rcases hf with hf | hf
        · omega
        · exact q1 L T f (e1.done (Or.inl (by omega))) hf hM
      rw [nI_leI (by omega) (by omega)] at q
      -- the step of the sign -1: nothing new, but the test
      refine ⟨5, fun y => absurd y (by decide), fun _ => ⟨by rw [s_t1]; exact s_in (by omega) (by omega), fun J20 hJ20 => ⟨fun y => absurd y (by decide), fun _ => ?_⟩⟩⟩
      have hl : ∀ y ∈ L, y < 1024 := fun y hy => by
        have := hM.2.1 y hy
        have := h1.2.1
        have := h2.2.1
        omega
      have mem : L.getD x 0 ∈ L := getD_mem (by omega)
      rw [s_t1, nI_clamp (by omega), hM.2.2 x (by omega)]
      refine hJ20 _ (rr_mt87 (L := L) (by omega) (by omega) (hl _ mem) hl hM.2.2 ?_)
      have il := idx_lt mem
      intro J35 hJ35
      refine ⟨fun _ => hJ35 _ _ (rr_mtfin h1 h2 hlim hw hM (fun hu => ?_) (fun hR => q1 L T _ hR (by rw [upd_at]) ⟨e1, hM.2.1, fun i hi => by rw [upd_ne (by omega)]; exact hM.2.2 i hi⟩)), fun y => absurd ((nI_eq (by omega) (by omega)).mp y) (by omega)⟩
      have g := rr_mt27 (x := x) (R := MR9 D1 D2 lim w) (K := fun (u52 : Int32) (f53 : Nat → Int32) => wpl_X11_met_17 fa1 na1 fa2 na2 (3 * (lim + 1) + 1) (nI lim) v16 Qn z (nI x + (1 : Int32)) u52 f53) (Qn := Qn) h1 h2 hlim hw (fun L9 T9 f9 z1 z2 z3 z4 => by rw [nI_1]; exact ih (x + 1) L9 T9 f9 (by omega) (by omega) z1 (Or.inr z3) z4) q1 hQ0 4 0 L T (upd f 0 (nI L.length)) (by omega) (by omega) hT (by omega) (by rw [upd_at]) hu ⟨e1, hM.2.1, fun i hi => by rw [upd_ne (by omega)]; exact hM.2.2 i hi⟩
      rw [nI_0] at g
      exact g
  have e8 : ((3 : Int32) * (nI lim + (1 : Int32))) + (1 : Int32) = nI (3 * (lim + 1) + 1) := by rw [nI_1, s_t1]
  unfold wp_X11_met
  rw [e8, nI_clamp (by omega)]
  have g := O 202 0 [0] [] (fun _ => 0) (by omega) (by omega) rfl (Or.inl ⟨rfl, rfl⟩) ⟨EI.start 0 hl1, fun x hx => by simp at hx; subst hx; exact ⟨by omega, by omega⟩, fun i hi => by simp at hi; subst hi; rfl⟩
  rw [nI_0] at g
  exact ⟨⟨nI_pos (by omega), by omega⟩, _, g⟩
end SRL
