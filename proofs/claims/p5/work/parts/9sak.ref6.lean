section SRK
variable {ν : TMem} {S : Nat → AM} {a r k t : Int32} {a1 a2 a3 a4 : Int32} {Q : Int32 → TMem → Prop} {Qi : Int32 → Prop} {Qo : Option AI → Prop} {m : Nat} {A B : AM} {D : DF} {na : Nat} {fa : Nat → Int32} {n : Nat}
/-- where the reference's making least stands -/
def RLS (D : DF) (R : Option (List Nat × List Nat)) (L T : List Nat) (a' : Nat) (fw fm : Nat → Int32) : Prop := EI 32 (fL D) (fun _ => false) R L T ∧ EN D.1 L ∧ (∀ i, i < L.length → ∃ x, x < D.1 ∧ fw i = nI x ∧ PL D x = L.getD i 0) ∧ (∀ j, j < T.length → fm (4 * (j / 3) + j % 3) = nI (T.getD j 0)) ∧ ∀ i, i < a' → fm (4 * i + 3) = bi (D.2.2 (L.getD i 0))
variable {R : Option (List Nat × List Nat)} {fg : Nat → Int32}
theorem rr_ls77 {fw fm : Nat → Int32} {L : List Nat} {v31 v32 : Int32} {x : Nat} {K : Int32 → Prop} (d32 : D.1 ≤ 32) (hg : ∀ i, i < D.1 → fg i = nI (PL D i)) (hw : ∀ i, i < L.length → ∃ y, y < D.1 ∧ fw i = nI y ∧ PL D y = L.getD i 0) (hl : L.length ≤ D.1) (hx : x < D.1) (h : K (nI (L.idxOf (PL D x)))) : ∃ z, wpl_X11_least_77 fa na fg D.1 fw D.1 fm (4 * D.1) (nI x) v31 v32 (nI L.length) K z 0 := by
  have go : ∀ (z i : Nat), L.length - i < z → i ≤ L.length → (∀ j, j < i → L.getD j 0 ≠ PL D x) → wpl_X11_least_77 fa na fg D.1 fw D.1 fm (4 * D.1) (nI x) v31 v32 (nI L.length) K z (nI i) := by
    intro z
    induction z with
    | zero => intro i hk; exact absurd hk (Nat.not_lt_zero _)
    | succ z ih =>
      intro i hk hi hno
      refine ⟨fun q => ?_, fun q => ?_⟩
      · rw [nI_leI (by omega) (by omega)] at q
        rw [List.idxOf_eq_length (not_mem_of (fun j hj => hno j (by omega)))] at h
        rw [show i = L.length by omega]
        exact h
      rw [nI_leI (by omega) (by omega)] at q
      obtain ⟨y, hy, ey, py⟩ := hw i (by omega)
      have l1 := PL_lt hy
      have l2 := PL_lt hx
      rw [nI_clamp (by omega), ey, nI_clamp (by omega), nI_clamp (by omega), hg y hy, hg x hx, nI_eq (by omega) (by omega), py, nI_1]
      refine ⟨s_in (by omega) (by omega), s_in hy (by omega), s_in hx (by omega), fun w => ?_, fun w => ih (i + 1) (by omega) (by omega) (fun j hj => ?_)⟩
      · rw [idx_of (by omega) w hno] at h
        exact h
      · by_cases e : j = i
        · rw [e]; exact w
        · exact hno j (by omega)
  have g := go (L.length + 1) 0 (by omega) (by omega) (fun j hj => absurd hj (Nat.not_lt_zero _))
  rw [nI_0] at g
  exact ⟨_, g⟩
theorem rr_ls55 {x : Nat} {K : Int32 → (Nat → Int32) → (Nat → Int32) → Prop} (hF : HF na fa D) (hg : ∀ i, i < D.1 → fg i = nI (PL D i))
    (hK : ∀ (L T : List Nat) (fw fm : Nat → Int32), T.length = 3 * (x + 1) → x < L.length → RLS D R L T (x + 1) fw fm → K (nI L.length) fw fm) :
    ∀ (k b : Nat) (L T : List Nat) (fw fm : Nat → Int32), 3 - b < k → b ≤ 3 → T.length = 3 * x + b → x < L.length → RLS D R L T (x + 1) fw fm → wpl_X11_least_55 fa na fg D.1 D.1 (4 * D.1) (nI x) K k (nI b) (nI L.length) fw fm := by
  obtain ⟨d1, d32, dT, dn, df, dg⟩ := hF
  intro k
  induction k with
  | zero => intro b L T fw fm hk; exact absurd hk (Nat.not_lt_zero _)
  | succ k ih =>
    intro b L T fw fm hk hb hT hx hO
    have hO' := hO
    obtain ⟨h1, h0, h2, h3, h4⟩ := hO'
    have hL := h1.2.1
    have hLD := nodup_le D.1 L h0.1 h0.2
    refine ⟨fun q => ?_, fun q => ?_⟩
    · rw [show (3 : Int32) = nI 3 from rfl, nI_leI (by omega) (by omega)] at q
      exact hK L T fw fm (by omega) hx hO
    rw [show (3 : Int32) = nI 3 from rfl, nI_leI (by omega) (by omega)] at q
    have hd : ¬ (3 * L.length ≤ T.length ∨ false = true) := fun z => z.elim (fun z => by omega) (fun z => by cases z)
    obtain ⟨y, hy, ey, py⟩ := h2 x hx
    have lt' := dT (3 * y + b) (by omega)
    have er : PL D (D.2.1 (3 * y + b)) = nxt (fL D) L T := by rw [fL_of dT d1 hy py (by omega), nxt, hT, show (3 * x + b) / 3 = x by omega, show (3 * x + b) % 3 = b by omega]
    have pX : (nI x).toNatClampNeg = x := nI_clamp (by omega)
    rw [pX, ey, show (4 : Int32) * nI y + nI b = nI (4 * y + b) by rw [show (4 : Int32) = nI 4 from rfl, s_mul, nI_add], nI_clamp (by omega), df y b hy (by omega)]
    have p4 : (4 : Int32) * nI x + nI b = nI (4 * x + b) := by rw [show (4 : Int32) = nI 4 from rfl, s_mul, nI_add]
    have i4 : vp_in ((4 : Int32) * nI x + nI b) (4 * D.1) := by rw [p4]; exact s_in (by omega) (by omega)
    refine ⟨s_in (by omega) (by omega), s_in (by omega) (by omega), rr_ls77 d32 hg h2 hLD lt' ?_⟩
    rw [er]
    have mk : ∀ (z : Nat) (j : Nat), j < (T ++ [z]).length → (upd fm (4 * x + b) (nI z)) (4 * (j / 3) + j % 3) = nI ((T ++ [z]).getD j 0) := fun z j hj => by
      rw [List.length_append] at hj
      simp at hj
      by_cases e : j = T.length
      · rw [e, getD_new, show 4 * (T.length / 3) + T.length % 3 = 4 * x + b by omega, upd_at]
      · rw [upd_ne (by omega), getD_app (by omega)]
        exact h3 j (by omega)
    intro J hJ
    by_cases c : nxt (fL D) L T ∈ L
    · have il := idx_lt c
      refine ⟨fun _ => hJ _ _ ⟨i4, ?_⟩, fun z => absurd ((nI_eq (by omega) (by omega)).mp z) (by omega)⟩
      rw [p4, nI_clamp (by omega), nI_1]
      exact ih (b + 1) L (T ++ [L.idxOf (nxt (fL D) L T)]) fw _ (by omega) (by omega) (by rw [List.length_append]; simp; omega) hx ⟨h1.old hd c, h0, h2, mk _, fun i hi => by rw [upd_ne (by omega)]; exact h4 i hi⟩
    · rw [List.idxOf_eq_length c] at hJ ⊢
      have room := h0.room c (by rw [← er]; exact PL_lt lt')
      refine ⟨fun z => absurd rfl z, fun _ => ⟨s_in room (by omega), hJ _ _ ⟨i4, ?_⟩⟩⟩
      rw [p4, nI_clamp (by omega), nI_clamp (by omega), nI_1, nI_1]
      have g := ih (b + 1) (L ++ [nxt (fL D) L T]) (T ++ [L.length]) (upd fw L.length (nI (D.2.1 (3 * y + b)))) (upd fm (4 * x + b) (nI L.length)) (by omega) (by omega) (by rw [List.length_append]; simp; omega) (by rw [List.length_append]; simp; omega) ⟨h1.new hd c (by omega), h0.app c (by rw [← er]; exact PL_lt lt'), fun i hi => ?_, mk _, fun i hi => by rw [upd_ne (by omega), getD_app (by omega)]; exact h4 i hi⟩
      · rw [List.length_append] at g
        exact g
      · rw [List.length_append] at hi
        simp at hi
        by_cases e : i = L.length
        · exact ⟨_, lt', by rw [e, upd_at], by rw [e, getD_new]; exact er⟩
        · rw [upd_ne e, getD_app (by omega)]
          exact h2 i (by omega)
theorem rr_ls27 {K : Int32 → (Nat → Int32) → Prop} (hF : HF na fa D) (hg : ∀ i, i < D.1 → fg i = nI (PL D i))
    (hK : ∀ (L T : List Nat) (fw fm : Nat → Int32), R = some (L, T) → T.length = 3 * L.length → RLS D R L T L.length fw fm → K (nI L.length) fm) :
    ∀ (k x : Nat) (L T : List Nat) (fw fm : Nat → Int32), 32 - x < k → x ≤ L.length → T.length = 3 * x → RLS D R L T x fw fm → wpl_X11_least_27 fa na fg D.1 D.1 (4 * D.1) K k (nI x) (nI L.length) fm fw := by
  have hF' := hF
  obtain ⟨d1, d32, dT, dn, df, dg⟩ := hF'
  intro k
  induction k with
  | zero => intro x L T fw fm hk; exact absurd hk (Nat.not_lt_zero _)
  | succ k ih =>
    intro x L T fw fm hk hx hT hO
    have hO' := hO
    obtain ⟨h1, h0, h2, h3, h4⟩ := hO'
    have hL := h1.2.1
    have hLD := nodup_le D.1 L h0.1 h0.2
    refine ⟨fun q => ?_, fun q => ?_⟩
    · rw [nI_leI (by omega) (by omega)] at q
      have e : x = L.length := by omega
      rw [e] at hO hT
      exact hK L T fw fm (h1.done (Or.inl (by omega))) hT hO
    rw [nI_leI (by omega) (by omega)] at q
    obtain ⟨y, hy, ey, py⟩ := h2 x (by omega)
    have pX : (nI x).toNatClampNeg = x := nI_clamp (by omega)
    have q4 : ∀ z : Nat, (4 : Int32) * nI z + (3 : Int32) = nI (4 * z + 3) := fun z => by rw [show (4 : Int32) = nI 4 from rfl, show (3 : Int32) = nI 3 from rfl, s_mul, nI_add]
    rw [pX, ey, q4, q4, nI_clamp (by omega), nI_clamp (by omega), dg y hy]
    refine ⟨s_in (by omega) (by omega), s_in (by omega) (by omega), s_in (by omega) (by omega), ?_⟩
    have g := rr_ls55 (x := x) (R := R) (K := fun (u48 : Int32) (f49 : Nat → Int32) (f50 : Nat → Int32) => wpl_X11_least_27 fa na fg D.1 D.1 (4 * D.1) K k (nI x + (1 : Int32)) u48 f50 f49) hF hg (fun L9 T9 fw9 fm9 z1 z2 z3 => by rw [nI_1]; exact ih (x + 1) L9 T9 fw9 fm9 (by omega) (by omega) z1 z3) 4 0 L T fw (upd fm (4 * x + 3) (bi (D.2.2 y))) (by omega) (by omega) hT (by omega) ⟨h1, h0, h2, fun j hj => by rw [upd_ne (by omega)]; exact h3 j hj, fun i hi => by
      by_cases e : i = x
      · rw [e, upd_at, gL_of dT d1 hy py]
      · rw [upd_ne (by omega)]; exact h4 i (by omega)⟩
    rw [nI_0] at g
    exact ⟨_, g⟩
theorem rr_least (hF : HF na fa D) (h : ∀ (D' : DF) (nf : Nat) (g : Nat → Int32), LSD D = some D' → HF nf g D' → Qo (some (nf, g))) : wp_X11_least na fa Qo := by
  have hF' := hF
  obtain ⟨d1, d32, dT, dn, df, dg⟩ := hF'
  refine rr_alike hF (fun fg hg => ?_)
  have c1 : (nI D.1).toNatClampNeg = D.1 := nI_clamp (by omega)
  have c2 : (nI na).toNatClampNeg = 4 * D.1 := by rw [nI_clamp (by omega)]; exact dn
  rw [c1, c2]
  have l0 : PL D 0 < D.1 := PL_lt (by omega)
  refine ⟨⟨nI_pos (by omega), d32⟩, ⟨nI_pos (by omega), by omega⟩, ?_⟩
  have g := rr_ls27 (R := EX 32 (fL D) (fun _ => false) (PL D 0)) (K := fun (u52 : Int32) (f53 : Nat → Int32) => wp_X11_part (4 * D.1) f53 ((4 : Int32) * u52) (fun (n55 : Nat) (f56 : Nat → Int32) => Qo (some (n55, f56)))) hF hg (fun L T fw fm hR hT hO => by
    obtain ⟨e1, e0, e2, e3, e4⟩ := hO
    have hL := e1.2.1
    have hLD := nodup_le D.1 L e0.1 e0.2
    rw [show (4 : Int32) = nI 4 from rfl, s_mul]
    refine rr_part (by omega) (by omega) (fun f' hf' => h (DFo L T D.2.2) (4 * L.length) f' (by unfold fL at hR; rw [LSD, hR]; rfl) ⟨e1.2.2.1, e1.2.1, fun j hj => ?_, rfl, fun i s hi hs => ?_, fun i hi => ?_⟩)
    · have hj' : j < 3 * L.length := hj
      exact (e1.2.2.2.2 j (by omega)).1
    · have hi' : i < L.length := hi
      rw [hf' _ (by omega)]
      have := e3 (3 * i + s) (by omega)
      rw [show (3 * i + s) / 3 = i by omega, show (3 * i + s) % 3 = s by omega] at this
      exact this
    · have hi' : i < L.length := hi
      rw [hf' _ (by omega)]
      exact e4 i hi') 33 0 [PL D 0] [] (fun _ => 0) (fun _ => 0) (by omega) (by omega) rfl ⟨EI.start _ (by omega), ⟨by simp, fun x hx => by simp at hx; omega⟩, fun i hi => ?_, fun j hj => absurd hj (Nat.not_lt_zero _), fun i hi => absurd hi (Nat.not_lt_zero _)⟩
  · rw [nI_0] at g
    exact ⟨_, g⟩
  · simp at hi
    subst hi
    exact ⟨0, by omega, rfl, rfl⟩
/-- what found tells, for 0 and 3 -/
theorem rr_found0 (hm : m < 4) (hR : HR ν m A) (hv : AV A) (h1 : ∀ (D : DF) (nf : Nat) (g : Nat → Int32), LSM A = some D → HF nf g D → Qo (some (nf, g))) (h0 : LSM A = none → Qo none) : wp_X11_found ν (nI m) 0 Qo := by
  refine ⟨fun _ => ⟨fun _ => ?_, fun z => absurd z (by decide)⟩, fun z => absurd z (by decide)⟩
  refine rr_oneWayA hm hR hv (fun D nf g e hF => ⟨(fun z => nomatch z), fun n6 f7 z => ?_⟩) (fun e => ⟨fun _ => ⟨fun _ => h0 (by rw [LSM, e]; rfl), (fun _ _ z => nomatch z)⟩, (fun _ _ z => nomatch z)⟩)
  cases z
  refine rr_least hF (fun D' nf' g' e' hF' => ⟨(fun z => nomatch z), fun n13 f14 z => ?_⟩)
  cases z
  exact h1 D' nf' g' (by rw [LSM, e]; exact e') hF'
theorem rr_found3 (hm : m < 4) (hR : HR ν m A) (hv : AV A) (h1 : ∀ (D : DF) (nf : Nat) (g : Nat → Int32), OWM A = some D → HF nf g D → Qo (some (nf, g))) (h0 : OWM A = none → Qo none) : wp_X11_found ν (nI m) 3 Qo := by
  refine ⟨fun z => absurd rfl z, fun _ => ?_⟩
  refine rr_oneWayA hm hR hv (fun D nf g e hF => ⟨(fun z => nomatch z), fun n6 f7 z => ?_⟩) (fun e => ⟨fun _ => h0 e, (fun _ _ z => nomatch z)⟩)
  cases z
  exact h1 D nf g e hF
theorem gmk_step {g : Nat → Bool} {i : Nat} (hi : i < 32) : gmk g i ||| ((bi (g i)) <<< (nI i &&& 31)) = gmk g (i + 1) := by
  rw [gmk]
  cases g i with
  | true => rw [if_pos rfl]; rfl
  | false =>
    rw [if_neg (by decide)]
    refine nn_inj ?_
    rw [nn_or, show nn ((bi false) <<< (nI i &&& 31)) = 0 from (by decide +kernel : ∀ i, i < 32 → nn ((bi false) <<< (nI i &&& 31)) = 0) i hi, Nat.or_zero]
theorem rr_become {m' : Nat} (h : RSt ν S a r k t) (hF : HF na fa D) (hm : m' < 4) (hok : D.1 ≤ 7 → ∀ ν9, RSt ν9 (sUp S m' (aP D)) (a + 1) r k t → Q (nI D.1) ν9) (hre : ¬ D.1 ≤ 7 → ∀ ν9, RSt ν9 S a (r + 1) k t → Q (-9) ν9) : wp_X11_become ν (nI m') na fa Q := by
  obtain ⟨d1, d32, dT, dn, df, dg⟩ := hF
  have im : (nI m').toNatClampNeg = m' := nI_clamp (by omega)
  have ez : nI na / (4 : Int32) = nI D.1 := by rw [show (4 : Int32) = nI 4 from rfl, s_div (by omega) (by omega) (by omega), dn]; congr 1; omega
  refine ⟨fun z => ?_, fun z => ?_⟩
  · rw [show (28 : Int32) = nI 28 from rfl, nI_leI (by omega) (by omega)] at z
    rw [ez]
    refine rr_clear hm (fun ν2 hR hFr => ?_)
    obtain ⟨b1, b2, b3, b4⟩ := hR
    have L2 : ∀ (x : Nat) (νs : TMem) (K : TMem → Prop), x < D.1 → (∀ ν1, RW m' νs (aP D).2.2.2 (3 * x + 3) ν1 → K ν1) → ∀ (z b : Nat) (ν1 : TMem), 3 - b < z → b ≤ 3 → RW m' νs (aP D).2.2.2 (3 * x + b) ν1 → wpl_X11_become_58 fa na (nI x) (nI m') K z (nI b) ν1 := by
      intro x νs K hx hK z
      induction z with
      | zero => intro b ν1 hk; exact absurd hk (Nat.not_lt_zero _)
      | succ z ih =>
        intro b ν1 hk hb hW
        refine ⟨fun q => ?_, fun q => rr_key ?_⟩
        · rw [show (3 : Int32) = nI 3 from rfl, nI_leI (by omega) (by omega)] at q
          rw [show 3 * x + b = 3 * x + 3 by omega] at hW
          exact hK ν1 hW
        rw [show (3 : Int32) = nI 3 from rfl, nI_leI (by omega) (by omega)] at q
        rw [show (4 : Int32) = nI 4 from rfl, s_mul, nI_add, nI_clamp (by omega), nI_clamp (by omega), df x b hx (by omega), nI_1, Nat.add_assoc]
        refine ⟨s_in (by omega) (by omega), s_in (show _ < 84 by omega) (by omega), ?_⟩
        have e : (1 : Int32) <<< (nI (D.2.1 (3 * x + b)) &&& 31) = (aP D).2.2.2 (3 * x + b) := by
          show _ = if 3 * x + b < 3 * D.1 then _ else _
          rw [if_pos (by omega)]
        rw [e]
        exact ih (b + 1) _ (by omega) (by omega) hW.step
    have L1 : ∀ (z x : Nat) (ν1 : TMem), D.1 - x < z → x ≤ D.1 → ν1 0 = ν2 0 → ν1 1 = ν2 1 → ν1 2 = ν2 2 → ν1 3 m' = gmk D.2.2 x → (∀ i, i ≠ m' → ν1 3 i = ν2 3 i) → (∀ j, j < 3 * x → ν1 4 (21 * m' + j) = (aP D).2.2.2 j) → (∀ q, q < 21 * m' ∨ 21 * m' + 3 * x ≤ q → ν1 4 q = ν2 4 q) → wpl_X11_become_27 fa na (nI m') (fun (μ24 : TMem) => vp_in (nI m') (ml 1) ∧ (wp_X11_did μ24 (μ24 1 m') (fun (r27 : Int32) (μ26 : TMem) => Q r27 μ26))) z (nI x) ν1 := by
      intro z
      induction z with
      | zero => intro x ν1 hk; exact absurd hk (Nat.not_lt_zero _)
      | succ z ih =>
        intro x ν1 hk hx w0 w1 w2 w3 w3' w4 w5
        refine ⟨s_in hm (by omega), ?_⟩
        have e1 : ν1 1 m' = nI D.1 := by rw [w1]; exact b1
        rw [im, e1]
        refine ⟨fun q => ⟨s_in hm (by omega), ?_⟩, fun q => ⟨s_in hm (by omega), ?_⟩⟩
        · rw [nI_leI (by omega) (by omega)] at q
          have ex : x = D.1 := by omega
          subst ex
          show Q (ν1 1 m') _
          rw [e1]
          refine hok (by omega) _ (h.act (m := m') (A := aP D) ⟨e1, by rw [w2]; exact b2, w3, fun j hj => ?_⟩ ⟨by rw [w0]; exact hFr.1, fun i hi => ⟨by rw [w1]; exact (hFr.2.1 i hi).1, by rw [w2]; exact (hFr.2.1 i hi).2.1, by rw [w3' i hi]; exact (hFr.2.1 i hi).2.2⟩, fun p hp => by rw [w5 p (by omega)]; exact hFr.2.2 p hp⟩)
          by_cases e : j < 3 * D.1
          · exact w4 j e
          · rw [w5 _ (by omega), b4 j hj]
            show (0 : Int32) = if j < 3 * D.1 then _ else _
            rw [if_neg e]
        · rw [nI_leI (by omega) (by omega)] at q
          rw [w3, show (4 : Int32) = nI 4 from rfl, show (3 : Int32) = nI 3 from rfl, s_mul, nI_add, nI_clamp (by omega), dg x (by omega), gmk_step (by omega)]
          refine ⟨s_in (by omega) (by omega), s_in hm (by omega), ?_⟩
          have g := L2 x (tms ν1 3 m' (gmk D.2.2 (x + 1))) (fun u => wpl_X11_become_27 fa na (nI m') (fun (μ24 : TMem) => vp_in (nI m') (ml 1) ∧ (wp_X11_did μ24 (μ24 1 m') (fun (r27 : Int32) (μ26 : TMem) => Q r27 μ26))) z (nI x + (1 : Int32)) u) (by omega) (fun ν9 h9 => by
            rw [nI_1]
            refine ih (x + 1) ν9 (by omega) (by omega) (by rw [h9.2.2 0 (by decide), tms_ne (by decide)]; exact w0) (by rw [h9.2.2 1 (by decide), tms_ne (by decide)]; exact w1) (by rw [h9.2.2 2 (by decide), tms_ne (by decide)]; exact w2) (by rw [h9.2.2 3 (by decide), tms_eq, upd_at]) (fun i hi => by rw [h9.2.2 3 (by decide), tms_eq, upd_ne hi]; exact w3' i hi) (fun j hj => h9.1 j (by omega)) (fun q' hq' => by rw [h9.2.1 q' (by omega), tms_ne (by decide)]; exact w5 q' (by omega))) 4 0 (tms ν1 3 m' (gmk D.2.2 (x + 1))) (by omega) (by omega) ⟨fun j hj => by rw [tms_ne (by decide)]; exact w4 j (by omega), fun _ _ => rfl, fun _ _ => rfl⟩
          rw [nI_0] at g
          exact ⟨_, g⟩
    have g := L1 (D.1 + 1) 0 ν2 (by omega) (Nat.zero_le _) rfl rfl rfl b3 (fun _ _ => rfl) (fun j hj => absurd hj (Nat.not_lt_zero _)) (fun _ _ => rfl)
    rw [nI_0] at g
    rw [im]
    exact ⟨_, g⟩
  · rw [show (28 : Int32) = nI 28 from rfl, nI_leI (by omega) (by omega)] at z
    exact hre (by omega) _ h.ref
theorem rr_make (h : RSt ν S a r k t) (hv : AVs S) (hok : ∀ m m' D, m < 4 → m' < 4 → a1 = nI m → a3 = nI m' → SM7 (MK2 (S m) a2) D → ∀ ν9, RSt ν9 (sUp S m' (aP D)) (a + 1) r k 0 → Q (nI D.1) ν9) (hre : ∀ m m', m < 4 → m' < 4 → a1 = nI m → a3 = nI m' → NO7 (MK2 (S m) a2) → ∀ ν9, RSt ν9 S a (r + 1) k 0 → Q (-9) ν9) (h1 : ¬ ONE2 a1 a3 → ∀ b ν9, RSt ν9 S a r k 1 → Q b ν9) : wp_X11_make ν a1 a2 a3 Q := by
  refine rr_two (fun m m' hm hm' em em' => th_ok ⟨fun _ J hJ => ?_, fun q => absurd rfl q⟩) (fun z => th_1 ⟨fun q => absurd q (by decide), fun _ => h1 z _ _ (h.thr 1)⟩)
  have h0 := h.thr 0
  have hR := h0.1 m hm
  have hok' := fun D => hok m m' D hm hm' em em'
  have hre' := hre m m' hm hm' em em'
  rw [em, em'] at hJ
  have some' : ∀ (D : DF) (nf : Nat) (g : Nat → Int32), MK2 (S m) a2 = some D → HF nf g D → ((some (nf, g) = none → (wp_X11_become_n (tms ν 0 7 0) (nI m') (fun (r15 : Int32) (μ14 : TMem) => Q r15 μ14))) ∧ (∀ (n12 : Nat) (f13 : Nat → Int32), some (nf, g) = some (n12, f13) → (wp_X11_become (tms ν 0 7 0) (nI m') n12 f13 (fun (r17 : Int32) (μ16 : TMem) => Q r17 μ16)))) := fun D nf g e hF => ⟨(fun z => nomatch z), fun n12 f13 z => by
    cases z
    exact rr_become h0 hF hm' (fun q => hok' D ⟨e, q, hF.1, hF.2.2.1⟩) (fun q => hre' (fun D' e' => by rw [e] at e'; cases e'; exact q))⟩
  have none' : MK2 (S m) a2 = none → (((none : Option AI) = none → (wp_X11_become_n (tms ν 0 7 0) (nI m') (fun (r15 : Int32) (μ14 : TMem) => Q r15 μ14))) ∧ (∀ (n12 : Nat) (f13 : Nat → Int32), (none : Option AI) = some (n12, f13) → (wp_X11_become (tms ν 0 7 0) (nI m') n12 f13 (fun (r17 : Int32) (μ16 : TMem) => Q r17 μ16)))) := fun e => ⟨fun _ => hre' (fun D' e' => by rw [e] at e'; cases e') _ h0.ref, (fun _ _ z => nomatch z)⟩
  refine ⟨fun z => hJ 3 ?_, fun z => hJ 0 ?_⟩
  · have e2 : MK2 (S m) a2 = OWM (S m) := by rw [MK2, if_pos z]
    rw [e2] at some' none'
    exact rr_found3 hm hR (hv m hm) some' none'
  · have e2 : MK2 (S m) a2 = LSM (S m) := by rw [MK2, if_neg z]
    rw [e2] at some' none'
    exact rr_found0 hm hR (hv m hm) some' none'
end SRK
