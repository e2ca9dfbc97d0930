section SMD
variable {μ μ0 : TMem} {k1 k2 : Nat} {A B : AM} {D D1 D2 : DF}
theorem EXs_congr {lim : Nat} {f f' : Nat → Nat → Nat} {u : Nat → Bool} (h : ∀ x s, s < 3 → f x s = f' x s) : ∀ (n : Nat) (L T : List Nat), EXs lim f u n L T = EXs lim f' u n L T := by
  intro n
  induction n with
  | zero => intro L T; rfl
  | succ n ih =>
    intro L T
    have e : nxt f L T = nxt f' L T := h _ _ (Nat.mod_lt _ (by decide))
    rw [EXs, EXs, e, ih, ih]
theorem RCg_congr {c c' : Nat → Nat} {S s : Nat} : ∀ n, (∀ i, i < n → c (3 * i + s) = c' (3 * i + s)) → RCg c S s n = RCg c' S s n := by
  intro n
  induction n with
  | zero => intro _; rfl
  | succ n ih => intro h; rw [RCg, RCg, ih (fun i hi => h i (by omega)), h n (by omega)]
theorem OWD_congr {n st G : Nat} {c c' : Nat → Nat} (h : ∀ j, j < 3 * n → c j = c' j) : OWD n c st G = OWD n c' st G := by
  rw [OWD, OWD, EX, EX, EXs_congr (f := RC n c) (f' := RC n c') (fun x s hs => RCg_congr n (fun i hi => h _ (by omega)))]
/-- the one-way one of a machine -/
def OWM (A : AM) : Option DF := OWD A.1 (fun j => nn (A.2.2.2 j)) (nn A.2.1) (nn A.2.2.1)
theorem e_oneWayA {Q : Int32 → TMem → Prop} (hk1 : kd k1 = 2) (hk : kd k2 = 5) (hM : HM μ k1 A) (h32 : A.1 ≤ 32) (ht : 3 * A.1 ≤ tl (k1 + 1)) (h1 : ∀ (D : DF) (μ9 : TMem), OWM A = some D → HP μ9 k2 D → F17 k2 μ μ9 → Q 1 μ9) (h0 : OWM A = none → ∀ μ9, F17 k2 μ μ9 → Q 0 μ9) : wp_X3_makeOneWay k1 k2 μ Q := by
  obtain ⟨m1, m2, m3, m4⟩ := hM
  have e : OWD A.1 (fun j => nn (μ (k1 + 1) j)) (nn (μ k1 3)) (nn (μ k1 2)) = OWM A := by
    rw [OWM, m2, m3]
    exact OWD_congr (fun j hj => by rw [m4 j hj])
  exact e_makeOneWay hk1 hk m1 h32 ht (fun D μ9 hD => h1 D μ9 (by rw [← e]; exact hD)) (fun hD => h0 (by rw [← e]; exact hD))
/-- what asking leaves as it was -/
def ZF (μ μ9 : TMem) : Prop := (∀ k, k ≤ 9 → μ9 k = μ k) ∧ (GB μ → GB μ9)
theorem ZF.rf : ZF μ μ := ⟨fun _ _ => rfl, fun h => h⟩
theorem ZF.trans {a b c : TMem} (h1 : ZF a b) (h2 : ZF b c) : ZF a c := ⟨fun k hk => (h2.1 k hk).trans (h1.1 k hk), fun g => h2.2 (h1.2 g)⟩
theorem ZF.f17 {μ9 : TMem} (hk : kd k2 = 5) (h : F17 k2 μ μ9) : ZF μ μ9 := by
  have q := kd5 hk
  refine ⟨fun k hk => h k (by omega) (by omega) (by omega), fun g i => ?_⟩
  rw [h 43 (by omega) (by omega) (by omega)]
  exact g i
theorem ZF.fg {μ9 : TMem} (hk : kd k2 = 5) (h : FG k2 μ μ9) : ZF μ μ9 := by
  have q := kd5 hk
  refine ⟨fun k hk => h k (by omega) (by omega) (by omega) (by omega) (by omega) (by omega), fun g i => ?_⟩
  rw [h 43 (by omega) (by omega) (by omega) (by omega) (by omega) (by omega)]
  exact g i
theorem ZF.fme {μ9 : TMem} (h : FME μ μ9) : ZF μ μ9 := ⟨fun k hk => h.2 k (by omega) (by omega) (by omega) (by omega) (by omega) (by omega) (by omega), fun _ => h.1⟩
/-- the pairs of two machines -/
def PRS (A B : AM) (lim : Nat) (v : Int32) : Option (DF × DF × List Nat × List Nat) := (OWM A).bind fun D1 => (OWM B).bind fun D2 => (MR9 D1 D2 lim v).map fun p => (D1, D2, p.1, p.2)
theorem e_meetPairs {lim : Nat} {v : Int32} {Q : Int32 → TMem → Prop} (hk1 : kd k1 = 2) (hk2 : kd k2 = 2) (hA : HM μ k1 A) (hB : HM μ k2 B) (hA7 : A.1 ≤ 32) (hB7 : B.1 ≤ 32) (hta : 3 * A.1 ≤ tl (k1 + 1)) (htb : 3 * B.1 ≤ tl (k2 + 1)) (hl : lim ≤ 200) (hl1 : 1 ≤ lim) (hG : GB μ) (h1 : ∀ (D1 D2 : DF) (L T : List Nat) (μ8 μ9 : TMem), PRS A B lim v = some (D1, D2, L, T) → MR9 D1 D2 lim v = some (L, T) → ME9 D1 D2 lim L T μ8 μ9 → HP μ9 51 D1 → HP μ9 53 D2 → ZF μ μ9 → Q 1 μ9) (h0 : PRS A B lim v = none → ∀ μ9, ZF μ μ9 → Q 0 μ9) : wp_X9_meetPairs k1 k2 μ (nI lim) v Q := by
  have q1 := kd2 hk1
  have q2 := kd2 hk2
  refine e_oneWayA hk1 (k2 := 51) rfl hA hA7 hta (fun D1 μ1 e1 p1 f1 => ⟨fun z => absurd z (by decide), fun _ => ?_⟩) (fun e1 μ1 f1 => ⟨fun _ => h0 (by rw [PRS, e1]; rfl) μ1 (ZF.f17 (k2 := 51) rfl f1), fun z => absurd rfl z⟩)
  have hB1 : HM μ1 k2 B := hB.same (f1 _ (by omega) (by omega) (by omega)) (f1 _ (by omega) (by omega) (by omega))
  refine e_oneWayA hk2 (k2 := 53) rfl hB1 hB7 htb (fun D2 μ2 e2 p2 f2 => ⟨fun z => absurd z (by decide), fun _ => ?_⟩) (fun e2 μ2 f2 => ⟨fun _ => h0 (by rw [PRS, e1, e2]; rfl) μ2 ((ZF.f17 (k2 := 51) rfl f1).trans (ZF.f17 (k2 := 53) rfl f2)), fun z => absurd rfl z⟩)
  have z12 := (ZF.f17 (k2 := 51) rfl f1).trans (ZF.f17 (k2 := 53) rfl f2)
  have p1' : HP μ2 51 D1 := p1.same (f2 _ (by decide) (by decide) (by decide)) (f2 _ (by decide) (by decide) (by decide))
  refine e_meet (k1 := 51) (k2 := 53) rfl rfl p1' p2 hl hl1 (z12.2 hG) (fun L T μ9 hR hM => ⟨fun z => absurd z (by decide), fun _ => h1 D1 D2 L T μ2 μ9 (by rw [PRS, e1, e2]; show (MR9 D1 D2 lim v).map _ = _; rw [hR]; rfl) hR hM ?_ ?_ (z12.trans (ZF.fme hM.2.2.2.2.2.2.2.2.2))⟩) (fun hR μ9 hF => ⟨fun _ => h0 (by rw [PRS, e1, e2]; show (MR9 D1 D2 lim v).map _ = _; rw [hR]; rfl) μ9 (z12.trans (ZF.fme hF)), fun z => absurd rfl z⟩)
  · have hF := hM.2.2.2.2.2.2.2.2.2
    exact p1'.same (hF.2 _ (by decide) (by decide) (by decide) (by decide) (by decide) (by decide) (by decide)) (hF.2 _ (by decide) (by decide) (by decide) (by decide) (by decide) (by decide) (by decide))
  · have hF := hM.2.2.2.2.2.2.2.2.2
    exact p2.same (hF.2 _ (by decide) (by decide) (by decide) (by decide) (by decide) (by decide) (by decide)) (hF.2 _ (by decide) (by decide) (by decide) (by decide) (by decide) (by decide) (by decide))
/-- two put together -/
def DJ (D1 D2 : DF) (w : Nat) (L T : List Nat) : DF := (L.length, fun j => T.getD j 0, fun i => opW w (D1.2.2 (L.getD i 0 / 32)) (D2.2.2 (L.getD i 0 % 32)))
theorem e_becomePairs {w : Nat} {L T : List Nat} {Q : TMem → Prop} (hw : w ≤ 3) (d1 : D1.1 ≤ 32) (d2 : D2.1 ≤ 32) (hM : ME9 D1 D2 32 L T μ0 μ) (hT : T.length = 3 * L.length) (hQ : ∀ μ9, HP μ9 55 (DJ D1 D2 w L T) → FK 55 μ μ9 → Q μ9) : wp_X5_becomePairs 55 μ (nI w) Q := by
  obtain ⟨hL, hL1, hr, h8, h37, h45, h9, hg1, hg2, hF⟩ := hM
  have t56 : tl 56 = 96 := rfl
  have t45 : tl 45 = 600 := rfl
  generalize hz : L.length = z at *
  -- the inner loop: cells
  have L2 : ∀ (a : Nat) (K : TMem → Prop) (r : Int32), a < z → (∀ μ9 : TMem, μ9 55 1 = nI z → μ9 55 2 = r → (∀ j, j < 3 * a + 3 → μ9 56 j = nI (T.getD j 0)) → FK 55 μ μ9 → K μ9) → ∀ (nf b : Nat) (μ1 : TMem), 3 - b < nf → b ≤ 3 → μ1 55 1 = nI z → μ1 55 2 = r → (∀ j, j < 3 * a + b → μ1 56 j = nI (T.getD j 0)) → FK 55 μ μ1 → wpl_X5_becomePairs_44 55 (nI a) (nI w) K nf (nI b) μ1 := by
    intro a K r ha hK nf
    induction nf with
    | zero => intro b μ1 hk; exact absurd hk (Nat.not_lt_zero _)
    | succ nf ih =>
      intro b μ1 hk hb m1 m2 mc mf
      refine ⟨fun q9 => ?_, fun q9 => ?_⟩
      · rw [show (3 : Int32) = nI 3 from rfl, nI_leI (by omega) (by omega)] at q9
        exact hK μ1 m1 m2 (fun j hj => mc j (by omega)) mf
      rw [show (3 : Int32) = nI 3 from rfl, nI_leI (by omega) (by omega)] at q9
      show wp_X6_at 44 μ1 (nI a * (3 : Int32) + nI b) _
      rw [s_place]
      refine e_row (k := 44) (show 3 * a + b < tl 45 by omega) (e_putN (k := 55) (show 3 * a + b < tl 56 by omega) ?_)
      show wpl_X5_becomePairs_44 55 (nI a) (nI w) K nf (nI b + (1 : Int32)) (tms μ1 56 (3 * a + b) (μ1 45 (3 * a + b)))
      rw [nI_1]
      refine ih (b + 1) _ (by omega) (by omega) (by rw [tms_ne (by decide)]; exact m1) (by rw [tms_ne (by decide)]; exact m2) (fun j hj => ?_) (fun j x y => by rw [tms_ne y]; exact mf j x y)
      rw [tms_eq]
      by_cases e : j = 3 * a + b
      · rw [e, upd_at, mf 45 (by decide) (by decide)]
        exact (h45 _ (by omega)).1
      · rw [upd_ne e]
        exact mc j (by omega)
  have L1 : ∀ (nf a : Nat) (μ1 : TMem), z - a < nf → a ≤ z → μ1 55 1 = nI z → (∀ j, j < 3 * a → μ1 56 j = nI (T.getD j 0)) → (∀ i, i < 32 → (nn (μ1 55 2)).testBit i = (decide (i < a) && opW w (D1.2.2 (L.getD i 0 / 32)) (D2.2.2 (L.getD i 0 % 32)))) → FK 55 μ μ1 → wpl_X5_becomePairs_15 55 (nI w) Q nf (nI a) μ1 := by
    intro nf
    induction nf with
    | zero => intro a μ1 hk; exact absurd hk (Nat.not_lt_zero _)
    | succ nf ih =>
      intro a μ1 hk ha m1 mc mg mf
      refine ⟨fun q9 => ?_, fun q9 => ?_⟩
      · rw [m1, nI_leI (by omega) (by omega)] at q9
        have e : a = z := by omega
        subst e
        refine hQ μ1 ⟨by show 1 ≤ L.length; omega, by show L.length ≤ 32; omega, fun j hj => ?_, by rw [m1, ← hz]; rfl, fun j hj => mc j (by have : j < 3 * L.length := hj; omega), fun i hi => by rw [mg i hi, ← hz]; rfl⟩ mf
        have hj' : j < 3 * L.length := hj
        show T.getD j 0 < L.length
        rw [hz]
        exact (h45 j (by omega)).2
      rw [m1, nI_leI (by omega) (by omega)] at q9
      have hm : L.getD a 0 ∈ L := getD_mem (by omega)
      have hb := hr _ hm
      refine e_isGoal4 (i := a) (w := w) (x := L.getD a 0 / 32) (y := L.getD a 0 % 32) (g1 := D1.2.2 (L.getD a 0 / 32)) (g2 := D2.2.2 (L.getD a 0 % 32)) (by omega) hw (by omega) (by omega) (by rw [mf 37 (by decide) (by decide)]; exact (h37 a (by omega)).1) (by rw [mf 39 (by decide) (by decide)]; exact (h37 a (by omega)).2) ?_ ?_ ?_
      · rw [mf 35 (by decide) (by decide), hg1 _ (by omega), decide_eq_true hb.1, Bool.true_and]
      · rw [mf 35 (by decide) (by decide), hg2 _ (by omega), decide_eq_true hb.2, Bool.true_and]
      refine e_with (by omega) (fun r hr9 => ?_)
      have hbi : decide (bi (opW w (D1.2.2 (L.getD a 0 / 32)) (D2.2.2 (L.getD a 0 % 32))) ≠ 0) = opW w (D1.2.2 (L.getD a 0 / 32)) (D2.2.2 (L.getD a 0 % 32)) := by
        cases opW w (D1.2.2 (L.getD a 0 / 32)) (D2.2.2 (L.getD a 0 % 32)) <;> decide
      have g := L2 a (fun μ21 => wpl_X5_becomePairs_15 55 (nI w) Q nf (nI a + (1 : Int32)) μ21) r (by omega) (fun μ9 n1 n2 nc nf' => by
        rw [nI_1]
        refine ih (a + 1) μ9 (by omega) (by omega) n1 (fun j hj => nc j (by omega)) (fun i hi => ?_) nf'
        rw [n2, hr9 i hi, hbi]
        by_cases e : i = a
        · rw [if_pos e, e]
          simp
        · rw [if_neg e, mg i hi]
          congr 1
          exact decide_eq_decide.mpr (by omega)) 4 0 (tms μ1 55 2 r) (by omega) (by omega) (by rw [tms_eq, upd_ne (by decide)]; exact m1) (by rw [tms_eq, upd_at]) (fun j hj => by rw [tms_ne (by decide)]; exact mc j (by omega)) (fun j x y => by rw [tms_ne x]; exact mf j x y)
      rw [nI_0] at g
      exact ⟨_, g⟩
  have g := L1 (z + 1) 0 (tms (tms μ 55 1 (μ 35 8)) 55 2 (0 : Int32)) (by omega) (Nat.zero_le _) (by rw [tms_eq, upd_ne (by decide), tms_eq, upd_at]; exact h8) (fun j hj => absurd hj (Nat.not_lt_zero _)) (fun i hi => by rw [tms_eq, upd_at, nn_0]; simp) (fun j x y => by rw [tms_ne x, tms_ne x])
  rw [nI_0] at g
  exact ⟨_, g⟩
/-- two put together, and the least one of that -/
def BTH (A B : AM) (w : Nat) : Option DF := (PRS A B 32 1).map fun p => DJ p.1 p.2.1 w p.2.2.1 p.2.2.2
def BLS (A B : AM) (w : Nat) : Option DF := (BTH A B w).bind LSD
theorem MR9_len {lim : Nat} {L T : List Nat} (h1 : 1 ≤ lim) (h : MR9 D1 D2 lim 1 = some (L, T)) : T.length = 3 * L.length := by
  have e := EX.inv h1 h
  rcases e.2.2 with z | z
  · exact z.symm
  · rw [uW, decide_eq_false (by decide)] at z
    cases z
theorem e_putTogether {w : Nat} {Q : Int32 → TMem → Prop} (hk1 : kd k1 = 2) (hk2 : kd k2 = 2) (hA : HM μ k1 A) (hB : HM μ k2 B) (hA7 : A.1 ≤ 32) (hB7 : B.1 ≤ 32) (hta : 3 * A.1 ≤ tl (k1 + 1)) (htb : 3 * B.1 ≤ tl (k2 + 1)) (hw : w ≤ 3) (hG : GB μ) (h1 : ∀ (D : DF) (μ9 : TMem), BLS A B w = some D → HP μ9 57 D → ZF μ μ9 → Q 1 μ9) (h0 : BLS A B w = none → ∀ μ9, ZF μ μ9 → Q 0 μ9) : wp_X9_putTogether k1 k2 μ (nI w) Q := by
  refine e_meetPairs (lim := 32) (v := 1) hk1 hk2 hA hB hA7 hB7 hta htb (by omega) (by omega) hG (fun D1 D2 L T μ8 μ9 hP hR hM p1 p2 z => ⟨fun _ => ?_, fun q => absurd q (by decide)⟩) (fun hP μ9 z => ⟨fun q => absurd rfl q, fun _ => h0 (by rw [BLS, BTH, hP]; rfl) μ9 z⟩)
  refine e_becomePairs hw p1.2.1 p2.2.1 hM (MR9_len (by omega) hR) (fun μ4 h4 f4 => ?_)
  refine e_lessen (k1 := 55) (k2 := 57) rfl rfl (by decide) h4 (fun D' μ5 hD h5 f5 => ?_)
  refine h1 D' μ5 (by rw [BLS, BTH, hP]; exact hD) h5 (z.trans (ZF.trans ⟨fun k hk => f4 k (by omega) (by omega), fun g i => by rw [f4 43 (by decide) (by decide)]; exact g i⟩ (ZF.fg (k2 := 57) rfl f5)))
/-- the least one of a machine -/
def LSM (A : AM) : Option DF := (OWM A).bind LSD
theorem e_makeBy3 {Q : Int32 → TMem → Prop} (hk1 : kd k1 = 2) (hk : kd k2 = 5) (hM : HM μ k1 A) (h32 : A.1 ≤ 32) (ht : 3 * A.1 ≤ tl (k1 + 1)) (h1 : ∀ (D : DF) (μ9 : TMem), OWM A = some D → HP μ9 k2 D → ZF μ μ9 → Q 1 μ9) (h0 : OWM A = none → ∀ μ9, ZF μ μ9 → Q 0 μ9) : wp_X3_makeBy k1 k2 μ 3 Q :=
  ⟨fun z => absurd rfl z, fun _ => e_oneWayA hk1 hk hM h32 ht (fun D μ9 e p f => ⟨Or.inr rfl, h1 D μ9 e p (ZF.f17 hk f)⟩) (fun e μ9 f => ⟨Or.inl rfl, h0 e μ9 (ZF.f17 hk f)⟩)⟩
theorem e_makeBy0 {Q : Int32 → TMem → Prop} (hk1 : kd k1 = 2) (hk : kd k2 = 5) (h33 : k2 ≠ 33) (hM : HM μ k1 A) (h32 : A.1 ≤ 32) (ht : 3 * A.1 ≤ tl (k1 + 1)) (h1 : ∀ (D : DF) (μ9 : TMem), LSM A = some D → HP μ9 k2 D → ZF μ μ9 → Q 1 μ9) (h0 : LSM A = none → ∀ μ9, ZF μ μ9 → Q 0 μ9) : wp_X3_makeBy k1 k2 μ 0 Q := by
  refine ⟨fun _ => ⟨fun _ => ?_, fun z => absurd z (by decide)⟩, fun z => absurd z (by decide)⟩
  refine e_oneWayA (k2 := 33) hk1 rfl hM h32 ht (fun D μ3 e p f => ⟨fun _ J hJ => ⟨fun _ => ?_, fun z => absurd z (by decide)⟩, fun z => absurd z (by decide)⟩) (fun e μ9 f => ⟨fun z => absurd rfl z, fun _ => h0 (by rw [LSM, e]; rfl) μ9 (ZF.f17 (k2 := 33) rfl f)⟩)
  refine e_findByParting (k := 33) rfl p (fun μ7 hp hf => hJ μ7 (e_makeGroups (k1 := 33) rfl hk (fun q => h33 q.symm) (p.f2 hf (by decide)) hp (fun D' μ9 hD hH hF => ?_)))
  refine h1 D' μ9 (by rw [LSM, e]; exact hD) hH ((ZF.f17 (k2 := 33) rfl f).trans (ZF.trans ⟨fun k hk => hf k (by omega) (by omega), fun g i => by rw [hf 43 (by decide) (by decide)]; exact g i⟩ (ZF.fg hk hF)))
end SMD
