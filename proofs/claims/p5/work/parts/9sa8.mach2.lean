section SMB
variable {μ μ0 : TMem} {k k0 k1 : Nat}
/-- how many arrows: of the first i cells -/
noncomputable def ACn (c : Nat → Int32) : Nat → Int32
  | 0 => 0
  | i + 1 => ACn c i + pop (c i)
noncomputable def AC (A : AM) : Int32 := ACn A.2.2.2 (3 * A.1)
theorem AN_ACn {n ch seed : Int32} : ∀ i, AN n ch seed i = ACn (CE n ch seed) i := by
  intro i
  induction i with
  | zero => rfl
  | succ i ih => rw [AN, ACn, ih]
theorem ACn_congr {c d : Nat → Int32} : ∀ i, (∀ j, j < i → c j = d j) → ACn c i = ACn d i := by
  intro i
  induction i with
  | zero => intro _; rfl
  | succ i ih => intro h; rw [ACn, ACn, ih (fun j hj => h j (by omega)), h i (by omega)]
theorem ACn_zero {c : Nat → Int32} {n : Nat} (h : ∀ j, n ≤ j → c j = 0) : ∀ i, n ≤ i → ACn c i = ACn c n := by
  intro i
  induction i with
  | zero => intro hi; rw [show n = 0 by omega]
  | succ i ih =>
    intro hi
    by_cases e : n = i + 1
    · rw [e]
    · rw [ACn, h i (by omega), pop_0, Int32.add_zero, ih (by omega)]
theorem e_countA {n : Nat} {c : Nat → Int32} {Q : Int32 → Prop} (hn : μ k 1 = nI n) (h32 : n ≤ 32) (hr : 3 * n ≤ tl (k + 1)) (hc : ∀ j, j < 3 * n → μ (k + 1) j = c j) (hQ : Q (ACn c (3 * n))) : wp_X2_countArrows k μ Q := by
  have L2 : ∀ (a : Nat) (K : Int32 → Prop), a < n → K (ACn c (3 * a + 3)) → ∀ (nf b : Nat), 3 - b < nf → b ≤ 3 → wpl_X2_countArrows_14 k μ (nI a) K nf (nI b) (ACn c (3 * a + b)) := by
    intro a K ha hK nf
    induction nf with
    | zero => intro b hk; exact absurd hk (Nat.not_lt_zero _)
    | succ nf ih =>
      intro b hk hb
      refine ⟨fun q9 => ?_, fun q9 => ?_⟩
      · rw [show (3 : Int32) = nI 3 from rfl, nI_leI (by omega) (by omega)] at q9
        rw [show 3 * a + b = 3 * a + 3 by omega]
        exact hK
      rw [show (3 : Int32) = nI 3 from rfl, nI_leI (by omega) (by omega)] at q9
      refine e_atN (by omega) ?_
      rw [hc _ (by omega)]
      refine pop_w ?_
      rw [nI_1]
      exact ih (b + 1) (by omega) (by omega)
  have L1 : ∀ (nf a : Nat), n - a < nf → a ≤ n → wpl_X2_countArrows_4 k μ Q nf (nI a) (ACn c (3 * a)) := by
    intro nf
    induction nf with
    | zero => intro a hk; exact absurd hk (Nat.not_lt_zero _)
    | succ nf ih =>
      intro a hk ha
      refine ⟨fun q9 => ?_, fun q9 => ?_⟩
      · rw [hn, nI_leI (by omega) (by omega)] at q9
        rw [show a = n by omega]
        exact hQ
      rw [hn, nI_leI (by omega) (by omega)] at q9
      have g := L2 a (fun u => wpl_X2_countArrows_4 k μ Q nf (nI a + (1 : Int32)) u) (by omega) (by rw [nI_1]; exact ih (a + 1) (by omega) (by omega)) 4 0 (by omega) (by omega)
      rw [nI_0] at g
      exact ⟨_, g⟩
  have g := L1 (n + 1) 0 (by omega) (Nat.zero_le _)
  rw [nI_0] at g
  exact ⟨_, g⟩
/-- plain -/
def aPl (A : AM) : Prop := (∀ j, j < 3 * A.1 → pop (A.2.2.2 j) = 1) ∧ pop A.2.1 = 1
theorem e_isPlain {A : AM} {Q : Int32 → Prop} (h : HM μ k A) (h32 : A.1 ≤ 32) (hr : 3 * A.1 ≤ tl (k + 1)) (h1 : aPl A → Q 1) (h0 : ¬ aPl A → Q 0) : wp_X2_isPlain k μ Q := by
  obtain ⟨n, st, go, c⟩ := A
  obtain ⟨hn, hs, hg, hc⟩ := h
  simp only at hn hs hg hc h32 hr
  have L2 : ∀ (a : Nat) (K : Prop), a < n → ((∀ j, j < 3 * a + 3 → pop (c j) = 1) → K) → ∀ (nf b : Nat), 3 - b < nf → b ≤ 3 → (∀ j, j < 3 * a + b → pop (c j) = 1) → wpl_X2_isPlain_12 k μ (nI a) K Q nf (nI b) := by
    intro a K ha hK nf
    induction nf with
    | zero => intro b hk; exact absurd hk (Nat.not_lt_zero _)
    | succ nf ih =>
      intro b hk hb hp
      refine ⟨fun q9 => ?_, fun q9 => ?_⟩
      · rw [show (3 : Int32) = nI 3 from rfl, nI_leI (by omega) (by omega)] at q9
        exact hK (fun j hj => hp j (by omega))
      rw [show (3 : Int32) = nI 3 from rfl, nI_leI (by omega) (by omega)] at q9
      refine e_atN (by omega) ?_
      rw [hc _ (by omega)]
      refine pop_w ⟨fun z => ?_, fun z => h0 (fun w => z (w.1 _ (by show 3 * a + b < 3 * n; omega)))⟩
      rw [nI_1]
      refine ih (b + 1) (by omega) (by omega) (fun j hj => ?_)
      by_cases e : j = 3 * a + b
      · rw [e]; exact z
      · exact hp j (by omega)
  have L1 : ∀ (nf a : Nat), n - a < nf → a ≤ n → (∀ j, j < 3 * a → pop (c j) = 1) → wpl_X2_isPlain_2 k μ (wp_J6_bitCount_0f7a4 (μ k 3) (fun (r15 : Int32) => (¬ r15 = (1 : Int32) → (Q (0 : Int32))) ∧ (r15 = (1 : Int32) → (Q (1 : Int32))))) Q nf (nI a) := by
    intro nf
    induction nf with
    | zero => intro a hk; exact absurd hk (Nat.not_lt_zero _)
    | succ nf ih =>
      intro a hk ha hp
      refine ⟨fun q9 => ?_, fun q9 => ?_⟩
      · rw [hn, nI_leI (by omega) (by omega)] at q9
        rw [hs]
        exact pop_w ⟨fun z => h0 (fun w => z w.2), fun z => h1 ⟨fun j hj => hp j (by have : j < 3 * n := hj; omega), z⟩⟩
      rw [hn, nI_leI (by omega) (by omega)] at q9
      have g := L2 a (wpl_X2_isPlain_2 k μ (wp_J6_bitCount_0f7a4 (μ k 3) (fun (r15 : Int32) => (¬ r15 = (1 : Int32) → (Q (0 : Int32))) ∧ (r15 = (1 : Int32) → (Q (1 : Int32))))) Q nf (nI a + (1 : Int32))) (by omega) (fun hp2 => by rw [nI_1]; exact ih (a + 1) (by omega) (by omega) (fun j hj => hp2 j (by omega))) 4 0 (by omega) (by omega) (fun j hj => hp j (by omega))
      rw [nI_0] at g
      exact ⟨_, g⟩
  have g := L1 (n + 1) 0 (by omega) (Nat.zero_le _) (fun j hj => absurd hj (Nat.not_lt_zero _))
  rw [nI_0] at g
  exact ⟨_, g⟩
theorem e_sameT {n n' : Nat} {c c' : Nat → Int32} {Q : Int32 → Prop} (ha : μ k0 1 = nI n) (hb : μ k1 1 = nI n') (hn : n ≤ 32) (hn' : n' ≤ 32) (hr0 : 3 * n ≤ tl (k0 + 1)) (hr1 : 3 * n' ≤ tl (k1 + 1)) (hca : ∀ j, j < 3 * n → μ (k0 + 1) j = c j) (hcb : ∀ j, j < 3 * n' → μ (k1 + 1) j = c' j) (h1 : n = n' → μ k0 2 = μ k1 2 → (∀ j, j < 3 * n → c j = c' j) → Q 1) (h0 : ¬ (n = n' ∧ μ k0 2 = μ k1 2 ∧ ∀ j, j < 3 * n → c j = c' j) → Q 0) : wp_X7_isSameTable k0 k1 μ Q := by
  refine ⟨fun z => h0 (fun w => z (by rw [ha, hb, w.1])), fun z => ⟨fun z2 => ?_, fun z2 => h0 (fun w => z2 w.2.1)⟩⟩
  rw [ha, hb, nI_eq (by omega) (by omega)] at z
  subst z
  have L2 : ∀ (a : Nat) (K : Prop), a < n → ((∀ j, j < 3 * a + 3 → c j = c' j) → K) → ∀ (nf b : Nat), 3 - b < nf → b ≤ 3 → (∀ j, j < 3 * a + b → c j = c' j) → wpl_X7_isSameTable_36 k0 k1 μ (nI a) K Q nf (nI b) := by
    intro a K ha' hK nf
    induction nf with
    | zero => intro b hk; exact absurd hk (Nat.not_lt_zero _)
    | succ nf ih =>
      intro b hk hb' hp
      refine ⟨fun q9 => ?_, fun q9 => ?_⟩
      · rw [show (3 : Int32) = nI 3 from rfl, nI_leI (by omega) (by omega)] at q9
        exact hK (fun j hj => hp j (by omega))
      rw [show (3 : Int32) = nI 3 from rfl, nI_leI (by omega) (by omega)] at q9
      refine e_atN (by omega) (e_atN (by omega) ?_)
      rw [hca _ (by omega), hcb _ (by omega)]
      refine ⟨fun z => ?_, fun z => h0 (fun w => z (w.2.2 _ (by omega)))⟩
      rw [nI_1]
      refine ih (b + 1) (by omega) (by omega) (fun j hj => ?_)
      by_cases e : j = 3 * a + b
      · rw [e]; exact z
      · exact hp j (by omega)
  have L1 : ∀ (nf a : Nat), n - a < nf → a ≤ n → (∀ j, j < 3 * a → c j = c' j) → wpl_X7_isSameTable_26 k0 k1 μ Q nf (nI a) := by
    intro nf
    induction nf with
    | zero => intro a hk; exact absurd hk (Nat.not_lt_zero _)
    | succ nf ih =>
      intro a hk ha' hp
      refine ⟨fun q9 => ?_, fun q9 => ?_⟩
      · rw [ha, nI_leI (by omega) (by omega)] at q9
        exact h1 rfl z2 (fun j hj => hp j (by omega))
      rw [ha, nI_leI (by omega) (by omega)] at q9
      have g := L2 a (wpl_X7_isSameTable_26 k0 k1 μ Q nf (nI a + (1 : Int32))) (by omega) (fun hp2 => by rw [nI_1]; exact ih (a + 1) (by omega) (by omega) (fun j hj => hp2 j (by omega))) 4 0 (by omega) (by omega) (fun j hj => hp j (by omega))
      rw [nI_0] at g
      exact ⟨_, g⟩
  have g := L1 (n + 1) 0 (by omega) (Nat.zero_le _) (fun j hj => absurd hj (Nat.not_lt_zero _))
  rw [nI_0] at g
  exact ⟨_, g⟩
/-- the same machine -/
def aSm (A B : AM) : Prop := A.1 = B.1 ∧ A.2.1 = B.2.1 ∧ A.2.2.1 = B.2.2.1 ∧ ∀ j, j < 3 * A.1 → A.2.2.2 j = B.2.2.2 j
theorem e_isSame {A B : AM} {Q : Int32 → Prop} (hA : HM μ k0 A) (hB : HM μ k1 B) (hn : A.1 ≤ 32) (hn' : B.1 ≤ 32) (hr0 : 3 * A.1 ≤ tl (k0 + 1)) (hr1 : 3 * B.1 ≤ tl (k1 + 1)) (h1 : aSm A B → Q 1) (h0 : ¬ aSm A B → Q 0) : wp_X2_isSameAs k0 k1 μ Q := by
  obtain ⟨a1, a2, a3, a4⟩ := hA
  obtain ⟨b1, b2, b3, b4⟩ := hB
  refine ⟨fun z => h0 (fun w => z (by rw [a2, b2, w.2.1])), fun z => ?_⟩
  rw [a2, b2] at z
  refine e_sameT a1 b1 hn hn' hr0 hr1 a4 b4 (fun e1 e2 e3 => ⟨fun q => absurd q (by decide), fun _ => h1 ⟨e1, z, by rw [← a3, ← b3]; exact e2, e3⟩⟩) (fun w => ⟨fun _ => h0 (fun w2 => w ⟨w2.1, by rw [a3, b3]; exact w2.2.2.1, w2.2.2.2⟩), fun q => absurd rfl q⟩)
theorem e_addState {A : AM} {Q : TMem → Prop} (hk0 : kd k0 = 2) (h : HM μ k0 A) (h32 : A.1 < 32) (hr : 3 * A.1 + 3 ≤ tl (k0 + 1)) (hz : ∀ j, 3 * A.1 ≤ j → A.2.2.2 j = 0) (hQ : ∀ μ9, HM μ9 k0 (A.1 + 1, A.2) → FK k0 μ μ9 → Q μ9) : wp_X2_addState k0 μ Q := by
  have q0 := kd2 hk0
  obtain ⟨n, st, go, c⟩ := A
  obtain ⟨h1, h2, h3, h4⟩ := h
  simp only at h1 h2 h3 h4 h32 hr hz
  have L : ∀ (nf b : Nat) (μ1 : TMem), 3 - b < nf → b ≤ 3 → WI μ k0 c (3 * n + b) μ1 → wpl_X2_addState_2 k0 Q nf (nI b) μ1 := by
    intro nf
    induction nf with
    | zero => intro b μ1 hk; exact absurd hk (Nat.not_lt_zero _)
    | succ nf ih =>
      intro b μ1 hk hb hw
      have e0 : μ1 k0 = μ k0 := hw.2.2 k0 (by omega)
      refine ⟨fun q9 => ?_, fun q9 => ?_⟩
      · rw [show (3 : Int32) = nI 3 from rfl, nI_leI (by omega) (by omega)] at q9
        rw [e0, h1, nI_1]
        refine hQ _ ⟨by simp [tms_ix], by simp [tms_ix, e0, h2], by simp [tms_ix, e0, h3], fun j hj => ?_⟩ (fun j a b => by rw [tms_ne a, hw.2.2 j b])
        rw [tms_ne (by omega)]
        have hj' : j < 3 * (n + 1) := hj
        exact hw.1 j (by omega)
      rw [show (3 : Int32) = nI 3 from rfl, nI_leI (by omega) (by omega)] at q9
      rw [e0, h1]
      refine e_putN (by omega) ?_
      rw [nI_1, ← hz (3 * n + b) (by omega)]
      exact ih (b + 1) _ (by omega) (by omega) hw.step
  have g := L 4 0 μ (by omega) (by omega) ⟨fun j hj => h4 j (by omega), fun _ _ => rfl, fun _ _ => rfl⟩
  rw [nI_0] at g
  exact ⟨_, g⟩
/-- a machine begun anew -/
def aC (n : Nat) : AM := (n, 1, 0, fun _ => 0)
theorem e_clearA {n : Nat} {Q : TMem → Prop} (hk0 : kd k0 = 2) (h32 : n ≤ 32) (hr : 3 * n ≤ tl (k0 + 1)) (hQ : ∀ μ9, HM μ9 k0 (aC n) → FK k0 μ μ9 → Q μ9) : wp_X2_clear k0 μ (nI n) Q := by
  have q0 := kd2 hk0
  have L : ∀ (nf a : Nat) (μ1 : TMem), n - a < nf → a ≤ n → HM μ1 k0 (a, μ1 k0 3, 0, fun _ => 0) → FK k0 μ μ1 → wpl_X2_clear_12 k0 (nI n) Q nf (nI a) μ1 := by
    intro nf
    induction nf with
    | zero => intro a μ1 hk; exact absurd hk (Nat.not_lt_zero _)
    | succ nf ih =>
      intro a μ1 hk ha hM hF
      refine ⟨fun q9 => ?_, fun q9 => ?_⟩
      · rw [nI_leI (by omega) (by omega)] at q9
        have e : a = n := by omega
        subst e
        obtain ⟨m1, m2, m3, m4⟩ := hM
        refine hQ _ ⟨by simp [tms_ix, m1, aC], by simp [tms_ix, aC], by simp [tms_ix, m3, aC], fun j hj => by rw [tms_ne (by omega)]; exact m4 j hj⟩ (fun j x y => by rw [tms_ne x]; exact hF j x y)
      rw [nI_leI (by omega) (by omega)] at q9
      refine e_addState (A := (a, μ1 k0 3, 0, fun _ => 0)) hk0 hM (show a < 32 by omega) (show 3 * a + 3 ≤ _ by omega) (fun _ _ => rfl) (fun μ9 h9 f9 => ?_)
      rw [nI_1]
      have e3 : μ9 k0 3 = μ1 k0 3 := h9.2.1
      refine ih (a + 1) μ9 (by omega) (by omega) ?_ (fun j x y => (f9 j x y).trans (hF j x y))
      rw [e3]
      exact h9
  have g := L (n + 1) 0 (tms (tms μ k0 1 (0 : Int32)) k0 2 (0 : Int32)) (by omega) (Nat.zero_le _) ⟨by simp [tms_ix, nI_0], rfl, by simp [tms_ix], fun j hj => absurd hj (Nat.not_lt_zero _)⟩ (fun j x y => by rw [tms_ne x, tms_ne x])
  rw [nI_0] at g
  exact ⟨_, g⟩
/-- a set without a state, those behind it one less -/
def cu (x : Int32) (g : Nat) : Int32 := (x &&& (((1 : Int32) <<< (nI g &&& 31)) - (1 : Int32))) ||| ((x >>> ((nI g + (1 : Int32)) &&& 31)) <<< (nI g &&& 31))
def aD (A : AM) (s : Nat) : AM := (A.1 - 1, cu A.2.1 s, cu A.2.2.1 s, fun j => if j < 3 * (A.1 - 1) then cu (A.2.2.2 (if j < 3 * s then j else j + 3)) s else 0)
theorem e_removeState {A : AM} {s : Nat} {Q : TMem → Prop} (hk0 : kd k0 = 2) (h : HM μ k0 A) (hs : s < A.1) (h32 : A.1 ≤ 32) (hr : 3 * A.1 ≤ tl (k0 + 1)) (hQ : ∀ μ9, HM μ9 k0 (aD A s) → FK k0 μ μ9 → Q μ9) : wp_X2_removeState k0 μ (nI s) Q := by
  have q0 := kd2 hk0
  obtain ⟨n, st, go, c⟩ := A
  obtain ⟨h1, h2, h3, h4⟩ := h
  simp only at h1 h2 h3 h4 h32 hr hs
  have fin : ∀ μ1, WI μ k0 (fun j => cu (c (if j < 3 * s then j else j + 3)) s) (3 * (n - 1)) μ1 → wp_X2_closeUp (μ1 k0 3) (nI s) (fun (r25 : Int32) => wp_X2_closeUp ((tms μ1 k0 3 r25) k0 2) (nI s) (fun (r26 : Int32) => Q (tms (tms (tms μ1 k0 3 r25) k0 2 r26) k0 1 (((tms (tms μ1 k0 3 r25) k0 2 r26) k0 1) - (1 : Int32))))) := fun μ1 hw => by
    have e0 : μ1 k0 = μ k0 := hw.2.2 k0 (by omega)
    refine hQ _ ⟨?_, ?_, ?_, fun j hj => ?_⟩ (fun j a b => by rw [tms_ne a, tms_ne a, tms_ne a, hw.2.2 j b])
    · have e : nI n - (1 : Int32) = nI (n - 1) := by rw [show (1 : Int32) = nI 1 from rfl, s_sub (by omega) (by omega)]
      simp [tms_ix, e0, h1, e, aD]
    · simp [tms_ix, e0, h2, aD, cu]
    · simp [tms_ix, e0, h3, aD, cu]
    · have hj' : j < 3 * (n - 1) := hj
      rw [tms_ne (by omega), tms_ne (by omega), tms_ne (by omega), hw.1 j hj']
      show _ = if j < 3 * (n - 1) then _ else _
      rw [if_pos hj']
  have L2 : ∀ (a : Nat) (K : TMem → Prop), a < n - 1 → (∀ μ9, WI μ k0 (fun j => cu (c (if j < 3 * s then j else j + 3)) s) (3 * a + 3) μ9 → K μ9) → ∀ (nf b : Nat) (μ1 : TMem), 3 - b < nf → b ≤ 3 → WI μ k0 (fun j => cu (c (if j < 3 * s then j else j + 3)) s) (3 * a + b) μ1 → wpl_X2_removeState_28 k0 (nI (if a < s then a else a + 1)) (nI a) (nI s) K nf (nI b) μ1 := by
    intro a K ha hK nf
    induction nf with
    | zero => intro b μ1 hk; exact absurd hk (Nat.not_lt_zero _)
    | succ nf ih =>
      intro b μ1 hk hb hw
      refine ⟨fun q9 => ?_, fun q9 => ?_⟩
      · rw [show (3 : Int32) = nI 3 from rfl, nI_leI (by omega) (by omega)] at q9
        rw [show 3 * a + b = 3 * a + 3 by omega] at hw
        exact hK μ1 hw
      rw [show (3 : Int32) = nI 3 from rfl, nI_leI (by omega) (by omega)] at q9
      have hkp : 3 * (if a < s then a else a + 1) + b = if 3 * a + b < 3 * s then 3 * a + b else 3 * a + b + 3 := by
        by_cases e : a < s
        · rw [if_pos e, if_pos (by omega)]
        · rw [if_neg e, if_neg (by omega)]
          omega
      have hlt : 3 * (if a < s then a else a + 1) + b < 3 * n := by
        by_cases e : a < s
        · rw [if_pos e]; omega
        · rw [if_neg e]; omega
      have hge : 3 * a + b ≤ 3 * (if a < s then a else a + 1) + b := by
        by_cases e : a < s
        · rw [if_pos e]; omega
        · rw [if_neg e]; omega
      refine e_atN (by omega) ?_
      rw [hw.2.1 _ hge, h4 _ hlt, hkp]
      refine e_putN (by omega) ?_
      rw [nI_1]
      exact ih (b + 1) _ (by omega) (by omega) hw.step
  have L1 : ∀ (nf a : Nat) (μ1 : TMem), n - 1 - a < nf → a ≤ n - 1 → WI μ k0 (fun j => cu (c (if j < 3 * s then j else j + 3)) s) (3 * a) μ1 → wpl_X2_removeState_2 k0 (nI s) (fun (μ24 : TMem) => wp_X2_closeUp (μ24 k0 3) (nI s) (fun (r25 : Int32) => wp_X2_closeUp ((tms μ24 k0 3 r25) k0 2) (nI s) (fun (r26 : Int32) => Q (tms (tms (tms μ24 k0 3 r25) k0 2 r26) k0 1 (((tms (tms μ24 k0 3 r25) k0 2 r26) k0 1) - (1 : Int32)))))) nf (nI a) μ1 := by
    intro nf
    induction nf with
    | zero => intro a μ1 hk; exact absurd hk (Nat.not_lt_zero _)
    | succ nf ih =>
      intro a μ1 hk ha hw
      have hz : μ1 k0 1 - (1 : Int32) = nI (n - 1) := by rw [hw.2.2 k0 (by omega), h1, show (1 : Int32) = nI 1 from rfl, s_sub (by omega) (by omega)]
      refine ⟨fun q9 => ?_, fun q9 => ?_⟩
      · rw [hz, nI_leI (by omega) (by omega)] at q9
        rw [show a = n - 1 by omega] at hw
        exact fin μ1 hw
      rw [hz, nI_leI (by omega) (by omega)] at q9
      intro J hJ
      have g := L2 a (fun μ9 => wpl_X2_removeState_2 k0 (nI s) (fun (μ24 : TMem) => wp_X2_closeUp (μ24 k0 3) (nI s) (fun (r25 : Int32) => wp_X2_closeUp ((tms μ24 k0 3 r25) k0 2) (nI s) (fun (r26 : Int32) => Q (tms (tms (tms μ24 k0 3 r25) k0 2 r26) k0 1 (((tms (tms μ24 k0 3 r25) k0 2 r26) k0 1) - (1 : Int32)))))) nf (nI a + (1 : Int32)) μ9) (by omega) (fun μ9 h9 => by rw [nI_1]; exact ih (a + 1) μ9 (by omega) (by omega) h9) 4 0 μ1 (by omega) (by omega) hw
      rw [nI_0] at g
      refine ⟨fun z => ?_, fun z => ?_⟩
      · rw [nI_leI (by omega) (by omega)] at z
        rw [if_neg (by omega)] at g
        rw [nI_1] at g ⊢
        exact hJ _ ⟨_, by rw [nI_1]; exact g⟩
      · rw [nI_leI (by omega) (by omega)] at z
        rw [if_pos (by omega)] at g
        exact hJ _ ⟨_, g⟩
  have g := L1 (n + 1) 0 μ (by omega) (Nat.zero_le _) WI.start
  rw [nI_0] at g
  exact ⟨_, g⟩
end SMB
