section SRI
variable {ν : TMem} {Qi : Int32 → Prop} {m : Nat} {A : AM} {na : Nat} {fa : Nat → Int64} {n : Nat}
/-- whether an arrow leads from f to i (or, turned round, from i to f), f in the set -/
def cnX (c : Nat → Nat) (tr : Bool) (S s f i : Nat) : Bool := S.testBit f && (c (3 * (if tr = true then i else f) + s)).testBit (if tr = true then f else i)
def NX (c : Nat → Nat) (tr : Bool) (S s m i : Nat) : Bool := (List.range m).any (fun f => cnX c tr S s f i)
theorem NX_s {c : Nat → Nat} {tr : Bool} {S s m i : Nat} : NX c tr S s (m + 1) i = (NX c tr S s m i || cnX c tr S s m i) := by
  rw [NX, NX, List.range_succ, List.any_append]
  simp
def bitsN (p : Nat → Bool) : Nat → Nat
  | 0 => 0
  | i + 1 => if p i = true then bitsN p i ||| 2 ^ i else bitsN p i
theorem bitsN_bit {p : Nat → Bool} : ∀ z i, (bitsN p z).testBit i = (decide (i < z) && p i) := by
  intro z
  induction z with
  | zero => intro i; rw [bitsN]; simp
  | succ z ih =>
    intro i
    rw [bitsN]
    by_cases e : i = z
    · subst e
      cases q : p i with
      | true => rw [if_pos rfl, s_or2]; simp
      | false => rw [if_neg (by decide), ih]; simp
    · have e2 : ¬ z = i := fun w => e w.symm
      have e3 : decide (i < z + 1) = decide (i < z) := decide_eq_decide.mpr (by omega)
      by_cases q : p z = true
      · rw [if_pos q, s_or2, ih, e3]; simp [e2]
      · rw [if_neg q, ih, e3]
/-- the set to which arrows lead from a set; of the machine turned round, if that is asked -/
def fX (n : Nat) (c : Nat → Nat) (tr : Bool) : Nat → Nat → Nat := fun S s => bitsN (NX c tr S s n) n
theorem rr_next {v14 : Int64} {s : Nat} {v16 : Int32} {tr : Bool} {Q : Int64 → Prop} (hn : 3 * n ≤ na) (h32 : n ≤ 32) (hs : s < 3) (htr : v16 = 0 ↔ tr = false) (h : ∀ y : Int64, ll y = fX n (fun j => ll (fa j)) tr (ll v14) s → Q y) : wp_X11_next na fa (nI n) v14 (nI s) v16 Q := by
  have L2 : ∀ (x : Nat) (K : Int64 → Prop), x < n → (∀ y : Int64, (∀ i, (ll y).testBit i = (decide (i < n) && NX (fun j => ll (fa j)) tr (ll v14) s (x + 1) i)) → K y) → ∀ (nf b : Nat) (y : Int64), n - b < nf → b ≤ n → (∀ i, (ll y).testBit i = ((decide (i < n) && NX (fun j => ll (fa j)) tr (ll v14) s x i) || (decide (i < b) && cnX (fun j => ll (fa j)) tr (ll v14) s x i))) → wpl_X11_next_15 fa na (nI x) (nI n) v14 (nI s) v16 K nf (nI b) y := by
    intro x K hx hK nf
    induction nf with
    | zero => intro b y hk; exact absurd hk (Nat.not_lt_zero _)
    | succ nf ih =>
      intro b y hk hb hy
      refine ⟨fun q => ?_, fun q => ?_⟩
      · rw [nI_leI (by omega) (by omega)] at q
        have e : b = n := by omega
        subst e
        refine hK y (fun i => ?_)
        rw [hy i, NX_s]
        cases decide (i < b) <;> simp
      rw [nI_leI (by omega) (by omega)] at q
      have go0 : cnX (fun j => ll (fa j)) tr (ll v14) s x b = false → wpl_X11_next_15 fa na (nI x) (nI n) v14 (nI s) v16 K nf (nI b + (1 : Int32)) y := fun z => by
        rw [nI_1]
        refine ih (b + 1) y (by omega) (by omega) (fun i => ?_)
        rw [hy i]
        by_cases e : i = b
        · subst e
          rw [z]
          simp
        · rw [show decide (i < b + 1) = decide (i < b) from decide_eq_decide.mpr (by omega)]
      have go1 : cnX (fun j => ll (fa j)) tr (ll v14) s x b = true → wpl_X11_next_15 fa na (nI x) (nI n) v14 (nI s) v16 K nf (nI b + (1 : Int32)) (y ||| ((1 : Int64) <<< ((nI b).toInt64 &&& 63))) := fun z => by
        rw [nI_1]
        refine ih (b + 1) _ (by omega) (by omega) (fun i => ?_)
        rw [ll_or, ll_two b (by omega), s_or2, hy i]
        by_cases e : i = b
        · subst e
          rw [z]
          simp
        · have e2 : ¬ b = i := fun w => e w.symm
          rw [show decide (i < b + 1) = decide (i < b) from decide_eq_decide.mpr (by omega)]
          simp [e2]
      have core : ∀ (x1 x2 : Nat), x1 < n → x2 < n → (cnX (fun j => ll (fa j)) tr (ll v14) s x b = ((ll v14).testBit x && (ll (fa (3 * x1 + s))).testBit x2)) → (vp_in (((3 : Int32) * (nI x1)) + (nI s)) na ∧ (∀ J21 : Int32 → Prop, (∀ (j22 : Int32), (∀ J23 : Int32 → Prop, (∀ (j24 : Int32), ((j24 = 0 → (wpl_X11_next_15 fa na (nI x) (nI n) v14 (nI s) v16 K nf (nI b + (1 : Int32)) y)) ∧ (¬ j24 = 0 → ((¬ (lg_cmp ((v14 >>> ((nI x).toInt64 &&& 63)) &&& (1 : Int64)) (1 : Int64)) = 0 → (wpl_X11_next_15 fa na (nI x) (nI n) v14 (nI s) v16 K nf (nI b + (1 : Int32)) y)) ∧ ((lg_cmp ((v14 >>> ((nI x).toInt64 &&& 63)) &&& (1 : Int64)) (1 : Int64)) = 0 → (wpl_X11_next_15 fa na (nI x) (nI n) v14 (nI s) v16 K nf (nI b + (1 : Int32)) (y ||| ((1 : Int64) <<< ((nI b).toInt64 &&& 63)))))))) → J23 j24) → ((¬ (lg_cmp (((fa (((3 : Int32) * (nI x1)) + (nI s)).toNatClampNeg) >>> (j22.toInt64 &&& 63)) &&& (1 : Int64)) (1 : Int64)) = 0 → (J23 (0 : Int32))) ∧ ((lg_cmp (((fa (((3 : Int32) * (nI x1)) + (nI s)).toNatClampNeg) >>> (j22.toInt64 &&& 63)) &&& (1 : Int64)) (1 : Int64)) = 0 → (J23 (1 : Int32))))) → J21 j22) → J21 (nI x2))) := by
        intro x1 x2 h1 h2 hc
        rw [show (3 : Int32) = nI 3 from rfl, s_mul, nI_add, nI_clamp (by omega)]
        refine ⟨s_in (by omega) (by omega), fun J21 hJ21 => hJ21 _ (fun J23 hJ23 => ?_)⟩
        rw [s_isInL (by omega)]
        refine ⟨fun z => hJ23 0 ⟨fun _ => go0 ?_, fun w => absurd rfl w⟩, fun z => hJ23 1 ⟨fun w => absurd w (by decide), fun _ => ?_⟩⟩
        · rw [hc, show (ll (fa (3 * x1 + s))).testBit x2 = false by simpa using z]
          simp
        · rw [s_isInL (by omega)]
          refine ⟨fun w => go0 ?_, fun w => go1 ?_⟩
          · rw [hc, show (ll v14).testBit x = false by simpa using w]
            simp
          · rw [hc, w, z]
            rfl
      intro J18 hJ18
      refine ⟨fun z => hJ18 _ ?_, fun z => hJ18 _ ?_⟩
      · have etr := htr.mp z
        obtain ⟨g1, g2⟩ := core x b hx (by omega) (by rw [cnX, etr]; rfl)
        exact ⟨g1, fun J21 hJ21 => ⟨fun _ => g2 J21 hJ21, fun w => absurd z w⟩⟩
      · have etr : tr = true := by
          cases tr with
          | true => rfl
          | false => exact absurd (htr.mpr rfl) z
        obtain ⟨g1, g2⟩ := core b x (by omega) hx (by rw [cnX, etr]; rfl)
        exact ⟨g1, fun J21 hJ21 => ⟨fun w => absurd w z, fun _ => g2 J21 hJ21⟩⟩
  have L1 : ∀ (nf x : Nat) (y : Int64), n - x < nf → x ≤ n → (∀ i, (ll y).testBit i = (decide (i < n) && NX (fun j => ll (fa j)) tr (ll v14) s x i)) → wpl_X11_next_6 fa na (nI n) v14 (nI s) v16 Q nf (nI x) y := by
    intro nf
    induction nf with
    | zero => intro x y hk; exact absurd hk (Nat.not_lt_zero _)
    | succ nf ih =>
      intro x y hk hx hy
      refine ⟨fun q => ?_, fun q => ?_⟩
      · rw [nI_leI (by omega) (by omega)] at q
        rw [show x = n by omega] at hy
        exact h y (s_ext (fun i => by rw [hy i, fX, bitsN_bit]))
      rw [nI_leI (by omega) (by omega)] at q
      have g := L2 x (fun u => wpl_X11_next_6 fa na (nI n) v14 (nI s) v16 Q nf (nI x + (1 : Int32)) u) (by omega) (fun u hu => by rw [nI_1]; exact ih (x + 1) u (by omega) (by omega) hu) (n + 1) 0 y (by omega) (by omega) (fun i => by rw [hy i]; simp)
      rw [nI_0] at g
      exact ⟨_, g⟩
  have g := L1 (n + 1) 0 0 (by omega) (by omega) (fun i => by rw [ll_0, NX]; simp)
  rw [nI_0] at g
  exact ⟨_, g⟩
/-- the array f of n numbers holds the one-way machine D -/
def HF (nf : Nat) (f : Nat → Int32) (D : DF) : Prop := 1 ≤ D.1 ∧ D.1 ≤ 32 ∧ (∀ j, j < 3 * D.1 → D.2.1 j < D.1) ∧ nf = 4 * D.1 ∧ (∀ i s, i < D.1 → s < 3 → f (4 * i + s) = nI (D.2.1 (3 * i + s))) ∧ ∀ i, i < D.1 → f (4 * i + 3) = bi (D.2.2 i)
theorem rr_part {f : Nat → Int32} {nf z : Nat} {Q : Nat → (Nat → Int32) → Prop} (hz : z ≤ 128) (hnf : z ≤ nf) (h : ∀ f' : Nat → Int32, (∀ j, j < z → f' j = f j) → Q z f') : wp_X11_part nf f (nI z) Q := by
  have L : ∀ (k i : Nat) (f7 : Nat → Int32), z - i < k → i ≤ z → (∀ j, j < i → f7 j = f j) → wpl_X11_part_6 f nf z (nI z) Q k (nI i) f7 := by
    intro k
    induction k with
    | zero => intro i f7 hk; exact absurd hk (Nat.not_lt_zero _)
    | succ k ih =>
      intro i f7 hk hi hf
      refine ⟨fun q => ?_, fun q => ?_⟩
      · rw [nI_leI (by omega) (by omega)] at q
        exact h f7 (fun j hj => hf j (by omega))
      rw [nI_leI (by omega) (by omega)] at q
      rw [nI_clamp (by omega), nI_1]
      refine ⟨s_in (by omega) (by omega), s_in (by omega) (by omega), ih (i + 1) _ (by omega) (by omega) (fun j hj => ?_)⟩
      by_cases e : j = i
      · rw [e, upd_at]
      · rw [upd_ne e]
        exact hf j (by omega)
  have g := L (z + 1) 0 (fun _ => 0) (by omega) (Nat.zero_le _) (fun j hj => absurd hj (Nat.not_lt_zero _))
  rw [nI_0] at g
  unfold wp_X11_part
  rw [nI_clamp (by omega)]
  exact ⟨⟨nI_pos (by omega), hz⟩, _, g⟩
/-- where the reference's exploring stands: the sets, the rows -/
def RO (f : Nat → Nat → Nat) (gl : Nat → Bool) (R : Option (List Nat × List Nat)) (L T : List Nat) (a' : Nat) (fs : Nat → Int64) (fm : Nat → Int32) : Prop := EI 32 f (fun _ => false) R L T ∧ (∀ i, i < L.length → ll (fs i) = L.getD i 0) ∧ (∀ j, j < T.length → fm (4 * (j / 3) + j % 3) = nI (T.getD j 0)) ∧ ∀ i, i < a' → fm (4 * i + 3) = bi (gl (L.getD i 0))
variable {f : Nat → Nat → Nat} {gl : Nat → Bool} {R : Option (List Nat × List Nat)} {L T : List Nat} {a' : Nat}
theorem rr_ow105 {fs : Nat → Int64} {fm : Nat → Int32} {y v46 v47 : Int64} {v42 v43 v45 v48 : Int32} {K : Int32 → Prop} (hl : L.length ≤ 32) (hs : ∀ i, i < L.length → ll (fs i) = L.getD i 0) (h : K (nI (L.idxOf (ll y)))) : ∃ n, wpl_X11_oneWay_105 fa na fs 32 fm 128 y v42 v43 (nI L.length) v45 v46 v47 v48 K n 0 := by
  have go : ∀ (k i : Nat), L.length - i < k → i ≤ L.length → (∀ j, j < i → L.getD j 0 ≠ ll y) → wpl_X11_oneWay_105 fa na fs 32 fm 128 y v42 v43 (nI L.length) v45 v46 v47 v48 K k (nI i) := by
    intro k
    induction k with
    | zero => intro i hk; exact absurd hk (Nat.not_lt_zero _)
    | succ k ih =>
      intro i hk hi hno
      refine ⟨fun q => ?_, fun q => ?_⟩
      · rw [nI_leI (by omega) (by omega)] at q
        have e : i = L.length := by omega
        have nm : ll y ∉ L := not_mem_of (fun j hj => hno j (by omega))
        rw [List.idxOf_eq_length nm] at h
        rw [e]
        exact h
      rw [nI_leI (by omega) (by omega)] at q
      refine ⟨s_in (by omega) (by omega), ?_⟩
      rw [nI_clamp (by omega), lg_cmp_eq, ll_eq, hs i (by omega), nI_1]
      refine ⟨fun z => ?_, fun z => ih (i + 1) (by omega) (by omega) (fun j hj => ?_)⟩
      · rw [idx_of (by omega) z hno] at h
        exact h
      · by_cases e : j = i
        · rw [e]; exact z
        · exact hno j (by omega)
  have g := go (L.length + 1) 0 (by omega) (by omega) (fun j hj => absurd hj (Nat.not_lt_zero _))
  rw [nI_0] at g
  exact ⟨_, g⟩
theorem rr_ow80 {x : Nat} {v31 v32 : Int64} {v33 : Int32} {tr : Bool} {K : Int32 → (Nat → Int64) → (Nat → Int32) → Prop} {Q : Option AI → Prop} (hn : 3 * n ≤ na) (h32 : n ≤ 32) (htr : v33 = 0 ↔ tr = false) (hf : f = fX n (fun j => ll (fa j)) tr)
    (hK : ∀ (L T : List Nat) (fs : Nat → Int64) (fm : Nat → Int32), T.length = 3 * (x + 1) → x < L.length → RO f gl R L T (x + 1) fs fm → K (nI L.length) fs fm) (hQ : R = none → Q none) :
    ∀ (k b : Nat) (L T : List Nat) (fs : Nat → Int64) (fm : Nat → Int32), 3 - b < k → b ≤ 3 → T.length = 3 * x + b → x < L.length → RO f gl R L T (x + 1) fs fm → wpl_X11_oneWay_80 fa na 32 128 (nI x) (nI n) v31 v32 v33 K Q k (nI b) (nI L.length) fs fm := by
  intro k
  induction k with
  | zero => intro b L T fs fm hk; exact absurd hk (Nat.not_lt_zero _)
  | succ k ih =>
    intro b L T fs fm hk hb hT hx hO
    have hO' := hO
    obtain ⟨h1, h2, h3, h4⟩ := hO'
    have hL := h1.2.1
    refine ⟨fun q => ?_, fun q => ?_⟩
    · rw [show (3 : Int32) = nI 3 from rfl, nI_leI (by omega) (by omega)] at q
      exact hK L T fs fm (by omega) hx hO
    rw [show (3 : Int32) = nI 3 from rfl, nI_leI (by omega) (by omega)] at q
    have hd : ¬ (3 * L.length ≤ T.length ∨ false = true) := fun z => z.elim (fun z => by omega) (fun z => by cases z)
    refine ⟨s_in (by omega) (by omega), ?_⟩
    rw [nI_clamp (by omega)]
    refine rr_next hn h32 (by omega) htr (fun y hy => ?_)
    rw [h2 x hx, ← hf] at hy
    have hy' : ll y = nxt f L T := by rw [hy, nxt, hT, show (3 * x + b) / 3 = x by omega, show (3 * x + b) % 3 = b by omega]
    refine rr_ow105 hL h2 ?_
    rw [hy']
    have p4 : (4 : Int32) * nI x + nI b = nI (4 * x + b) := by rw [show (4 : Int32) = nI 4 from rfl, s_mul, nI_add]
    have i4 : vp_in ((4 : Int32) * nI x + nI b) 128 := by rw [p4]; exact s_in (by omega) (by omega)
    have mk : ∀ (z : Nat) (L2 : List Nat) (j : Nat), j < (T ++ [z]).length → (upd fm (4 * x + b) (nI z)) (4 * (j / 3) + j % 3) = nI ((T ++ [z]).getD j 0) := fun z L2 j hj => by
      rw [List.length_append] at hj
      simp at hj
      by_cases e : j = T.length
      · rw [e, getD_new, show 4 * (T.length / 3) + T.length % 3 = 4 * x + b by omega, upd_at]
      · rw [upd_ne (by omega), getD_app (by omega)]
        exact h3 j (by omega)
    by_cases m : nxt f L T ∈ L
    · have il := idx_lt m
      refine ⟨fun _ J hJ => ⟨fun _ => hJ _ _ ⟨i4, ?_⟩, fun z => absurd ((nI_eq (by omega) (by omega)).mp z) (by omega)⟩, fun z => absurd ((nI_eq (b := 32) (by omega) (by omega)).mp z) (by omega)⟩
      rw [p4, nI_clamp (by omega), nI_1]
      exact ih (b + 1) L (T ++ [L.idxOf (nxt f L T)]) fs _ (by omega) (by omega) (by rw [List.length_append]; simp; omega) hx ⟨h1.old hd m, h2, mk _ L, fun i hi => by rw [upd_ne (by omega)]; exact h4 i hi⟩
    · rw [List.idxOf_eq_length m]
      by_cases hl : 32 ≤ L.length
      · refine ⟨fun z => absurd (show nI L.length = (32 : Int32) by rw [show L.length = 32 by omega]; rfl) z, fun _ => hQ (h1.full hd m hl)⟩
      · refine ⟨fun _ J hJ => ⟨fun z => absurd rfl z, fun _ => ⟨s_in (by omega) (by omega), hJ _ _ ⟨i4, ?_⟩⟩⟩, fun z => absurd ((nI_eq (b := 32) (by omega) (by omega)).mp z) (by omega)⟩
        rw [p4, nI_clamp (by omega), nI_clamp (by omega), nI_1, nI_1]
        have g := ih (b + 1) (L ++ [nxt f L T]) (T ++ [L.length]) (vp_updL fs L.length y) (upd fm (4 * x + b) (nI L.length)) (by omega) (by omega) (by rw [List.length_append]; simp; omega) (by rw [List.length_append]; simp; omega) ⟨h1.new hd m hl, fun i hi => ?_, mk _ L, fun i hi => by rw [upd_ne (by omega), getD_app (by omega)]; exact h4 i hi⟩
        · rw [List.length_append] at g
          exact g
        · rw [List.length_append] at hi
          simp at hi
          by_cases e : i = L.length
          · rw [e, pk_uLs, getD_new]; exact hy'
          · rw [pk_uLn e, getD_app (by omega)]
            exact h2 i (by omega)
theorem rr_ow34 {v12 v13 : Int64} {v14 : Int32} {tr : Bool} {K : Int32 → (Nat → Int32) → Prop} {Q : Option AI → Prop} (hn : 3 * n ≤ na) (h32 : n ≤ 32) (htr : v14 = 0 ↔ tr = false) (hf : f = fX n (fun j => ll (fa j)) tr) (hgl : gl = fun S => decide (S &&& (if tr = true then ll v12 else ll v13) ≠ 0))
    (hK : ∀ (L T : List Nat) (fs : Nat → Int64) (fm : Nat → Int32), R = some (L, T) → T.length = 3 * L.length → RO f gl R L T L.length fs fm → K (nI L.length) fm) (hQ : R = none → Q none) :
    ∀ (k x : Nat) (L T : List Nat) (fs : Nat → Int64) (fm : Nat → Int32), 32 - x < k → x ≤ L.length → T.length = 3 * x → RO f gl R L T x fs fm → wpl_X11_oneWay_34 fa na 32 128 (nI n) v12 v13 v14 K Q k (nI x) (nI L.length) fm fs := by
  intro k
  induction k with
  | zero => intro x L T fs fm hk; exact absurd hk (Nat.not_lt_zero _)
  | succ k ih =>
    intro x L T fs fm hk hx hT hO
    have hO' := hO
    obtain ⟨h1, h2, h3, h4⟩ := hO'
    have hL := h1.2.1
    refine ⟨fun q => ?_, fun q => ?_⟩
    · rw [nI_leI (by omega) (by omega)] at q
      have e : x = L.length := by omega
      rw [e] at hO hT
      exact hK L T fs fm (h1.done (Or.inl (by omega))) hT hO
    rw [nI_leI (by omega) (by omega)] at q
    have p4 : (4 : Int32) * nI x + (3 : Int32) = nI (4 * x + 3) := by rw [show (4 : Int32) = nI 4 from rfl, show (3 : Int32) = nI 3 from rfl, s_mul, nI_add]
    have i4 : vp_in ((4 : Int32) * nI x + (3 : Int32)) 128 := by rw [p4]; exact s_in (by omega) (by omega)
    have im : (nI x).toNatClampNeg = x := nI_clamp (by omega)
    have key : ∀ j : Int32, j = bi (gl (L.getD x 0)) → (vp_in (((4 : Int32) * (nI x)) + (3 : Int32)) 128 ∧ (∃ n25x, wpl_X11_oneWay_80 fa na 32 128 (nI x) (nI n) v12 v13 v14 (fun (u62 : Int32) (f63 : Nat → Int64) (f64 : Nat → Int32) => wpl_X11_oneWay_34 fa na 32 128 (nI n) v12 v13 v14 K Q k (nI x + (1 : Int32)) u62 f64 f63) Q n25x (0 : Int32) (nI L.length) fs (upd fm (((4 : Int32) * (nI x)) + (3 : Int32)).toNatClampNeg j))) := fun j hj => by
      refine ⟨i4, ?_⟩
      rw [p4, nI_clamp (by omega)]
      have g := rr_ow80 (x := x) (gl := gl) (R := R) (v31 := v12) (v32 := v13) (v33 := v14) (K := fun (u62 : Int32) (f63 : Nat → Int64) (f64 : Nat → Int32) => wpl_X11_oneWay_34 fa na 32 128 (nI n) v12 v13 v14 K Q k (nI x + (1 : Int32)) u62 f64 f63) (Q := Q) hn h32 htr hf (fun L9 T9 fs9 fm9 z1 z2 z3 => by rw [nI_1]; exact ih (x + 1) L9 T9 fs9 fm9 (by omega) (by omega) z1 z3) hQ 4 0 L T fs (upd fm (4 * x + 3) j) (by omega) (by omega) hT (by omega) ⟨h1, h2, fun j' hj' => by rw [upd_ne (by omega)]; exact h3 j' hj', fun i hi => by
        by_cases e : i = x
        · rw [e, upd_at, hj]
        · rw [upd_ne (by omega)]; exact h4 i (by omega)⟩
      rw [nI_0] at g
      exact ⟨_, g⟩
    refine ⟨s_in (by omega) (by omega), fun J21 hJ21 => ?_⟩
    rw [im] at hJ21
    have lvl : ∀ G : Int64, gl (L.getD x 0) = decide (L.getD x 0 &&& ll G ≠ 0) → J21 G := fun G hG => hJ21 G (fun J23 hJ23 => by
      have eq : (lg_cmp ((fs x) &&& G) (0 : Int64) = 0) ↔ (L.getD x 0 &&& ll G = 0) := by rw [lg_cmp_eq, ll_eq, ll_and, ll_0, h2 x (by omega)]
      refine ⟨fun z => hJ23 0 (key 0 ?_), fun z => hJ23 1 (key 1 ?_)⟩
      · rw [hG, decide_eq_false (fun w => w (eq.mp z))]; rfl
      · rw [hG, show decide (L.getD x 0 &&& ll G ≠ 0) = true from decide_eq_true (fun w => z (eq.mpr w))]; rfl)
    refine ⟨fun z => lvl v13 ?_, fun z => lvl v12 ?_⟩
    · rw [hgl, if_neg (by rw [htr.mp z]; decide)]
    · have etr : tr = true := by
        cases tr with
        | true => rfl
        | false => exact absurd (htr.mpr rfl) z
      rw [hgl, if_pos etr]
/-- the one-way one, the reference's way -/
def OWX (n : Nat) (c : Nat → Nat) (tr : Bool) (first last : Nat) : Option DF := (EX 32 (fX n c tr) (fun _ => false) (if tr = true then last else first)).map (fun p => DFo p.1 p.2 (fun S => decide (S &&& (if tr = true then first else last) ≠ 0)))
theorem rr_oneWay {first last : Int64} {v : Int32} {tr : Bool} {Q : Option AI → Prop} (hn : 3 * n ≤ na) (h32 : n ≤ 32) (htr : v = 0 ↔ tr = false) (h1 : ∀ (D : DF) (nf : Nat) (g : Nat → Int32), OWX n (fun j => ll (fa j)) tr (ll first) (ll last) = some D → HF nf g D → Q (some (nf, g))) (h0 : OWX n (fun j => ll (fa j)) tr (ll first) (ll last) = none → Q none) : wp_X11_oneWay na fa (nI n) first last v Q := by
  have start : ∀ (j6 : Int64), ll j6 = (if tr = true then ll last else ll first) → (vp_in (0 : Int32) ((32 : Int32).toNatClampNeg) ∧ (∃ n7x, wpl_X11_oneWay_34 fa na ((32 : Int32).toNatClampNeg) ((128 : Int32).toNatClampNeg) (nI n) first last v (fun (u68 : Int32) (f69 : Nat → Int32) => wp_X11_part ((128 : Int32).toNatClampNeg) f69 ((4 : Int32) * u68) (fun (n71 : Nat) (f72 : Nat → Int32) => Q (some (n71, f72)))) Q n7x (0 : Int32) (1 : Int32) (fun _ => 0) (vp_updL (fun _ => 0) (0 : Int32).toNatClampNeg j6))) := fun j6 hj6 => by
    refine ⟨s_in (a := 0) (show 0 < 32 by omega) (by omega), ?_⟩
    have g := rr_ow34 (fa := fa) (na := na) (f := fX n (fun j => ll (fa j)) tr) (gl := fun S => decide (S &&& (if tr = true then ll first else ll last) ≠ 0)) (R := EX 32 (fX n (fun j => ll (fa j)) tr) (fun _ => false) (ll j6)) (v12 := first) (v13 := last) (v14 := v) (K := fun (u68 : Int32) (f69 : Nat → Int32) => wp_X11_part 128 f69 ((4 : Int32) * u68) (fun (n71 : Nat) (f72 : Nat → Int32) => Q (some (n71, f72)))) (Q := Q) hn h32 htr rfl rfl (fun L T fs fm hR hT hO => by
      obtain ⟨e1, e2, e3, e4⟩ := hO
      have hL := e1.2.1
      rw [show (4 : Int32) = nI 4 from rfl, s_mul]
      refine rr_part (by omega) (by omega) (fun f' hf' => h1 (DFo L T (fun S => decide (S &&& (if tr = true then ll first else ll last) ≠ 0))) (4 * L.length) f' (by rw [OWX, ← hj6, hR]; rfl) ⟨e1.2.2.1, e1.2.1, fun j hj => ?_, rfl, fun i s hi hs => ?_, fun i hi => ?_⟩)
      · have hj' : j < 3 * L.length := hj
        exact (e1.2.2.2.2 j (by omega)).1
      · have hi' : i < L.length := hi
        rw [hf' _ (by omega)]
        have := e3 (3 * i + s) (by omega)
        rw [show (3 * i + s) / 3 = i by omega, show (3 * i + s) % 3 = s by omega] at this
        exact this
      · have hi' : i < L.length := hi
        rw [hf' _ (by omega)]
        exact e4 i hi') (fun hR => h0 (by rw [OWX, ← hj6, hR]; rfl)) 33 0 [ll j6] [] (vp_updL (fun _ => 0) 0 j6) (fun _ => 0) (by omega) (by omega) rfl ⟨EI.start _ (by omega), fun i hi => ?_, fun j hj => absurd hj (Nat.not_lt_zero _), fun i hi => absurd hi (Nat.not_lt_zero _)⟩
    · rw [nI_0] at g
      exact ⟨_, g⟩
    · simp at hi
      subst hi
      rw [pk_uLs]
      rfl
  refine ⟨by decide, by decide, fun J hJ => ⟨fun z => hJ _ (start first ?_), fun z => hJ _ (start last ?_)⟩⟩
  · rw [if_neg (by rw [htr.mp z]; decide)]
  · have etr : tr = true := by
      cases tr with
      | true => rfl
      | false => exact absurd (htr.mpr rfl) z
    rw [if_pos etr]
end SRI
