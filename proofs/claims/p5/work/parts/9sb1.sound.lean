section SIMQ
variable {A B : AM} {D D0 D1 D2 D' : DF} {n : Nat}
theorem land_ne {x y : Nat} : x &&& y ≠ 0 ↔ ∃ j, x.testBit j = true ∧ y.testBit j = true := by
  refine ⟨fun h => Classical.byContradiction (fun no => h (s_ext (fun j => ?_))), fun ⟨j, h1, h2⟩ e => ?_⟩
  · rw [Nat.testBit_and, Nat.zero_testBit]
    cases e1 : x.testBit j with
    | false => rfl
    | true =>
      cases e2 : y.testBit j with
      | false => rfl
      | true => exact absurd ⟨j, e1, e2⟩ no
  · have := congrArg (fun z => z.testBit j) e
    simp only [Nat.testBit_and, Nat.zero_testBit] at this
    rw [h1, h2] at this
    cases this
/-! ways of a machine -/
theorem RA9_bit {X s k : Nat} : (RA9 A X s).testBit k = true ↔ ∃ i, i < A.1 ∧ X.testBit i = true ∧ (nn (A.2.2.2 (3 * i + s))).testBit k = true := by
  rw [RA9, RC, RCg_bit, List.any_eq_true]
  constructor
  · rintro ⟨i, hi, h⟩
    rw [Bool.and_eq_true] at h
    exact ⟨i, List.mem_range.mp hi, h⟩
  · rintro ⟨i, hi, h1, h2⟩
    exact ⟨i, List.mem_range.mpr hi, by rw [Bool.and_eq_true]; exact ⟨h1, h2⟩⟩
def EDG (A : AM) (i s k : Nat) : Prop := i < A.1 ∧ (nn (A.2.2.2 (3 * i + s))).testBit k = true
def PTH (E : Nat → Nat → Nat → Prop) : List Nat → Nat → Nat → Prop
  | [], i, j => i = j
  | s :: u, i, j => ∃ k, E i s k ∧ PTH E u k j
variable {E E' : Nat → Nat → Nat → Prop}
theorem PTH.snoc {s : Nat} : ∀ (u : List Nat) (i j : Nat), PTH E (u ++ [s]) i j ↔ ∃ k, PTH E u i k ∧ E k s j := by
  intro u
  induction u with
  | nil => intro i j; exact ⟨fun ⟨k, h1, h2⟩ => ⟨i, rfl, by cases h2; exact h1⟩, fun ⟨k, h1, h2⟩ => ⟨j, by cases h1; exact h2, rfl⟩⟩
  | cons x u ih =>
    intro i j
    refine ⟨fun ⟨k, h1, h2⟩ => ?_, fun ⟨k, ⟨k', h1, h2⟩, h3⟩ => ⟨k', h1, (ih k' j).mpr ⟨k, h2, h3⟩⟩⟩
    obtain ⟨k', h3, h4⟩ := (ih k j).mp h2
    exact ⟨k', ⟨k, h1, h3⟩, h4⟩
theorem PTH.rev (h : ∀ i s k, s < 3 → (E' i s k ↔ E k s i)) : ∀ (u : List Nat) (i j : Nat), SG u → (PTH E' u i j ↔ PTH E u.reverse j i) := by
  intro u
  induction u with
  | nil => intro i j _; exact ⟨fun e => Eq.symm e, fun e => Eq.symm e⟩
  | cons s u ih =>
    intro i j hu
    rw [List.reverse_cons, PTH.snoc]
    exact ⟨fun ⟨k, h1, h2⟩ => ⟨k, (ih k j hu.tl).mp h2, (h i s k hu.hd).mp h1⟩, fun ⟨k, h1, h2⟩ => ⟨k, (h i s k hu.hd).mpr h2, (ih k j hu.tl).mpr h1⟩⟩
theorem ARn_bit : ∀ (u : List Nat) (X j : Nat), (DRn (RA9 A) X u).testBit j = true ↔ ∃ i, X.testBit i = true ∧ PTH (EDG A) u i j := by
  intro u
  induction u with
  | nil => intro X j; exact ⟨fun h => ⟨j, h, rfl⟩, fun ⟨i, h, e⟩ => by cases e; exact h⟩
  | cons s u ih =>
    intro X j
    rw [DRn, ih]
    constructor
    · rintro ⟨k, h1, h2⟩
      obtain ⟨i, hi, h3, h4⟩ := RA9_bit.mp h1
      exact ⟨i, h3, k, ⟨hi, h4⟩, h2⟩
    · rintro ⟨i, h3, k, ⟨hi, h4⟩, h2⟩
      exact ⟨k, RA9_bit.mpr ⟨i, hi, h3, h4⟩, h2⟩
/-- a machine takes a word -/
def LAm (A : AM) (u : List Nat) : Prop := ∃ i j, (nn A.2.1).testBit i = true ∧ (nn A.2.2.1).testBit j = true ∧ PTH (EDG A) u i j
theorem LA_acc {u : List Nat} : DRn (RA9 A) (nn A.2.1) u &&& nn A.2.2.1 ≠ 0 ↔ LAm A u := by
  rw [land_ne]
  constructor
  · rintro ⟨j, h1, h2⟩
    obtain ⟨i, h3, h4⟩ := (ARn_bit u _ j).mp h1
    exact ⟨i, j, h3, h2, h4⟩
  · rintro ⟨i, j, h3, h2, h4⟩
    exact ⟨j, (ARn_bit u _ j).mpr ⟨i, h3, h4⟩, h2⟩
/-- arrows lead to the machine's own states alone -/
def CBd (A : AM) : Prop := A.1 ≤ 32 ∧ ∀ j, j < 3 * A.1 → nn (A.2.2.2 j) < 2 ^ A.1
theorem aT_cell {i s k : Nat} (h32 : A.1 ≤ 32) (hs : s < 3) (hi : i < A.1) : (nn ((aT A).2.2.2 (3 * i + s))).testBit k = (decide (k < A.1) && (nn (A.2.2.2 (3 * k + s))).testBit i) := by
  show (nn (if 3 * i + s < 3 * A.1 then SRg A.2.2.2 ((3 * i + s) / 3) ((3 * i + s) % 3) A.1 else 0)).testBit k = _
  rw [if_pos (by omega), show (3 * i + s) / 3 = i by omega, show (3 * i + s) % 3 = s by omega, SRg_bit A.1 h32]
theorem EDG_aT (h : CBd A) {i s k : Nat} (hs : s < 3) : EDG (aT A) i s k ↔ EDG A k s i := by
  constructor
  · rintro ⟨hi, h1⟩
    have hi' : i < A.1 := hi
    rw [aT_cell h.1 hs hi', Bool.and_eq_true, decide_eq_true_iff] at h1
    exact h1
  · rintro ⟨hk, h1⟩
    have hi : i < A.1 := Classical.byContradiction (fun no => by
      rw [s_big (h.2 (3 * k + s) (by omega)) (by omega)] at h1
      cases h1)
    refine ⟨hi, ?_⟩
    rw [aT_cell h.1 hs hi, decide_eq_true hk, Bool.true_and]
    exact h1
theorem LA_rev (h : CBd A) {u : List Nat} (hu : SG u) : LAm (aT A) u ↔ LAm A u.reverse := by
  have key := fun i j => PTH.rev (E' := EDG (aT A)) (E := EDG A) (fun i s k hs => EDG_aT h hs) u i j hu
  exact ⟨fun ⟨i, j, h1, h2, h3⟩ => ⟨j, i, h2, h1, (key i j).mp h3⟩, fun ⟨i, j, h1, h2, h3⟩ => ⟨j, i, h2, h1, (key j i).mpr h3⟩⟩
/-! what an exploring makes -/
variable {f : Nat → Nat → Nat} {x0 : Nat} {L T : List Nat} {gl : Nat → Bool}
theorem EXD (h : EX 32 f (fun _ => false) x0 = some (L, T)) : L.length ≤ 32 ∧ 1 ≤ L.length ∧ L.getD 0 0 = x0 ∧ ∀ i s, i < L.length → s < 3 → T.getD (3 * i + s) 0 < L.length ∧ L.getD (T.getD (3 * i + s) 0) 0 = f (L.getD i 0) s := by
  obtain ⟨⟨h1, h2, h3⟩, h4, h5⟩ := EX.inv (by decide) h
  have h6 : 3 * L.length = T.length := h5.elim id (fun w => by cases w)
  refine ⟨h1, h2, h4, fun i s hi hs => ?_⟩
  have := h3 (3 * i + s) (by omega)
  rw [show (3 * i + s) / 3 = i by omega, show (3 * i + s) % 3 = s by omega] at this
  exact this
theorem EXD_tb (h : EX 32 f (fun _ => false) x0 = some (L, T)) : TBl (DFo L T gl) ∧ (DFo L T gl).1 ≤ 32 := by
  obtain ⟨h1, h2, h3, h4⟩ := EXD h
  refine ⟨⟨h2, fun j hj => ?_⟩, h1⟩
  have hj' : j < 3 * L.length := hj
  have := (h4 (j / 3) (j % 3) (by omega) (Nat.mod_lt _ (by decide))).1
  rw [show 3 * (j / 3) + j % 3 = j by omega] at this
  exact this
theorem EXD_run (h : EX 32 f (fun _ => false) x0 = some (L, T)) : ∀ (u : List Nat) (i : Nat), SG u → i < L.length → L.getD (DRn (DW (DFo L T gl)) i u) 0 = DRn f (L.getD i 0) u := by
  obtain ⟨h1, h2, h3, h4⟩ := EXD h
  intro u
  induction u with
  | nil => intro i _ _; rfl
  | cons s u ih =>
    intro i hu hi
    have := h4 i s hi hu.hd
    show L.getD (DRn (DW (DFo L T gl)) (T.getD (3 * i + s) 0) u) 0 = DRn f (f (L.getD i 0) s) u
    rw [ih _ hu.tl this.1, this.2]
/-- numbered as met -/
def CAN (D : DF) : Prop := ∃ L T : List Nat, EX 32 (DW D) (fun _ => false) 0 = some (L, T) ∧ L.length = D.1 ∧ (∀ i, i < D.1 → L.getD i 0 = i) ∧ D.2.1 = fun j => T.getD j 0
theorem EXD_can (h : EX 32 f (fun _ => false) x0 = some (L, T)) : CAN (DFo L T gl) := by
  obtain ⟨h1, h2, h3, h4⟩ := EXD h
  have nd := EX_nd h
  rcases EX_lock (R := fun a b => b < L.length ∧ a = L.getD b 0) (f1 := f) (f2 := DW (DFo L T gl)) (lim := 32) (x1 := x0) (x2 := 0) (fun a b a' b' ⟨hb, ea⟩ ⟨hb', ea'⟩ => ⟨fun e => nd b b' hb hb' (by rw [← ea, ← ea', e]), fun e => by rw [ea, ea', e]⟩) (fun a b s hs ⟨hb, ea⟩ => by
      have := h4 b s hb hs
      rw [ea]
      exact ⟨this.1, this.2.symm⟩) ⟨h2, h3.symm⟩ with ⟨e, _⟩ | ⟨L1, L2, T', e1, e2, hp⟩
  · rw [h] at e; cases e
  · rw [h] at e1
    cases e1
    refine ⟨L2, T, e2, hp.1.symm, fun i hi => ?_, rfl⟩
    have hi' : i < L.length := hi
    obtain ⟨y1, y2⟩ := hp.2 i hi'
    exact (nd i _ hi' y1 y2).symm
theorem CAN.met (h : CAN D) {i : Nat} (hi : i < D.1) : ∃ v, SG v ∧ DRn (DW D) 0 v = i := by
  obtain ⟨L, T, h1, h2, h3, _⟩ := h
  obtain ⟨v, hv, e⟩ := EXs_met h1 i (by omega)
  exact ⟨v, hv, e.trans (h3 i hi)⟩
theorem OWM_ex (h : OWM A = some D) : ∃ L T, EX 32 (RA9 A) (fun _ => false) (nn A.2.1) = some (L, T) ∧ D = DFo L T (fun S => decide (S &&& nn A.2.2.1 ≠ 0)) := by
  obtain ⟨⟨L, T⟩, h1, h2⟩ := Option.map_eq_some_iff.mp (show (EX 32 (RA9 A) (fun _ => false) (nn A.2.1)).map _ = some D from h)
  exact ⟨L, T, h1, h2.symm⟩
theorem OWM_LS (h : OWM A = some D) : TBl D ∧ D.1 ≤ 32 ∧ CAN D ∧ ∀ u, SG u → (LSs D 0 u ↔ LAm A u) := by
  obtain ⟨L, T, h1, rfl⟩ := OWM_ex h
  obtain ⟨e1, e2, e3, e4⟩ := EXD h1
  refine ⟨(EXD_tb h1).1, (EXD_tb h1).2, EXD_can h1, fun u hu => ?_⟩
  rw [← LA_acc, ← e3, ← EXD_run (gl := fun S => decide (S &&& nn A.2.2.1 ≠ 0)) h1 u 0 hu (by omega)]
  unfold LSs
  exact decide_eq_true_iff
theorem LSD_ex (h : LSD D0 = some D) : ∃ L T, EX 32 (fun l s => PL D0 (D0.2.1 (3 * l + s))) (fun _ => false) (PL D0 0) = some (L, T) ∧ D = DFo L T D0.2.2 := by
  obtain ⟨⟨L, T⟩, h1, h2⟩ := Option.map_eq_some_iff.mp (show (EX 32 (fun l s => PL D0 (D0.2.1 (3 * l + s))) (fun _ => false) (PL D0 0)).map _ = some D from h)
  exact ⟨L, T, h1, h2.symm⟩
theorem LS_PLid (h : TBl D) {x : Nat} (hx : x < D.1) {u : List Nat} (hu : SG u) : LSs D (PL D x) u ↔ LSs D x u := PL_LS h u _ _ hu (PL_lt hx) hx (PL_id x)
theorem PL_run (h : TBl D0) : ∀ (u : List Nat) (x : Nat), SG u → x < D0.1 → (D0.2.2 (DRn (fun l s => PL D0 (D0.2.1 (3 * l + s))) x u) = true ↔ LSs D0 x u) := by
  intro u
  induction u with
  | nil => intro x _ _; exact Iff.rfl
  | cons s u ih =>
    intro x hu hx
    have hd := h.dw hx hu.hd
    exact (ih (PL D0 (DW D0 x s)) hu.tl (PL_lt hd)).trans (LS_PLid h hd hu.tl)
/-- each two states are told apart by a word -/
def RED (D : DF) : Prop := ∀ i j, i < D.1 → j < D.1 → (∀ u, SG u → (LSs D i u ↔ LSs D j u)) → i = j
theorem LSD_LS (h0 : TBl D0) (h : LSD D0 = some D) : TBl D ∧ D.1 ≤ 32 ∧ CAN D ∧ RED D ∧ ∀ u, SG u → (LSs D 0 u ↔ LSs D0 0 u) := by
  obtain ⟨L, T, h1, rfl⟩ := LSD_ex h
  obtain ⟨e1, e2, e3, e4⟩ := EXD h1
  have all := EX_all (P := fun y => y < D0.1 ∧ PL D0 y = y) (fun x s hs ⟨hx, _⟩ => ⟨PL_lt (h0.dw hx hs), PL_id _⟩) ⟨PL_lt h0.1, PL_id 0⟩ h1
  have ls : ∀ u i, SG u → i < L.length → (LSs (DFo L T D0.2.2) i u ↔ LSs D0 (L.getD i 0) u) := fun u i hu hi => by
    rw [← PL_run h0 u _ hu (all i hi).1, ← EXD_run (gl := D0.2.2) h1 u i hu hi]
    exact Iff.rfl
  refine ⟨(EXD_tb h1).1, (EXD_tb h1).2, EXD_can h1, fun i j hi hj hl => ?_, fun u hu => ?_⟩
  · have hi' : i < L.length := hi
    have hj' : j < L.length := hj
    refine EX_nd h1 i j hi' hj' ?_
    rw [← (all i hi').2, ← (all j hj').2]
    exact LS_PL h0 (all i hi').1 (all j hj').1 (fun u hu => by rw [← ls u i hu hi', ← ls u j hu hj']; exact hl u hu)
  · rw [ls u 0 hu (by omega), e3]
    exact LS_PLid h0 h0.1 hu
theorem LSM_ex (h : LSM A = some D) : ∃ D0, OWM A = some D0 ∧ LSD D0 = some D := Option.bind_eq_some_iff.mp h
theorem LSM_LS (h : LSM A = some D) : TBl D ∧ D.1 ≤ 32 ∧ CAN D ∧ RED D ∧ ∀ u, SG u → (LSs D 0 u ↔ LAm A u) := by
  obtain ⟨D0, h1, h2⟩ := LSM_ex h
  obtain ⟨o1, o2, o3, o4⟩ := OWM_LS h1
  obtain ⟨l1, l2, l3, l4, l5⟩ := LSD_LS o1 h2
  exact ⟨l1, l2, l3, l4, fun u hu => (l5 u hu).trans (o4 u hu)⟩
/-- a one-way machine turned round, one sign on -/
theorem RA9_aTaP (h : TBl D1) (h32 : D1.1 ≤ 32) {X s k : Nat} (hs : s < 3) : (RA9 (aT (aP D1)) X s).testBit k = true ↔ k < D1.1 ∧ X.testBit (DW D1 k s) = true := by
  rw [RA9_bit]
  have cell : ∀ i, i < D1.1 → ((nn ((aT (aP D1)).2.2.2 (3 * i + s))).testBit k = true ↔ k < D1.1 ∧ DW D1 k s = i) := fun i hi => by
    rw [aT_cell (A := aP D1) h32 hs hi, Bool.and_eq_true, decide_eq_true_iff]
    refine and_congr_right (fun hk => ?_)
    have hk' : k < D1.1 := hk
    have hd := h.dw hk' hs
    show (nn (if 3 * k + s < 3 * D1.1 then (1 : Int32) <<< (nI (D1.2.1 (3 * k + s)) &&& 31) else 0)).testBit i = true ↔ _
    rw [if_pos (by omega), nn_two _ (show D1.2.1 (3 * k + s) < 32 from Nat.lt_of_lt_of_le hd h32), Nat.testBit_two_pow, decide_eq_true_iff]
    exact Iff.rfl
  constructor
  · rintro ⟨i, hi, h1, h2⟩
    obtain ⟨hk, e⟩ := (cell i hi).mp h2
    exact ⟨hk, by rw [e]; exact h1⟩
  · rintro ⟨hk, h1⟩
    exact ⟨_, h.dw hk hs, h1, (cell _ (h.dw hk hs)).mpr ⟨hk, rfl⟩⟩
/-- by turning round twice: the least one -/
theorem TWD_same (hA : CBd A) (hL : LSM A = some D) (hT : TWD A = some D') : dSm D' D := by
  obtain ⟨D0, h1, h2⟩ := LSM_ex hL
  obtain ⟨D1, h3, h4⟩ := Option.bind_eq_some_iff.mp (show (OWM (aT A)).bind (fun D => OWM (aT (aP D))) = some D' from hT)
  obtain ⟨o1, o2, o3, o4⟩ := OWM_LS h1
  obtain ⟨p1, p2, p3, p4⟩ := OWM_LS h3
  obtain ⟨L1, T1, e1, rfl⟩ := LSD_ex h2
  obtain ⟨L2, T2, e2, rfl⟩ := OWM_ex h4
  let R : Nat → Nat → Prop := fun a S => a < D0.1 ∧ PL D0 a = a ∧ S < 2 ^ D1.1 ∧ ∀ u, SG u → (LSs D0 a u ↔ S.testBit (DRn (DW D1) 0 u.reverse) = true)
  have run : ∀ u, SG u → DRn (DW D1) 0 u < D1.1 := fun u hu => p1.run u 0 hu p1.1
  have R1 : ∀ a b a' b', R a b → R a' b' → (a = a' ↔ b = b') := fun a b a' b' ⟨r1, r2, r3, r4⟩ ⟨q1, q2, q3, q4⟩ => by
    refine ⟨fun e => s_ext (fun j => ?_), fun e => ?_⟩
    · by_cases hj : j < D1.1
      · obtain ⟨v, hv, ev⟩ := p3.met hj
        have x1 := r4 v.reverse hv.rev
        have x2 := q4 v.reverse hv.rev
        rw [List.reverse_reverse, ev] at x1 x2
        rw [Bool.eq_iff_iff, ← x1, ← x2, e]
      · rw [s_big r3 (by omega), s_big q3 (by omega)]
    · rw [← r2, ← q2]
      exact LS_PL o1 r1 q1 (fun u hu => by rw [r4 u hu, q4 u hu, e])
  have Rf : ∀ a b s, s < 3 → R a b → R (PL D0 (D0.2.1 (3 * a + s))) (RA9 (aT (aP D1)) b s) := fun a b s hs ⟨r1, r2, r3, r4⟩ => by
    have hd := o1.dw r1 hs
    refine ⟨PL_lt hd, PL_id _, s_lt2 (fun i hi => ?_), fun u hu => ?_⟩
    · cases e : (RA9 (aT (aP D1)) b s).testBit i with
      | false => rfl
      | true => exact absurd ((RA9_aTaP p1 p2 hs).mp e).1 (by omega)
    · rw [RA9_aTaP p1 p2 hs]
      have x := r4 (s :: u) (fun z hz => by
        rcases List.mem_cons.mp hz with e | e
        · omega
        · exact hu z e)
      rw [List.reverse_cons, DRn_app] at x
      exact (LS_PLid o1 hd hu).trans (x.trans ⟨fun y => ⟨run _ hu.rev, y⟩, fun y => y.2⟩)
  have R0 : R (PL D0 0) (nn (aT (aP D1)).2.1) := by
    have bit : ∀ j, (nn (aT (aP D1)).2.1).testBit j = (decide (j < D1.1) && D1.2.2 j) := fun j => gmk_bit D1.1 p2 j
    refine ⟨PL_lt o1.1, PL_id 0, s_lt2 (fun i hi => by rw [bit, decide_eq_false (by omega)]; rfl), fun u hu => ?_⟩
    rw [LS_PLid o1 o1.1 hu, o4 u hu, bit, decide_eq_true (run _ hu.rev), Bool.true_and]
    show _ ↔ LSs D1 0 u.reverse
    rw [p4 _ hu.rev, LA_rev hA hu.rev, List.reverse_reverse]
  rcases EX_lock (lim := 32) R1 Rf R0 with ⟨e, _⟩ | ⟨L1', L2', T', e1', e2', hp⟩
  · rw [e1] at e; cases e
  · rw [e1] at e1'
    cases e1'
    rw [e2] at e2'
    cases e2'
    refine ⟨hp.1.symm, fun i hi => ?_, fun j hj => rfl⟩
    have hi' : i < L1.length := by rw [hp.1]; exact hi
    obtain ⟨r1, r2, r3, r4⟩ := hp.2 i hi'
    have x := r4 [] (fun _ hs => nomatch hs)
    show decide (L2.getD i 0 &&& nn 1 ≠ 0) = D0.2.2 (L1.getD i 0)
    rw [Bool.eq_iff_iff, decide_eq_true_iff, show nn 1 = 1 from by decide]
    refine Iff.trans ?_ x.symm
    show ¬ (L2.getD i 0 &&& 1 = 0) ↔ (L2.getD i 0).testBit 0 = true
    rw [bit0]
    simp
end SIMQ
