/-! part 9r.start1 -/
section
section STP
variable {args : Array Value} {s : State}
theorem sr_one {own tx : String} {k : Nat} (h1 : (Cond.stringRef own k tx).before args s = true) (h2 : (Cond.exactly (.string own k) "java/lang/String").before args s = true) : ∃ sa : Nat, vk_R own k tx sa s := by
  obtain ⟨a, c, cA, kA, q1, -⟩ := Cond.exactly_spec (args := args) (first := s) (o := none) (s := s) (idx := []) (t := .string own k) (cls := "java/lang/String") h2
  exact ⟨a, vk_R.of h1 q1⟩
theorem SA_no : ∀ a : Nat, a < s.heap.size → ¬ SA s.heap.size a := fun a h z => absurd h (Nat.not_lt.mpr z)
theorem tx_one {k n : Nat} {tx : String} {bs : List Int32} (hn : n ≤ 1) (hf : FT (fun j => bs.getD j 0)) (h1 : (Cond.stringRef "LeastreaderModel" k tx).before args s = true) (h2 : (Cond.exactly (.string "LeastreaderModel" k) "java/lang/String").before args s = true) (h3 : (Cond.eq (.field (.string "LeastreaderModel" k) "java/lang/String" "coder" "B") (.int 0)).before args s = true)
    (h4 : (Cond.arrayOf (.field (.string "LeastreaderModel" k) "java/lang/String" "value" "[B") .byte).before args s = true) (h5 : (Cond.eq (.length (.field (.string "LeastreaderModel" k) "java/lang/String" "value" "[B")) (.int (Int32.ofNat n))).before args s = true) (h6 : ∀ j : Nat, j < n → (Cond.eq (.elem (.field (.string "LeastreaderModel" k) "java/lang/String" "value" "[B") (.int (Int32.ofNat j))) (.int (bs.getD j 0))).before args s = true) :
    ∃ sa b w : Nat, w ≤ 1 ∧ vk_R "LeastreaderModel" k tx sa s ∧ SO sa b w (SA s.heap.size) s s.heap := by
  obtain ⟨adK, adV, hS, hev⟩ := vk_Sof (args := args) (s := s) (N := 1) (tm := fun _ => .string "LeastreaderModel" k) (len := [n]) (byt := [bs]) (A := SA s.heap.size)
    (fun i hi => by rw [show i = 0 by omega]; show n < 2 ^ 31; omega) (fun i _ => h2) (fun i _ => h3) (fun i _ => h4) (fun i hi => by rw [show i = 0 by omega]; exact h5) (fun i hi j hj => by rw [show i = 0 by omega] at hj ⊢; exact h6 j hj) (fun i j hi hj hne => absurd (show i = j by omega) hne) SA_no
  have h := hS.1 0 (by decide)
  exact ⟨adK 0, adV 0, n, hn, vk_R.of h1 (hev 0 (by decide)), h.1, h.2.1, h.2.2.1, _, hf, h.2.2.2⟩
theorem arr_one {ty : FieldType} (h : (Cond.arrayClass ty).before args s = true) (hno : ∀ C, ty ≠ .object C) : ∃ cA : ClassId, ArrOfT s cA ty ∧ va_RA s cA ty := by
  obtain ⟨cA, kA, comp, h1, h2, h3⟩ := Cond.arrayClass_spec h
  refine ⟨cA, fun n z => ⟨fun k h => (by cases h), kA, h2, comp, h3⟩, ?_⟩
  cases ty with
  | object C => exact absurd rfl (hno C)
  | _ => exact h1
set_option maxHeartbeats 4000000 in
set_option maxRecDepth 100000 in
theorem LG_start (hts : ∀ w ∈ lw_tbl, w.before args s = true) (hgv : (Cond.and given_1 narrow_1).before args s = true) : ∃ (D : va_G) (cI cL cM cB : ClassId), LG D cI cL cM cB s ∧ CK D cI cL cM s ∧ va_AO "Leastreader$Machine" s := by
  have ht : ∀ w ∈ W0, w.before args s = true := W0_of hts
  have hs := flat_of_before _ hgv
  have hO : va_AO "Leastreader$Machine" s := va_AO.of (hts _ (tb_1 (List.mem_of_getElem? (i := 40) rfl)))
  have hKc : ∀ k : Nat, ∃ r : ClassId × (Nat → Nat), ∀ q : vw_C, CL[k]? = some q → u_Kn s q.1 q.2.1 q.2.2 r.1 r.2 := by
    intro k
    match k with
    | 0 =>
      obtain ⟨a, b, h⟩ := u_known (args := args) ht in_0 (ht _ q_130)
      exact ⟨(a, b), fun q hq => by cases hq; exact h⟩
    | 1 =>
      obtain ⟨a, b, h⟩ := u_known (args := args) ht in_1 (ht _ q_156)
      exact ⟨(a, b), fun q hq => by cases hq; exact h⟩
    | 2 =>
      obtain ⟨a, b, h⟩ := u_known (args := args) ht in_2 (ht _ q_86)
      exact ⟨(a, b), fun q hq => by cases hq; exact h⟩
    | 3 =>
      obtain ⟨a, b, h⟩ := u_known (args := args) ht in_3 (ht _ q_140)
      exact ⟨(a, b), fun q hq => by cases hq; exact h⟩
    | 4 =>
      obtain ⟨a, b, h⟩ := u_known (args := args) ht in_4 (ht _ q_208)
      exact ⟨(a, b), fun q hq => by cases hq; exact h⟩
    | 5 =>
      obtain ⟨a, b, h⟩ := u_known (args := args) ht in_5 (ht _ q_176)
      exact ⟨(a, b), fun q hq => by cases hq; exact h⟩
    | 6 =>
      obtain ⟨a, b, h⟩ := u_known (args := args) ht in_6 (ht _ q_146)
      exact ⟨(a, b), fun q hq => by cases hq; exact h⟩
    | 7 =>
      obtain ⟨a, b, h⟩ := u_known (args := args) ht in_7 (ht _ q_250)
      exact ⟨(a, b), fun q hq => by cases hq; exact h⟩
    | 8 =>
      obtain ⟨a, b, h⟩ := u_known (args := args) ht in_8 (ht _ q_77)
      exact ⟨(a, b), fun q hq => by cases hq; exact h⟩
    | 9 =>
      obtain ⟨a, b, h⟩ := u_known (args := args) ht in_9 (ht _ q_576)
      exact ⟨(a, b), fun q hq => by cases hq; exact h⟩
    | 10 =>
      obtain ⟨a, b, h⟩ := u_known (args := args) ht in_10 (ht _ q_1308)
      exact ⟨(a, b), fun q hq => by cases hq; exact h⟩
    | 11 =>
      obtain ⟨a, b, h⟩ := u_known (args := args) ht in_11 (ht _ q_893)
      exact ⟨(a, b), fun q hq => by cases hq; exact h⟩
    | 12 =>
      obtain ⟨a, b, h⟩ := u_known (args := args) ht in_12 (ht _ q_1058)
      exact ⟨(a, b), fun q hq => by cases hq; exact h⟩
    | k + 13 => exact ⟨(0, fun _ => 0), fun q hq => by simp [CL] at hq⟩
  obtain ⟨r, hr⟩ := Classical.axiomOfChoice hKc
  obtain ⟨cI, i1, i2⟩ := arr_one (ht _ q_128) (fun C h => by cases h)
  obtain ⟨cL, l1, l2⟩ := arr_one (ht _ q_1420) (fun C h => by cases h)
  obtain ⟨cB, b1, b2⟩ := arr_one (ht _ q_385) (fun C h => by cases h)
  obtain ⟨comp, cM, kM, m1, m2, m3, m4, m5⟩ := Cond.arrayOver_spec (va_AO.use (A := args) hO)
  have hCK : CK (fun k => (r k).1, fun k => (r k).2) cI cL cM s := ⟨fun k q hq => hr k q hq, fun k q hq => by
    match k, hq with
    | 0, hq => cases hq; exact ⟨i1, i2⟩
    | 1, hq => cases hq; exact ⟨l1, l2⟩
    | 2, hq => cases hq; exact ⟨fun n z => ⟨fun k h => (by cases h), kM, m3, comp, m4⟩, kM, comp, m3, m4, m1, m5⟩
    | k + 3, hq => simp at hq⟩
  have hJK : JK (fun k => (r k).1, fun k => (r k).2) cB s := ⟨fun k q hq => hr k q hq, fun k q hq => by
    match k, hq with
    | 0, hq => cases hq; exact ⟨b1, b2⟩
    | k + 1, hq => simp at hq⟩
  have hD1 : ∃ (a : Nat) (f : Nat → Int32), va_Z "java/lang/Integer" "DigitOnes" "[B" (.ref a) (SA s.heap.size) s s.heap ∧ va_T .byte a 100 (fun j => .int (f j)) (SA s.heap.size) s s.heap := by
    have hm : ∀ j : Nat, j < 100 → Cond.eq (.elem (.static "java/lang/Integer" "DigitOnes" "[B") (.int (Int32.ofNat j))) (.int (([48, 49, 50, 51, 52, 53, 54, 55, 56, 57, 48, 49, 50, 51, 52, 53, 54, 55, 56, 57, 48, 49, 50, 51, 52, 53, 54, 55, 56, 57, 48, 49, 50, 51, 52, 53, 54, 55, 56, 57, 48, 49, 50, 51, 52, 53, 54, 55, 56, 57, 48, 49, 50, 51, 52, 53, 54, 55, 56, 57, 48, 49, 50, 51, 52, 53, 54, 55, 56, 57, 48, 49, 50, 51, 52, 53, 54, 55, 56, 57, 48, 49, 50, 51, 52, 53, 54, 55, 56, 57, 48, 49, 50, 51, 52, 53, 54, 55, 56, 57] : List Int32).getD j 0)) ∈ flatC (Cond.and given_1 narrow_1) := fun j hj => by
      have hl : ((flatC (Cond.and given_1 narrow_1)).drop 14).take 100 = (List.range 100).map (fun j => Cond.eq (.elem (.static "java/lang/Integer" "DigitOnes" "[B") (.int (Int32.ofNat j))) (.int (([48, 49, 50, 51, 52, 53, 54, 55, 56, 57, 48, 49, 50, 51, 52, 53, 54, 55, 56, 57, 48, 49, 50, 51, 52, 53, 54, 55, 56, 57, 48, 49, 50, 51, 52, 53, 54, 55, 56, 57, 48, 49, 50, 51, 52, 53, 54, 55, 56, 57, 48, 49, 50, 51, 52, 53, 54, 55, 56, 57, 48, 49, 50, 51, 52, 53, 54, 55, 56, 57, 48, 49, 50, 51, 52, 53, 54, 55, 56, 57, 48, 49, 50, 51, 52, 53, 54, 55, 56, 57, 48, 49, 50, 51, 52, 53, 54, 55, 56, 57] : List Int32).getD j 0))) := by rfl
      exact List.mem_of_mem_drop (List.mem_of_mem_take (by rw [hl]; exact List.mem_map.mpr ⟨j, List.mem_range.mpr hj, rfl⟩))
    obtain ⟨t, h1, h2⟩ := va_Tof (args := args) (s := s) (tm := .static "java/lang/Integer" "DigitOnes" "[B") (ty := .byte) (N := 100) (f := fun j => .int (([48, 49, 50, 51, 52, 53, 54, 55, 56, 57, 48, 49, 50, 51, 52, 53, 54, 55, 56, 57, 48, 49, 50, 51, 52, 53, 54, 55, 56, 57, 48, 49, 50, 51, 52, 53, 54, 55, 56, 57, 48, 49, 50, 51, 52, 53, 54, 55, 56, 57, 48, 49, 50, 51, 52, 53, 54, 55, 56, 57, 48, 49, 50, 51, 52, 53, 54, 55, 56, 57, 48, 49, 50, 51, 52, 53, 54, 55, 56, 57, 48, 49, 50, 51, 52, 53, 54, 55, 56, 57, 48, 49, 50, 51, 52, 53, 54, 55, 56, 57] : List Int32).getD j 0)) (A := SA s.heap.size) (by decide) (hs _ (by decide +kernel)) (va_eqt (hs (Cond.eq (.length (.static "java/lang/Integer" "DigitOnes" "[B")) (.int (100 : Int32))) (by decide +kernel))) (fun j hj => va_eqt (hs _ (hm j hj))) SA_no
    exact ⟨t, _, va_Zof (hts _ (tb_5 (List.mem_of_getElem? (i := 27) rfl))) (ht _ q_63) h1 SA_no, h2⟩
  have hD2 : ∃ (a : Nat) (f : Nat → Int32), va_Z "java/lang/Integer" "DigitTens" "[B" (.ref a) (SA s.heap.size) s s.heap ∧ va_T .byte a 100 (fun j => .int (f j)) (SA s.heap.size) s s.heap := by
    have hm : ∀ j : Nat, j < 100 → Cond.eq (.elem (.static "java/lang/Integer" "DigitTens" "[B") (.int (Int32.ofNat j))) (.int (([48, 48, 48, 48, 48, 48, 48, 48, 48, 48, 49, 49, 49, 49, 49, 49, 49, 49, 49, 49, 50, 50, 50, 50, 50, 50, 50, 50, 50, 50, 51, 51, 51, 51, 51, 51, 51, 51, 51, 51, 52, 52, 52, 52, 52, 52, 52, 52, 52, 52, 53, 53, 53, 53, 53, 53, 53, 53, 53, 53, 54, 54, 54, 54, 54, 54, 54, 54, 54, 54, 55, 55, 55, 55, 55, 55, 55, 55, 55, 55, 56, 56, 56, 56, 56, 56, 56, 56, 56, 56, 57, 57, 57, 57, 57, 57, 57, 57, 57, 57] : List Int32).getD j 0)) ∈ flatC (Cond.and given_1 narrow_1) := fun j hj => by
      have hl : ((flatC (Cond.and given_1 narrow_1)).drop 117).take 100 = (List.range 100).map (fun j => Cond.eq (.elem (.static "java/lang/Integer" "DigitTens" "[B") (.int (Int32.ofNat j))) (.int (([48, 48, 48, 48, 48, 48, 48, 48, 48, 48, 49, 49, 49, 49, 49, 49, 49, 49, 49, 49, 50, 50, 50, 50, 50, 50, 50, 50, 50, 50, 51, 51, 51, 51, 51, 51, 51, 51, 51, 51, 52, 52, 52, 52, 52, 52, 52, 52, 52, 52, 53, 53, 53, 53, 53, 53, 53, 53, 53, 53, 54, 54, 54, 54, 54, 54, 54, 54, 54, 54, 55, 55, 55, 55, 55, 55, 55, 55, 55, 55, 56, 56, 56, 56, 56, 56, 56, 56, 56, 56, 57, 57, 57, 57, 57, 57, 57, 57, 57, 57] : List Int32).getD j 0))) := by rfl
      exact List.mem_of_mem_drop (List.mem_of_mem_take (by rw [hl]; exact List.mem_map.mpr ⟨j, List.mem_range.mpr hj, rfl⟩))
    obtain ⟨t, h1, h2⟩ := va_Tof (args := args) (s := s) (tm := .static "java/lang/Integer" "DigitTens" "[B") (ty := .byte) (N := 100) (f := fun j => .int (([48, 48, 48, 48, 48, 48, 48, 48, 48, 48, 49, 49, 49, 49, 49, 49, 49, 49, 49, 49, 50, 50, 50, 50, 50, 50, 50, 50, 50, 50, 51, 51, 51, 51, 51, 51, 51, 51, 51, 51, 52, 52, 52, 52, 52, 52, 52, 52, 52, 52, 53, 53, 53, 53, 53, 53, 53, 53, 53, 53, 54, 54, 54, 54, 54, 54, 54, 54, 54, 54, 55, 55, 55, 55, 55, 55, 55, 55, 55, 55, 56, 56, 56, 56, 56, 56, 56, 56, 56, 56, 57, 57, 57, 57, 57, 57, 57, 57, 57, 57] : List Int32).getD j 0)) (A := SA s.heap.size) (by decide) (hs _ (by decide +kernel)) (va_eqt (hs (Cond.eq (.length (.static "java/lang/Integer" "DigitTens" "[B")) (.int (100 : Int32))) (by decide +kernel))) (fun j hj => va_eqt (hs _ (hm j hj))) SA_no
    exact ⟨t, _, va_Zof (hts _ (tb_5 (List.mem_of_getElem? (i := 29) rfl))) (ht _ q_63) h1 SA_no, h2⟩
  have hCS : va_Z "java/lang/String" "COMPACT_STRINGS" "Z" (.int 1) (SA s.heap.size) s s.heap := va_Zof (hts _ (tb_4 (List.mem_of_getElem? (i := 137) rfl))) (ht _ q_68) (va_eqi (hs (Cond.eq (.static "java/lang/String" "COMPACT_STRINGS" "Z") (.int 1)) (by decide +kernel))) SA_no
  have hSR : SR s := List.forall_mem_cons.mpr ⟨sr_one (hts _ (tb_2 (List.mem_of_getElem? (i := 74) rfl))) (hs _ (by decide +kernel)), List.forall_mem_cons.mpr ⟨sr_one (hts _ (tb_3 (List.mem_of_getElem? (i := 84) rfl))) (hs _ (by decide +kernel)), List.forall_mem_cons.mpr ⟨sr_one (hts _ (tb_3 (List.mem_of_getElem? (i := 113) rfl))) (hs _ (by decide +kernel)), List.forall_mem_cons.mpr ⟨sr_one (hts _ (tb_4 (List.mem_of_getElem? (i := 102) rfl))) (hs _ (by decide +kernel)), List.forall_mem_cons.mpr ⟨sr_one (hts _ (tb_5 (List.mem_of_getElem? (i := 88) rfl))) (hs _ (by decide +kernel)), List.forall_mem_cons.mpr ⟨sr_one (hts _ (tb_5 (List.mem_of_getElem? (i := 205) rfl))) (hs _ (by decide +kernel)), List.forall_mem_cons.mpr ⟨sr_one (hts _ (tb_5 (List.mem_of_getElem? (i := 210) rfl))) (hs _ (by decide +kernel)), List.forall_mem_cons.mpr ⟨sr_one (hts _ (tb_6 (List.mem_of_getElem? (i := 0) rfl))) (hs _ (by decide +kernel)), List.forall_mem_cons.mpr ⟨sr_one (hts _ (tb_7 (List.mem_of_getElem? (i := 47) rfl))) (hs _ (by decide +kernel)), List.forall_mem_cons.mpr ⟨sr_one (hts _ (tb_7 (List.mem_of_getElem? (i := 50) rfl))) (hs _ (by decide +kernel)), List.forall_mem_cons.mpr ⟨sr_one (hts _ (tb_7 (List.mem_of_getElem? (i := 54) rfl))) (hs _ (by decide +kernel)), List.forall_mem_cons.mpr ⟨sr_one (hts _ (tb_7 (List.mem_of_getElem? (i := 90) rfl))) (hs _ (by decide +kernel)), fun _ h => nomatch h⟩⟩⟩⟩⟩⟩⟩⟩⟩⟩⟩⟩
  have hNC : NC s := List.forall_mem_cons.mpr ⟨va_Nc.of (hs (Cond.not (.castable "java/lang/IllegalArgumentException" "java/lang/IllegalStateException")) (by decide +kernel)), List.forall_mem_cons.mpr ⟨va_Nc.of (hs (Cond.not (.castable "java/lang/IllegalArgumentException" "java/lang/IndexOutOfBoundsException")) (by decide +kernel)), List.forall_mem_cons.mpr ⟨va_Nc.of (hs (Cond.not (.castable "java/lang/IllegalStateException" "java/lang/IllegalArgumentException")) (by decide +kernel)), List.forall_mem_cons.mpr ⟨va_Nc.of (hs (Cond.not (.castable "java/lang/IllegalStateException" "java/lang/IndexOutOfBoundsException")) (by decide +kernel)), List.forall_mem_cons.mpr ⟨va_Nc.of (hs (Cond.not (.castable "java/lang/IndexOutOfBoundsException" "java/lang/IllegalArgumentException")) (by decide +kernel)), List.forall_mem_cons.mpr ⟨va_Nc.of (hs (Cond.not (.castable "java/lang/IndexOutOfBoundsException" "java/lang/IllegalStateException")) (by decide +kernel)), fun _ h => nomatch h⟩⟩⟩⟩⟩⟩
  have hTX : TXS (SA s.heap.size) s s.heap := List.forall_mem_cons.mpr ⟨tx_one (n := 0) (bs := []) (by decide) (fun j => by rcases j with _ | j <;> rfl) (hts _ (tb_7 (List.mem_of_getElem? (i := 47) rfl))) (hs _ (by decide +kernel)) (hs _ (by decide +kernel)) (hs _ (by decide +kernel)) (hs _ (by decide +kernel)) (fun j hj => by first | omega | (rw [show j = 0 by omega]; exact hs _ (by decide +kernel))), List.forall_mem_cons.mpr ⟨tx_one (n := 1) (bs := [32]) (by decide) (fun j => by rcases j with _ | j <;> rfl) (hts _ (tb_7 (List.mem_of_getElem? (i := 50) rfl))) (hs _ (by decide +kernel)) (hs _ (by decide +kernel)) (hs _ (by decide +kernel)) (hs _ (by decide +kernel)) (fun j hj => by first | omega | (rw [show j = 0 by omega]; exact hs _ (by decide +kernel))), List.forall_mem_cons.mpr ⟨tx_one (n := 1) (bs := [42]) (by decide) (fun j => by rcases j with _ | j <;> rfl) (hts _ (tb_7 (List.mem_of_getElem? (i := 54) rfl))) (hs _ (by decide +kernel)) (hs _ (by decide +kernel)) (hs _ (by decide +kernel)) (hs _ (by decide +kernel)) (fun j hj => by first | omega | (rw [show j = 0 by omega]; exact hs _ (by decide +kernel))), List.forall_mem_cons.mpr ⟨tx_one (n := 1) (bs := [46]) (by decide) (fun j => by rcases j with _ | j <;> rfl) (hts _ (tb_7 (List.mem_of_getElem? (i := 90) rfl))) (hs _ (by decide +kernel)) (hs _ (by decide +kernel)) (hs _ (by decide +kernel)) (hs _ (by decide +kernel)) (fun j hj => by first | omega | (rw [show j = 0 by omega]; exact hs _ (by decide +kernel))), fun _ h => nomatch h⟩⟩⟩⟩
  have z1 : vx_Zq Bundle.tN "UNASSIGNED_STACK" Bundle.steD (SA s.heap.size) s s.heap := vx_Zqof (hts _ (tb_2 (List.mem_of_getElem? (i := 60) rfl))) (ht _ q_58) (hs (Cond.isRef (.static "java/lang/Throwable" "UNASSIGNED_STACK" "[Ljava/lang/StackTraceElement;")) (by decide +kernel)) SA_no
  have z2 : vx_Zq Bundle.tN "SUPPRESSED_SENTINEL" Bundle.listD (SA s.heap.size) s s.heap := vx_Zqof (hts _ (tb_2 (List.mem_of_getElem? (i := 62) rfl))) (ht _ q_58) (hs (Cond.isRef (.static "java/lang/Throwable" "SUPPRESSED_SENTINEL" "Ljava/util/List;")) (by decide +kernel)) SA_no
  exact ⟨_, cI, cL, cM, cB, ⟨hCK.tk, hCK.mk, hJK, CN.of hts, NW.of hts, XN.of hts, hSR, hNC, z1, z2, ⟨hCS, hD1, hD2⟩, hTX⟩, hCK, hO⟩
end STP
end
/-! part 9s.start2 -/
section
section STQ
variable {s : State} {D : va_G} {N : va_W} {A : Nat → Prop} {H : Heap} {locs : List Loc}
theorem MW.fix {j a : Nat} {e0 e1 : va_E} (hw : MW D [] (N.set j (a, e0)) A s H locs) (hj : N[j]? = some (a, e1)) (h : va_at D CL (a, e0) H → va_at D CL (a, e1) H) : MW D [] N A s H locs := by
  have hl := (List.getElem?_eq_some_iff.mp hj).1
  have at0 : ∀ (k : Nat) (x : Nat × va_E), N[k]? = some x → ∃ y : Nat × va_E, (N.set j (a, e0))[k]? = some y ∧ y.1 = x.1 ∧ (k ≠ j → y = x) := fun k x hx => by
    by_cases e : j = k
    · subst e
      rw [hj] at hx
      cases hx
      exact ⟨_, List.getElem?_set_self hl, rfl, fun z => absurd rfl z⟩
    · exact ⟨x, by rw [List.getElem?_set_ne e]; exact hx, rfl, fun _ => rfl⟩
  refine ⟨fun k x hx => ?_, ⟨fun i k x y hx hy e => ?_, fun k x hx => ?_⟩, hw.2.2⟩
  · obtain ⟨y, hy, _, hn⟩ := at0 k x hx
    by_cases e : k = j
    · subst e
      have hx' : N[k]? = some x := hx
      rw [hj] at hx'
      cases hx'
      exact h (hw.1 k _ (show ([] ++ N.set k (a, e0))[k]? = _ from List.getElem?_set_self hl))
    · rw [← hn e]
      exact hw.1 k y hy
  · obtain ⟨x', hx', ex, _⟩ := at0 i x hx
    obtain ⟨y', hy', ey, _⟩ := at0 k y hy
    exact hw.2.1.1 i k x' y' hx' hy' (by rw [ex, ey]; exact e)
  · obtain ⟨x', hx', ex, _⟩ := at0 k x hx
    rw [← ex]
    exact hw.2.1.2 k x' hx'
theorem cell4 {q : Nat} {cM : ClassId} {f g : Nat → Option Nat} (h : va_at D CL (q, .inl (cM, 4, .inr (.inr (.inr (.inr f))))) H) (e0 : f 0 = g 0) (e1 : f 1 = g 1) (e2 : f 2 = g 2) (e3 : f 3 = g 3) : va_at D CL (q, .inl (cM, 4, .inr (.inr (.inr (.inr g))))) H := by
  have h1 : H[q]? = some (arrV cM 4 (fun j => va_rf (f j))) := h
  have h2 : arrV cM 4 (fun j => va_rf (f j)) = arrV cM 4 (fun j => va_rf (g j)) := by
    have hfg : ∀ j : Nat, j < 4 → f j = g j := fun j hj => by
      rcases (show j = 0 ∨ j = 1 ∨ j = 2 ∨ j = 3 by omega) with rfl | rfl | rfl | rfl
      · exact e0
      · exact e1
      · exact e2
      · exact e3
    have hF : (fun j : Fin 4 => va_rf (f j)) = fun j : Fin 4 => va_rf (g j) := funext fun j => congrArg va_rf (hfg j j.isLt)
    simp [arrV, hF]
  show H[q]? = some (arrV cM 4 (fun j => va_rf (g j)))
  rw [h1, h2]
def NL9 (cI cM : ClassId) (u : Nat → Nat) : va_W := [((u 0), .inl (cM, 4, .inr (.inr (.inr (.inr (va_up (va_up (va_up (va_up (fun _ => none) ((0 : Int32).toNatClampNeg) (some (u 50))) ((1 : Int32).toNatClampNeg) (some (u 52))) ((2 : Int32).toNatClampNeg) (some (u 54))) ((3 : Int32).toNatClampNeg) (some (u 56)))))))), ((u 1), .inr (2, [.ref (u 2), .int (1 : Int32), .int (0 : Int32), .int (1 : Int32)])), ((u 2), .inl (cI, 21, .inl (fun _ => 0))), ((u 3), .inr (2, [.ref (u 4), .int (1 : Int32), .int (0 : Int32), .int (1 : Int32)])), ((u 4), .inl (cI, 96, .inl (fun _ => 0))), ((u 5), .inr (0, [.int (0 : Int32)])), ((u 6), .inr (3, [.ref (u 7), .ref (u 9), .ref (u 11), .ref (u 13), .ref (u 20), .ref (u 22), .ref (u 24)])), ((u 7), .inr (6, [.ref (u 8)])), ((u 8), .inl (cI, 32, .inl (fun _ => 0))), ((u 9), .inr (6, [.ref (u 10)])), ((u 10), .inl (cI, 32, .inl (fun _ => 0))), ((u 11), .inr (6, [.ref (u 12)])), ((u 12), .inl (cI, 32, .inl (fun _ => 0))), ((u 13), .inr (1, [.ref (u 14), .ref (u 16), .ref (u 18)])), ((u 14), .inr (6, [.ref (u 15)])), ((u 15), .inl (cI, 32, .inl (fun _ => 0))), ((u 16), .inr (6, [.ref (u 17)])), ((u 17), .inl (cI, 32, .inl (fun _ => 0))), ((u 18), .inr (6, [.ref (u 19)])), ((u 19), .inl (cI, 32, .inl (fun _ => 0))), ((u 20), .inr (2, [.ref (u 21), .int (1 : Int32), .int (0 : Int32), .int (1 : Int32)])), ((u 21), .inl (cI, 96, .inl (fun _ => 0))), ((u 22), .inr (2, [.ref (u 23), .int (1 : Int32), .int (0 : Int32), .int (1 : Int32)])), ((u 23), .inl (cI, 96, .inl (fun _ => 0))), ((u 24), .inr (5, [.ref (u 25), .int (1 : Int32), .int (0 : Int32)])), ((u 25), .inl (cI, 96, .inl (fun _ => 0))), ((u 26), .inr (4, [.ref (u 27), .ref (u 29), .ref (u 31), .ref (u 33), .ref (u 35), .ref (u 37), .int (0 : Int32), .int (0 : Int32), .int (0 : Int32), .int (0 : Int32)])), ((u 27), .inr (6, [.ref (u 28)])), ((u 28), .inl (cI, 200, .inl (fun _ => 0))), ((u 29), .inr (6, [.ref (u 30)])), ((u 30), .inl (cI, 200, .inl (fun _ => 0))), ((u 31), .inr (6, [.ref (u 32)])), ((u 32), .inl (cI, 200, .inl (fun _ => 0))), ((u 33), .inr (6, [.ref (u 34)])), ((u 34), .inl (cI, 200, .inl (fun _ => 0))), ((u 35), .inr (6, [.ref (u 36)])), ((u 36), .inl (cI, 600, .inl (fun _ => 0))), ((u 37), .inr (6, [.ref (u 38)])), ((u 38), .inl (cI, 1024, .inl (fun _ => 0))), ((u 39), .inr (7, [.ref (u 40)])), ((u 40), .inr (6, [.ref (u 41)])), ((u 41), .inl (cI, 416, .inl (fun _ => 0))), ((u 42), .inr (5, [.ref (u 43), .int (1 : Int32), .int (0 : Int32)])), ((u 43), .inl (cI, 96, .inl (fun _ => 0))), ((u 44), .inr (5, [.ref (u 45), .int (1 : Int32), .int (0 : Int32)])), ((u 45), .inl (cI, 96, .inl (fun _ => 0))), ((u 46), .inr (5, [.ref (u 47), .int (1 : Int32), .int (0 : Int32)])), ((u 47), .inl (cI, 96, .inl (fun _ => 0))), ((u 48), .inr (5, [.ref (u 49), .int (1 : Int32), .int (0 : Int32)])), ((u 49), .inl (cI, 96, .inl (fun _ => 0))), ((u 50), .inr (2, [.ref (u 51), .int (1 : Int32), .int (0 : Int32), .int (1 : Int32)])), ((u 51), .inl (cI, 21, .inl (fun _ => 0))), ((u 52), .inr (2, [.ref (u 53), .int (1 : Int32), .int (0 : Int32), .int (1 : Int32)])), ((u 53), .inl (cI, 21, .inl (fun _ => 0))), ((u 54), .inr (2, [.ref (u 55), .int (1 : Int32), .int (0 : Int32), .int (1 : Int32)])), ((u 55), .inl (cI, 21, .inl (fun _ => 0))), ((u 56), .inr (2, [.ref (u 57), .int (1 : Int32), .int (0 : Int32), .int (1 : Int32)])), ((u 57), .inl (cI, 21, .inl (fun _ => 0)))]
def PM : List Nat := [0, 0, 50, 51, 52, 53, 54, 55, 56, 57, 1, 2, 3, 4, 5, 6, 7, 8, 9, 10, 11, 12, 13, 14, 15, 16, 17, 18, 19, 20, 21, 22, 23, 24, 25, 26, 27, 28, 29, 30, 31, 32, 33, 34, 35, 36, 37, 38, 39, 40, 41, 42, 43, 44, 45, 46, 47, 48, 49]
def AD (qx : Nat) (u : Nat → Nat) (k : Nat) : Nat := if k = 0 then qx else u (PM.getD k 0)
def MU0 : TMem := fun k i => if kd k = 2 then (if i = 1 then 1 else if i = 3 then 1 else 0) else if kd k = 5 then (if i = 1 then 1 else 0) else 0
def NU0 : TMem := fun k => match k with
  | 1 => (upd (upd (upd (upd (fun _ => 0) ((0 : Int32).toNatClampNeg) (1 : Int32)) ((1 : Int32).toNatClampNeg) (1 : Int32)) ((2 : Int32).toNatClampNeg) (1 : Int32)) ((3 : Int32).toNatClampNeg) (1 : Int32))
  | 2 => (upd (upd (upd (upd (fun _ => 0) ((0 : Int32).toNatClampNeg) (1 : Int32)) ((1 : Int32).toNatClampNeg) (1 : Int32)) ((2 : Int32).toNatClampNeg) (1 : Int32)) ((3 : Int32).toNatClampNeg) (1 : Int32))
  | _ => fun _ => 0
theorem GB0 : GB MU0 := fun i => (show rng (MU0 43 i) from (show MU0 43 i = 0 from rfl) ▸ (show rng 0 from ⟨by decide, by decide⟩))
theorem RI0 : RI NU0 := fun i hi => by
  rcases (show i = 0 ∨ i = 1 ∨ i = 2 ∨ i = 3 by omega) with rfl | rfl | rfl | rfl <;> exact ⟨by decide, by decide⟩
theorem sd_0 : (yX9_init : MethodName).cls ≠ "java/lang/invoke/MethodHandle" ∧ (yX9_init : MethodName).cls ≠ "java/lang/invoke/VarHandle" ∧ (parseMethodDescriptor (yX9_init : MethodName).desc).map (fun d => d.parameters.length) = some 0 := by decide +kernel
theorem sd_1 : (yX11_init : MethodName).cls ≠ "java/lang/invoke/MethodHandle" ∧ (yX11_init : MethodName).cls ≠ "java/lang/invoke/VarHandle" ∧ (parseMethodDescriptor (yX11_init : MethodName).desc).map (fun d => d.parameters.length) = some 0 := by decide +kernel
theorem sd_2 : (yX10_init : MethodName).cls ≠ "java/lang/invoke/MethodHandle" ∧ (yX10_init : MethodName).cls ≠ "java/lang/invoke/VarHandle" ∧ (parseMethodDescriptor (yX10_init : MethodName).desc).map (fun d => d.parameters.length) = some 0 := by decide +kernel
set_option maxHeartbeats 4000000 in
set_option maxRecDepth 100000 in
theorem law_start {p : Program} {l : Launch} {e : Env} {s : State} {m : MethodId} {b : Nat} {below : List Frame} {meth : Method} {c : Code} {L : Nat} {xs : Nat → Int32} {D : va_G} {cI cL cM cB : ClassId} {Z : State → Prop} {JI : TMem → TMem → Prop} {ls : Array Slot} (hRI : ∀ {μ ν : TMem}, JI μ ν → RI ν) (h0 : GM_begin JI) (h1 : GM_arrow JI) (h2 : GM_lead JI) (h3 : GM_mark JI) (h4 : GM_sow JI) (h5 : GM_copy JI) (h6 : GM_swap JI) (h7 : GM_turn JI) (h8 : GM_other JI) (h9 : GM_grow JI) (h10 : GM_drop JI) (h11 : GM_make JI) (h12 : GM_combine JI) (h13 : GM_tell JI) (h14 : GM_arrows JI) (h15 : GM_takes JI) (h16 : GM_after JI) (h17 : GM_size JI) (h18 : GM_text JI) (h19 : GM_kind JI) (h20 : GM_many JI) (h21 : GM_word JI) (h22 : GM_isAlike JI) (h23 : GM_apart JI) (h24 : GM_pairs JI) (h25 : GM_together JI) (h26 : GM_house JI) (h27 : GM_knock JI) (h28 : GM_isSound JI) (h29 : GM_digest JI) (hJ0 : JI MU0 NU0) (hx : p.tables.exec = Jvm.exec) (hb : c.code = cL_law) (hml : c.maxLocals = 7) (hown : s.vm.findClass "LeastreaderLaw" = some m.cls) (ht : ∀ w ∈ W0, w.before #[.ref b] s = true) (hg : LG D cI cL cM cB s) (hK : CK D cI cL cM s) (hO : va_AO "Leastreader$Machine" s) (hX : va_X b L xs s s.heap) (hbl : b < s.heap.size) (hst : l.stackTraces = false) (hL : L ≤ 384) (hE : ∀ (H : Heap) (ls : Array Slot), W p l e room_1 s m #[.ref b] below meth c H [] 600128 7301098 Z (F0 m 1551 ls [.int 1])) (hl : lv_has ls 7 [(0, .ref b)]) : W p l e room_1 s m #[.ref b] below meth c s.heap [] 0 0 Z (F0 m 0 ls []) := by
  have hN : NW s := hg.2.2.2.2.1
  have hw : MW D [] [] (SA s.heap.size) s s.heap [] := ⟨fun k q h => by simp at h, ⟨fun i j p q h => by simp at h, fun k q h => by simp at h⟩, va_S.rf, fun q h => h⟩
  suffices hh : ∀ (H : Heap) (locs : List Loc), MW D [] [] (SA s.heap.size) s H locs → W p l e room_1 s m #[.ref b] below meth c H locs 0 0 Z (F0 m 0 ls []) from hh _ _ hw
  intro H locs hw
  refine c_new (fs := [.null, .null, .null, .null, .null, .null, .null, .null, .null, .null, .null, .int (0 : Int32), .int (0 : Int32), .int (0 : Int32)]) hx hb ht in_8 tyX9 tyX9_ok hown (ht _ q_76) (ht _ q_77) (ht _ q_46) hK hw cl_8 (fun j hj => by rcases (show j = 0 ∨ j = 1 ∨ j = 2 ∨ j = 3 ∨ j = 4 ∨ j = 5 ∨ j = 6 ∨ j = 7 ∨ j = 8 ∨ j = 9 ∨ j = 10 ∨ j = 11 ∨ j = 12 ∨ j = 13 by omega) with rfl | rfl | rfl | rfl | rfl | rfl | rfl | rfl | rfl | rfl | rfl | rfl | rfl | rfl <;> rfl) (show 0 + 1 ≤ 600128 by omega) (show 0 + 14 ≤ 7301098 by omega) dL_law_0 (fun qx H hw => ?_)
  refine lv_dup hx hb dL_law_3 rfl ?_
  refine C_call (j := 0) (e1 := fun u => .inr (8, [.ref (u 0), .ref (u 1), .ref (u 3), .ref (u 5), .ref (u 6), .ref (u 26), .ref (u 39), .ref (u 42), .ref (u 44), .ref (u 46), .ref (u 48), .int (0 : Int32), .int (0 : Int32), .int (0 : Int32)])) (NL := fun u => NL9 cI cM u) (fun u => rfl) hw rfl (va_runI (own := "LeastreaderLaw") (As := []) (rest := [.ref qx]) ⟨hx, hb, hml, hown, ht⟩ (c_X9_init qx H.size) (cwI 0 ht (G_ws q_80) rfl rfl rfl (ht _ q_46) (ht _ q_78) (ht _ q_79) rfl sd_0 ⟨Nat.le_of_ble_eq_true rfl, Nat.le_of_ble_eq_true rfl⟩) ⟨CB.blind, CB.pre (j := 0) hK hN hO hw rfl⟩ rfl rfl hl.1 rfl (lv_room (Nat.le_of_ble_eq_true rfl)) dL_law_4 ⟨show 0 + 1 + 58 ≤ 600128 by omega, show 0 + 14 + 3991 ≤ 7301098 by omega⟩) (fun u H locs hw => ?_)
  refine lv_astore_n (lv' := [(1, .ref qx), (0, .ref b)]) hx hb dL_law_7 rfl hl (by decide) rfl (fun ls hl => ?_)
  refine c_new (fs := [.null, .null, .null, .null, .int (0 : Int32), .int (0 : Int32), .int (0 : Int32), .int (0 : Int32)]) hx hb ht in_10 tyX11 tyX11_ok hown (ht _ q_1307) (ht _ q_1308) (ht _ q_56) hK hw cl_10 (fun j hj => by rcases (show j = 0 ∨ j = 1 ∨ j = 2 ∨ j = 3 ∨ j = 4 ∨ j = 5 ∨ j = 6 ∨ j = 7 by omega) with rfl | rfl | rfl | rfl | rfl | rfl | rfl | rfl <;> rfl) (show 0 + 1 + 58 + 1 ≤ 600128 by omega) (show 0 + 14 + 3991 + 8 ≤ 7301098 by omega) dL_law_8 (fun qm H hw => ?_)
  refine lv_dup hx hb dL_law_11 rfl ?_
  refine C_call (j := 59) (e1 := fun u => .inr (10, [.ref (u 0), .ref (u 1), .ref (u 2), .ref (u 3), .int (0 : Int32), .int (0 : Int32), .int (0 : Int32), .int (0 : Int32)])) (NL := fun u => [((u 0), .inl (cI, 4, .inl (upd (upd (upd (upd (fun _ => 0) ((0 : Int32).toNatClampNeg) (1 : Int32)) ((1 : Int32).toNatClampNeg) (1 : Int32)) ((2 : Int32).toNatClampNeg) (1 : Int32)) ((3 : Int32).toNatClampNeg) (1 : Int32)))), ((u 1), .inl (cI, 4, .inl (upd (upd (upd (upd (fun _ => 0) ((0 : Int32).toNatClampNeg) (1 : Int32)) ((1 : Int32).toNatClampNeg) (1 : Int32)) ((2 : Int32).toNatClampNeg) (1 : Int32)) ((3 : Int32).toNatClampNeg) (1 : Int32)))), ((u 2), .inl (cI, 4, .inl (fun _ => 0))), ((u 3), .inl (cI, 84, .inl (fun _ => 0)))]) (fun u => rfl) hw rfl (va_runI (own := "LeastreaderLaw") (As := []) (rest := [.ref qm]) ⟨hx, hb, hml, hown, ht⟩ (c_X11_init qm H.size) (cwI 0 ht (G_ws q_1311) rfl rfl rfl (ht _ q_56) (ht _ q_1309) (ht _ q_1310) rfl sd_1 ⟨Nat.le_of_ble_eq_true rfl, Nat.le_of_ble_eq_true rfl⟩) ⟨CB.blind, CB.pre (j := 59) hK hN hO hw rfl⟩ rfl rfl hl.1 rfl (lv_room (Nat.le_of_ble_eq_true rfl)) dL_law_12 ⟨show 0 + 1 + 58 + 1 + 4 ≤ 600128 by omega, show 0 + 14 + 3991 + 8 + 96 ≤ 7301098 by omega⟩) (fun v H locs hw => ?_)
  refine lv_astore_n (lv' := [(2, .ref qm), (1, .ref qx), (0, .ref b)]) hx hb dL_law_15 rfl hl (by decide) rfl (fun ls hl => ?_)
  refine c_new (fs := [.long (0 : Int64), .null]) hx hb ht in_9 tyX10 tyX10_ok hown (ht _ q_575) (ht _ q_576) (ht _ q_57) hK hw cl_9 (fun j hj => by rcases (show j = 0 ∨ j = 1 by omega) with rfl | rfl <;> rfl) (show 0 + 1 + 58 + 1 + 4 + 1 ≤ 600128 by omega) (show 0 + 14 + 3991 + 8 + 96 + 2 ≤ 7301098 by omega) dL_law_16 (fun qo H hw => ?_)
  refine lv_dup hx hb dL_law_19 rfl ?_
  refine C_call (j := 64) (e1 := fun u => .inr (9, [.long (0 : Int64), .null])) (NL := fun u => []) (fun u => rfl) hw rfl (va_runIN (own := "LeastreaderLaw") (As := []) (rest := [.ref qo]) ⟨hx, hb, hml, hown, ht⟩ (c_X10_init qo H.size) ⟨va_cnB 0 ht (G_ws q_579) rfl rfl rfl (nw_577 hN) (ht _ q_57) sd_2 ⟨Nat.le_of_ble_eq_true rfl, Nat.le_of_ble_eq_true rfl⟩, rfl, ht _ q_578⟩ ⟨CB.blind, CB.pre (j := 64) hK hN hO hw rfl⟩ rfl rfl hl.1 rfl (lv_room (Nat.le_of_ble_eq_true rfl)) dL_law_20 ⟨show 0 + 1 + 58 + 1 + 4 + 1 + 0 ≤ 600128 by omega, show 0 + 14 + 3991 + 8 + 96 + 2 + 0 ≤ 7301098 by omega⟩) (fun w H locs hw => ?_)
  refine lv_astore_n (lv' := [(3, .ref qo), (2, .ref qm), (1, .ref qx), (0, .ref b)]) hx hb dL_law_23 rfl hl (by decide) rfl (fun ls hl => ?_)
  refine lv_iconst (v := (0 : Int32)) hx hb dL_law_24 (by decide) ?_
  refine lv_istore (lv' := [(4, .int (0 : Int32)), (3, .ref qo), (2, .ref qm), (1, .ref qx), (0, .ref b)]) hx hb dL_law_25 hl (by decide) rfl (fun ls hl => ?_)
  have hw := hw.sub (N' := (MR (fun k => if k = 0 then qm else v (k - 1)) cI NU0 ++ TO (AD qx u) cI cM MU0 qo 0 .null).set 6 ((AD qx u) 1, .inl (cM, 4, .inr (.inr (.inr (.inr (va_up (va_up (va_up (va_up (fun _ => none) ((0 : Int32).toNatClampNeg) (some (u 50))) ((1 : Int32).toNatClampNeg) (some (u 52))) ((2 : Int32).toNatClampNeg) (some (u 54))) ((3 : Int32).toNatClampNeg) (some (u 56))))))))) [59, 60, 61, 62, 63, 0, 1, 51, 52, 53, 54, 55, 56, 57, 58, 2, 3, 4, 5, 6, 7, 8, 9, 10, 11, 12, 13, 14, 15, 16, 17, 18, 19, 20, 21, 22, 23, 24, 25, 26, 27, 28, 29, 30, 31, 32, 33, 34, 35, 36, 37, 38, 39, 40, 41, 42, 43, 44, 45, 46, 47, 48, 49, 50, 64] (by decide) rfl
  have hw := MW.fix (j := 6) hw rfl (fun h => cell4 h rfl rfl rfl rfl)
  have hw : MW D (MR (fun k => if k = 0 then qm else v (k - 1)) cI NU0) (TO (AD qx u) cI cM MU0 qo 0 .null) (SA s.heap.size) s H locs := hw
  have hI : TI (AD qx u) := fun i j hi hj e => Nat.add_left_cancel (hw.2.1.1 _ _ _ _ (NAT (RG := MR (fun k => if k = 0 then qm else v (k - 1)) cI NU0) (TO_t hi)) (NAT (RG := MR (fun k => if k = 0 then qm else v (k - 1)) cI NU0) (TO_t hj)) e)
  have hJ : MI (fun k => if k = 0 then qm else v (k - 1)) := fun i j hi hj e => hw.2.1.1 _ _ _ _ (MRN hi) (MRN hj) e
  refine W.widen (show 0 + 1 + 58 + 1 + 4 + 1 + 0 ≤ 100 + 2000 * 0 by omega) (show 0 + 14 + 3991 + 8 + 96 + 2 + 0 ≤ 6000 + 112000 * 0 by omega) ?_
  have hLC : LC p l s m b c L xs D (AD qx u) (fun k => if k = 0 then qm else v (k - 1)) cI cL cM cB := ⟨hx, hb, hml, hown, ht, hg, hI, hJ, hX, hbl, hst, hL⟩
  exact law_loop hRI h0 h1 h2 h3 h4 h5 h6 h7 h8 h9 h10 h11 h12 h13 h14 h15 h16 h17 h18 h19 h20 h21 h22 h23 h24 h25 h26 h27 h28 h29 hLC hE 66 0 (0 : Int32) (by omega) (by omega) (by decide) MU0 NU0 0 .null H locs ls hJ0 hw (lv_sub hl [4, 3, 2, 1, 0] rfl)
end STQ
end
