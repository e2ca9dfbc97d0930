section STP
variable {args : Array Value} {s : State}
theorem sr_one {own tx : String} {k : Nat} (h1 : (Cond.stringRef own k tx).before args s = true) (h2 : (Cond.exactly (.string own k) "java/lang/String").before args s = true) : ∃ sa : Nat, vk_R own k tx sa s := by
  obtain ⟨a, c, cA, kA, q1, -⟩ := Cond.exactly_spec (args := args) (first := s) (o := none) (s := s) (idx := []) (t := .string own k) (cls := "java/lang/String") h2
  exact ⟨a, vk_R.of h1 q1⟩
theorem SA_no : ∀ a : Nat, a < s.heap.size → ¬ SA s.heap.size a := fun a h z => absurd h (Nat.not_lt.mpr z)
theorem tx_one {k n : Nat} {tx : String} {bs : List Int32} (hn : n ≤ 1) (hf : FT (fun j => bs.getD j 0)) (h1 : (Cond.stringRef "LeastreaderModel" k tx).before args s = true) (h2 : (Cond.exactly (.string "LeastreaderModel" k) "java/lang/String").before args s = true) (h3 : (Cond.eq (.field (.string "LeastreaderModel" k) "java/lang/String" "coder" "B") (.int 0)).before args s = true)
    (h4 : (Cond.arrayOf (.field (.string "LeastreaderModel" k) "java/lang/String" "value" "[B") .byte).before args s = true) (h5 : (Cond.eq (.length (.field (.string "LeastreaderModel" k) "java/lang/String" "value" "[B")) (.int (Int32.ofNat n))).before args s = true) (h6 : ∀ j : Nat, j < n → (Cond.eq (.elem (.field (.string "LeastreaderModel" k) "java/lang/String" "value" "[B") (.int (Int32.ofNat j))) (.int (bs.getD j 0))).before args s = true) :
    ∃ sa b w : Nat, w ≤ 1 ∧ vk_R "LeastreaderModel" k tx sa s ∧ SO sa b w (SA s.heap.size) s s.heap := by
  obtain ⟨adK, adV, hS, hev⟩ := vk_Sof (args := args) (s := s) (N := 1) (tm := fun _ => .string "LeastreaderModel" k) (len := [n]) (byt := [bs]) (A := SA s.heap.size)
    (fun i hi => by rw [show i = 0 by omega]; show n < 2 ^ 31; omega) (fun i _ => h2) (fun i _ => h3) (fun i _ => h4) (fun i hi => by rw [show i = 0 by omega]; exact h5) (fun i hi j hj => by rw [show i = 0 by omega] at hj ⊢; exact h6 j hj) (fun i j hi hj hne => absurd (show i = j by omega) hne) SA_no
  have h := hS.1 0 (by decide)
  exact ⟨adK 0, adV 0, n, hn, vk_R.of h1 (hev 0 (by decide)), h.1, h.2.1, h.2.2.1, _, hf, h.2.2.2⟩
theorem arr_one {ty : FieldType} (h : (Cond.arrayClass ty).before args s = true) (hno : ∀ C, ty ≠ .object C) : ∃ cA : ClassId, ArrOfT s cA ty ∧ va_RA s cA ty := by
  obtain ⟨cA, kA, comp, h1, h2, h3⟩ := Cond.arrayClass_spec h
  refine ⟨cA, fun n z => ⟨fun k h => (by cases h), kA, h2, comp, h3⟩, ?_⟩
  cases ty with
  | object C => exact absurd rfl (hno C)
  | _ => exact h1
set_option maxHeartbeats 4000000 in
set_option maxRecDepth 100000 in
theorem LG_start (hts : ∀ w ∈ lw_tbl, w.before args s = true) (hgv : (Cond.and given_1 narrow_1).before args s = true) : ∃ (D : va_G) (cI cL cM cB : ClassId), LG D cI cL cM cB s ∧ CK D cI cL cM s ∧ va_AO "Leastreader$Machine" s := by
  have ht : ∀ w ∈ W0, w.before args s = true := W0_of hts
  have hs := flat_of_before _ hgv
  have hO : va_AO "Leastreader$Machine" s := va_AO.of (hts _ (tb_1 (List.mem_of_getElem? (i := 40) rfl)))
  have hKc : ∀ k : Nat, ∃ r : ClassId × (Nat → Nat), ∀ q : vw_C, CL[k]? = some q → u_Kn s q.1 q.2.1 q.2.2 r.1 r.2 := by
    intro k
    match k with
    | 0 =>
      obtain ⟨a, b, h⟩ := u_known (args := args) ht in_0 (ht _ q_130)
      exact ⟨(a, b), fun q hq => by cases hq; exact h⟩
    | 1 =>
      obtain ⟨a, b, h⟩ := u_known (args := args) ht in_1 (ht _ q_156)
      exact ⟨(a, b), fun q hq => by cases hq; exact h⟩
    | 2 =>
      obtain ⟨a, b, h⟩ := u_known (args := args) ht in_2 (ht _ q_86)
      exact ⟨(a, b), fun q hq => by cases hq; exact h⟩
    | 3 =>
      obtain ⟨a, b, h⟩ := u_known (args := args) ht in_3 (ht _ q_140)
      exact ⟨(a, b), fun q hq => by cases hq; exact h⟩
    | 4 =>
      obtain ⟨a, b, h⟩ := u_known (args := args) ht in_4 (ht _ q_208)
      exact ⟨(a, b), fun q hq => by cases hq; exact h⟩
    | 5 =>
      obtain ⟨a, b, h⟩ := u_known (args := args) ht in_5 (ht _ q_176)
      exact ⟨(a, b), fun q hq => by cases hq; exact h⟩
    | 6 =>
      obtain ⟨a, b, h⟩ := u_known (args := args) ht in_6 (ht _ q_146)
      exact ⟨(a, b), fun q hq => by cases hq; exact h⟩
    | 7 =>
      obtain ⟨a, b, h⟩ := u_known (args := args) ht in_7 (ht _ q_250)
      exact ⟨(a, b), fun q hq => by cases hq; exact h⟩
    | 8 =>
      obtain ⟨a, b, h⟩ := u_known (args := args) ht in_8 (ht _ q_77)
      exact ⟨(a, b), fun q hq => by cases hq; exact h⟩
    | 9 =>
      obtain ⟨a, b, h⟩ := u_known (args := args) ht in_9 (ht _ q_576)
      exact ⟨(a, b), fun q hq => by cases hq; exact h⟩
    | 10 =>
      obtain ⟨a, b, h⟩ := u_known (args := args) ht in_10 (ht _ q_1308)
      exact ⟨(a, b), fun q hq => by cases hq; exact h⟩
    | 11 =>
      obtain ⟨a, b, h⟩ := u_known (args := args) ht in_11 (ht _ q_893)
      exact ⟨(a, b), fun q hq => by cases hq; exact h⟩
    | 12 =>
      obtain ⟨a, b, h⟩ := u_known (args := args) ht in_12 (ht _ q_1058)
      exact ⟨(a, b), fun q hq => by cases hq; exact h⟩
    | k + 13 => exact ⟨(0, fun _ => 0), fun q hq => by simp [CL] at hq⟩
  obtain ⟨r, hr⟩ := Classical.axiomOfChoice hKc
  obtain ⟨cI, i1, i2⟩ := arr_one (ht _ q_128) (fun C h => by cases h)
  obtain ⟨cL, l1, l2⟩ := arr_one (ht _ q_1424) (fun C h => by cases h)
  obtain ⟨cB, b1, b2⟩ := arr_one (ht _ q_385) (fun C h => by cases h)
  obtain ⟨comp, cM, kM, m1, m2, m3, m4, m5⟩ := Cond.arrayOver_spec (va_AO.use (A := args) hO)
  have hCK : CK (fun k => (r k).1, fun k => (r k).2) cI cL cM s := ⟨fun k q hq => hr k q hq, fun k q hq => by
    match k, hq with
    | 0, hq => cases hq; exact ⟨i1, i2⟩
    | 1, hq => cases hq; exact ⟨l1, l2⟩
    | 2, hq => cases hq; exact ⟨fun n z => ⟨fun k h => (by cases h), kM, m3, comp, m4⟩, kM, comp, m3, m4, m1, m5⟩
    | k + 3, hq => simp at hq⟩
  have hJK : JK (fun k => (r k).1, fun k => (r k).2) cB s := ⟨fun k q hq => hr k q hq, fun k q hq => by
    match k, hq with
    | 0, hq => cases hq; exact ⟨b1, b2⟩
    | k + 1, hq => simp at hq⟩
  have hD1 : ∃ (a : Nat) (f : Nat → Int32), va_Z "java/lang/Integer" "DigitOnes" "[B" (.ref a) (SA s.heap.size) s s.heap ∧ va_T .byte a 100 (fun j => .int (f j)) (SA s.heap.size) s s.heap := by
    have hm : ∀ j : Nat, j < 100 → Cond.eq (.elem (.static "java/lang/Integer" "DigitOnes" "[B") (.int (Int32.ofNat j))) (.int (([48, 49, 50, 51, 52, 53, 54, 55, 56, 57, 48, 49, 50, 51, 52, 53, 54, 55, 56, 57, 48, 49, 50, 51, 52, 53, 54, 55, 56, 57, 48, 49, 50, 51, 52, 53, 54, 55, 56, 57, 48, 49, 50, 51, 52, 53, 54, 55, 56, 57, 48, 49, 50, 51, 52, 53, 54, 55, 56, 57, 48, 49, 50, 51, 52, 53, 54, 55, 56, 57, 48, 49, 50, 51, 52, 53, 54, 55, 56, 57, 48, 49, 50, 51, 52, 53, 54, 55, 56, 57, 48, 49, 50, 51, 52, 53, 54, 55, 56, 57] : List Int32).getD j 0)) ∈ flatC (Cond.and given_1 narrow_1) := fun j hj => by
      have hl : ((flatC (Cond.and given_1 narrow_1)).drop 14).take 100 = (List.range 100).map (fun j => Cond.eq (.elem (.static "java/lang/Integer" "DigitOnes" "[B") (.int (Int32.ofNat j))) (.int (([48, 49, 50, 51, 52, 53, 54, 55, 56, 57, 48, 49, 50, 51, 52, 53, 54, 55, 56, 57, 48, 49, 50, 51, 52, 53, 54, 55, 56, 57, 48, 49, 50, 51, 52, 53, 54, 55, 56, 57, 48, 49, 50, 51, 52, 53, 54, 55, 56, 57, 48, 49, 50, 51, 52, 53, 54, 55, 56, 57, 48, 49, 50, 51, 52, 53, 54, 55, 56, 57, 48, 49, 50, 51, 52, 53, 54, 55, 56, 57, 48, 49, 50, 51, 52, 53, 54, 55, 56, 57, 48, 49, 50, 51, 52, 53, 54, 55, 56, 57] : List Int32).getD j 0))) := by rfl
      exact List.mem_of_mem_drop (List.mem_of_mem_take (by rw [hl]; exact List.mem_map.mpr ⟨j, List.mem_range.mpr hj, rfl⟩))
    obtain ⟨t, h1, h2⟩ := va_Tof (args := args) (s := s) (tm := .static "java/lang/Integer" "DigitOnes" "[B") (ty := .byte) (N := 100) (f := fun j => .int (([48, 49, 50, 51, 52, 53, 54, 55, 56, 57, 48, 49, 50, 51, 52, 53, 54, 55, 56, 57, 48, 49, 50, 51, 52, 53, 54, 55, 56, 57, 48, 49, 50, 51, 52, 53, 54, 55, 56, 57, 48, 49, 50, 51, 52, 53, 54, 55, 56, 57, 48, 49, 50, 51, 52, 53, 54, 55, 56, 57, 48, 49, 50, 51, 52, 53, 54, 55, 56, 57, 48, 49, 50, 51, 52, 53, 54, 55, 56, 57, 48, 49, 50, 51, 52, 53, 54, 55, 56, 57, 48, 49, 50, 51, 52, 53, 54, 55, 56, 57] : List Int32).getD j 0)) (A := SA s.heap.size) (by decide) (hs _ (by decide +kernel)) (va_eqt (hs (Cond.eq (.length (.static "java/lang/Integer" "DigitOnes" "[B")) (.int (100 : Int32))) (by decide +kernel))) (fun j hj => va_eqt (hs _ (hm j hj))) SA_no
    exact ⟨t, _, va_Zof (hts _ (tb_5 (List.mem_of_getElem? (i := 27) rfl))) (ht _ q_63) h1 SA_no, h2⟩
  have hD2 : ∃ (a : Nat) (f : Nat → Int32), va_Z "java/lang/Integer" "DigitTens" "[B" (.ref a) (SA s.heap.size) s s.heap ∧ va_T .byte a 100 (fun j => .int (f j)) (SA s.heap.size) s s.heap := by
    have hm : ∀ j : Nat, j < 100 → Cond.eq (.elem (.static "java/lang/Integer" "DigitTens" "[B") (.int (Int32.ofNat j))) (.int (([48, 48, 48, 48, 48, 48, 48, 48, 48, 48, 49, 49, 49, 49, 49, 49, 49, 49, 49, 49, 50, 50, 50, 50, 50, 50, 50, 50, 50, 50, 51, 51, 51, 51, 51, 51, 51, 51, 51, 51, 52, 52, 52, 52, 52, 52, 52, 52, 52, 52, 53, 53, 53, 53, 53, 53, 53, 53, 53, 53, 54, 54, 54, 54, 54, 54, 54, 54, 54, 54, 55, 55, 55, 55, 55, 55, 55, 55, 55, 55, 56, 56, 56, 56, 56, 56, 56, 56, 56, 56, 57, 57, 57, 57, 57, 57, 57, 57, 57, 57] : List Int32).getD j 0)) ∈ flatC (Cond.and given_1 narrow_1) := fun j hj => by
      have hl : ((flatC (Cond.and given_1 narrow_1)).drop 117).take 100 = (List.range 100).map (fun j => Cond.eq (.elem (.static "java/lang/Integer" "DigitTens" "[B") (.int (Int32.ofNat j))) (.int (([48, 48, 48, 48, 48, 48, 48, 48, 48, 48, 49, 49, 49, 49, 49, 49, 49, 49, 49, 49, 50, 50, 50, 50, 50, 50, 50, 50, 50, 50, 51, 51, 51, 51, 51, 51, 51, 51, 51, 51, 52, 52, 52, 52, 52, 52, 52, 52, 52, 52, 53, 53, 53, 53, 53, 53, 53, 53, 53, 53, 54, 54, 54, 54, 54, 54, 54, 54, 54, 54, 55, 55, 55, 55, 55, 55, 55, 55, 55, 55, 56, 56, 56, 56, 56, 56, 56, 56, 56, 56, 57, 57, 57, 57, 57, 57, 57, 57, 57, 57] : List Int32).getD j 0))) := by rfl
      exact List.mem_of_mem_drop (List.mem_of_mem_take (by rw [hl]; exact List.mem_map.mpr ⟨j, List.mem_range.mpr hj, rfl⟩))
    obtain ⟨t, h1, h2⟩ := va_Tof (args := args) (s := s) (tm := .static "java/lang/Integer" "DigitTens" "[B") (ty := .byte) (N := 100) (f := fun j => .int (([48, 48, 48, 48, 48, 48, 48, 48, 48, 48, 49, 49, 49, 49, 49, 49, 49, 49, 49, 49, 50, 50, 50, 50, 50, 50, 50, 50, 50, 50, 51, 51, 51, 51, 51, 51, 51, 51, 51, 51, 52, 52, 52, 52, 52, 52, 52, 52, 52, 52, 53, 53, 53, 53, 53, 53, 53, 53, 53, 53, 54, 54, 54, 54, 54, 54, 54, 54, 54, 54, 55, 55, 55, 55, 55, 55, 55, 55, 55, 55, 56, 56, 56, 56, 56, 56, 56, 56, 56, 56, 57, 57, 57, 57, 57, 57, 57, 57, 57, 57] : List Int32).getD j 0)) (A := SA s.heap.size) (by decide) (hs _ (by decide +kernel)) (va_eqt (hs (Cond.eq (.length (.static "java/lang/Integer" "DigitTens" "[B")) (.int (100 : Int32))) (by decide +kernel))) (fun j hj => va_eqt (hs _ (hm j hj))) SA_no
    exact ⟨t, _, va_Zof (hts _ (tb_5 (List.mem_of_getElem? (i := 29) rfl))) (ht _ q_63) h1 SA_no, h2⟩
  have hCS : va_Z "java/lang/String" "COMPACT_STRINGS" "Z" (.int 1) (SA s.heap.size) s s.heap := va_Zof (hts _ (tb_4 (List.mem_of_getElem? (i := 137) rfl))) (ht _ q_68) (va_eqi (hs (Cond.eq (.static "java/lang/String" "COMPACT_STRINGS" "Z") (.int 1)) (by decide +kernel))) SA_no
  have hSR : SR s := List.forall_mem_cons.mpr ⟨sr_one (hts _ (tb_2 (List.mem_of_getElem? (i := 74) rfl))) (hs _ (by decide +kernel)), List.forall_mem_cons.mpr ⟨sr_one (hts _ (tb_3 (List.mem_of_getElem? (i := 84) rfl))) (hs _ (by decide +kernel)), List.forall_mem_cons.mpr ⟨sr_one (hts _ (tb_3 (List.mem_of_getElem? (i := 113) rfl))) (hs _ (by decide +kernel)), List.forall_mem_cons.mpr ⟨sr_one (hts _ (tb_4 (List.mem_of_getElem? (i := 102) rfl))) (hs _ (by decide +kernel)), List.forall_mem_cons.mpr ⟨sr_one (hts _ (tb_5 (List.mem_of_getElem? (i := 88) rfl))) (hs _ (by decide +kernel)), List.forall_mem_cons.mpr ⟨sr_one (hts _ (tb_5 (List.mem_of_getElem? (i := 205) rfl))) (hs _ (by decide +kernel)), List.forall_mem_cons.mpr ⟨sr_one (hts _ (tb_5 (List.mem_of_getElem? (i := 210) rfl))) (hs _ (by decide +kernel)), List.forall_mem_cons.mpr ⟨sr_one (hts _ (tb_6 (List.mem_of_getElem? (i := 0) rfl))) (hs _ (by decide +kernel)), List.forall_mem_cons.mpr ⟨sr_one (hts _ (tb_7 (List.mem_of_getElem? (i := 51) rfl))) (hs _ (by decide +kernel)), List.forall_mem_cons.mpr ⟨sr_one (hts _ (tb_7 (List.mem_of_getElem? (i := 54) rfl))) (hs _ (by decide +kernel)), List.forall_mem_cons.mpr ⟨sr_one (hts _ (tb_7 (List.mem_of_getElem? (i := 58) rfl))) (hs _ (by decide +kernel)), List.forall_mem_cons.mpr ⟨sr_one (hts _ (tb_7 (List.mem_of_getElem? (i := 94) rfl))) (hs _ (by decide +kernel)), fun _ h => nomatch h⟩⟩⟩⟩⟩⟩⟩⟩⟩⟩⟩⟩
  have hNC : NC s := List.forall_mem_cons.mpr ⟨va_Nc.of (hs (Cond.not (.castable "java/lang/IllegalArgumentException" "java/lang/IllegalStateException")) (by decide +kernel)), List.forall_mem_cons.mpr ⟨va_Nc.of (hs (Cond.not (.castable "java/lang/IllegalArgumentException" "java/lang/IndexOutOfBoundsException")) (by decide +kernel)), List.forall_mem_cons.mpr ⟨va_Nc.of (hs (Cond.not (.castable "java/lang/IllegalStateException" "java/lang/IllegalArgumentException")) (by decide +kernel)), List.forall_mem_cons.mpr ⟨va_Nc.of (hs (Cond.not (.castable "java/lang/IllegalStateException" "java/lang/IndexOutOfBoundsException")) (by decide +kernel)), List.forall_mem_cons.mpr ⟨va_Nc.of (hs (Cond.not (.castable "java/lang/IndexOutOfBoundsException" "java/lang/IllegalArgumentException")) (by decide +kernel)), List.forall_mem_cons.mpr ⟨va_Nc.of (hs (Cond.not (.castable "java/lang/IndexOutOfBoundsException" "java/lang/IllegalStateException")) (by decide +kernel)), fun _ h => nomatch h⟩⟩⟩⟩⟩⟩
  have hTX : TXS (SA s.heap.size) s s.heap := List.forall_mem_cons.mpr ⟨tx_one (n := 0) (bs := []) (by decide) (fun j => by rcases j with _ | j <;> rfl) (hts _ (tb_7 (List.mem_of_getElem? (i := 51) rfl))) (hs _ (by decide +kernel)) (hs _ (by decide +kernel)) (hs _ (by decide +kernel)) (hs _ (by decide +kernel)) (fun j hj => by first | omega | (rw [show j = 0 by omega]; exact hs _ (by decide +kernel))), List.forall_mem_cons.mpr ⟨tx_one (n := 1) (bs := [32]) (by decide) (fun j => by rcases j with _ | j <;> rfl) (hts _ (tb_7 (List.mem_of_getElem? (i := 54) rfl))) (hs _ (by decide +kernel)) (hs _ (by decide +kernel)) (hs _ (by decide +kernel)) (hs _ (by decide +kernel)) (fun j hj => by first | omega | (rw [show j = 0 by omega]; exact hs _ (by decide +kernel))), List.forall_mem_cons.mpr ⟨tx_one (n := 1) (bs := [42]) (by decide) (fun j => by rcases j with _ | j <;> rfl) (hts _ (tb_7 (List.mem_of_getElem? (i := 58) rfl))) (hs _ (by decide +kernel)) (hs _ (by decide +kernel)) (hs _ (by decide +kernel)) (hs _ (by decide +kernel)) (fun j hj => by first | omega | (rw [show j = 0 by omega]; exact hs _ (by decide +kernel))), List.forall_mem_cons.mpr ⟨tx_one (n := 1) (bs := [46]) (by decide) (fun j => by rcases j with _ | j <;> rfl) (hts _ (tb_7 (List.mem_of_getElem? (i := 94) rfl))) (hs _ (by decide +kernel)) (hs _ (by decide +kernel)) (hs _ (by decide +kernel)) (hs _ (by decide +kernel)) (fun j hj => by first | omega | (rw [show j = 0 by omega]; exact hs _ (by decide +kernel))), fun _ h => nomatch h⟩⟩⟩⟩
  have z1 : vx_Zq Bundle.tN "UNASSIGNED_STACK" Bundle.steD (SA s.heap.size) s s.heap := vx_Zqof (hts _ (tb_2 (List.mem_of_getElem? (i := 60) rfl))) (ht _ q_58) (hs (Cond.isRef (.static "java/lang/Throwable" "UNASSIGNED_STACK" "[Ljava/lang/StackTraceElement;")) (by decide +kernel)) SA_no
  have z2 : vx_Zq Bundle.tN "SUPPRESSED_SENTINEL" Bundle.listD (SA s.heap.size) s s.heap := vx_Zqof (hts _ (tb_2 (List.mem_of_getElem? (i := 62) rfl))) (ht _ q_58) (hs (Cond.isRef (.static "java/lang/Throwable" "SUPPRESSED_SENTINEL" "Ljava/util/List;")) (by decide +kernel)) SA_no
  exact ⟨_, cI, cL, cM, cB, ⟨hCK.tk, hCK.mk, hJK, CN.of hts, NW.of hts, XN.of hts, hSR, hNC, z1, z2, ⟨hCS, hD1, hD2⟩, hTX⟩, hCK, hO⟩
end STP
