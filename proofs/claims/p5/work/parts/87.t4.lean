set_option maxHeartbeats 2000000 in
theorem f_X9_size (μ : TMem) (a1 : Int32) (a2 : Int32) {Q : Int32 → TMem → Prop} {X : String → TMem → Prop} (h : ∀ (r : Int32) (μ9 : TMem), Fr 2 μ μ9 → Q r μ9) (hX : ∀ (E : String) (μ9 : TMem), E ∈ ex_IAS → Fr 2 μ μ9 → X E μ9) : wp_X9_size μ a1 a2 Q X := by
  show wp_X9_machineAt μ a1 (fun (k2 : Nat) (μ1 : TMem) => wp_X9_checkRange μ1 a2 (0 : Int32) (3 : Int32) (fun (μ3 : TMem) => wp_X9_makeOrThrow k2 57 μ3 a2 (fun (μ4 : TMem) => Q (μ4 57 1) μ4) X) X) X
  refine f_X9_machineAt μ a1 (fun k2 μ1 hk486 hf487 => ?_) (fun E9 μ9 e9 f9 => hX E9 μ9 (ex_sub (by decide) e9) (Fr.trans (Fr.rf) (Fr.up (by decide) f9)))
  refine f_X9_checkRange μ1 a2 (0 : Int32) (3 : Int32) (fun μ3 hf488 => ?_) (fun E9 μ9 e9 f9 => hX E9 μ9 (ex_sub (by decide) e9) (Fr.trans (Fr.trans (Fr.rf) (Fr.up (by decide) hf487)) (Fr.up (by decide) f9)))
  refine f_X9_makeOrThrow k2 hk486 57 rfl μ3 a2 (fun μ4 hf489 => ?_) (fun E9 μ9 e9 f9 => hX E9 μ9 (ex_sub (by decide) e9) (Fr.trans (Fr.trans (Fr.trans (Fr.rf) (Fr.up (by decide) hf487)) (Fr.up (by decide) hf488)) (Fr.up (by decide) f9)))
  exact h _ _ (Fr.trans (Fr.trans (Fr.trans (Fr.rf) (Fr.up (by decide) hf487)) (Fr.up (by decide) hf488)) (Fr.up (by decide) hf489))
set_option maxHeartbeats 2000000 in
theorem f_X9_kind (μ : TMem) (a1 : Int32) {Q : Int32 → TMem → Prop} {X : String → TMem → Prop} (h : ∀ (r : Int32) (μ9 : TMem), Fr 2 μ μ9 → Q r μ9) (hX : ∀ (E : String) (μ9 : TMem), E ∈ ex_IS → Fr 2 μ μ9 → X E μ9) : wp_X9_kind μ a1 Q X := by
  show wp_X9_machineAt μ a1 (fun (k2 : Nat) (μ1 : TMem) => wp_X9_makeOrThrow k2 57 μ1 (0 : Int32) (fun (μ3 : TMem) => (¬ (μ3 57 1) = (1 : Int32) → (wp_X5_isTakingLongOnes 57 μ3 (fun (r5 : Int32) => (r5 = 0 → (Q (2 : Int32) μ3)) ∧ (¬ r5 = 0 → (Q (3 : Int32) μ3))))) ∧ ((μ3 57 1) = (1 : Int32) → (wp_X5_isGoal 57 μ3 (0 : Int32) (fun (r9 : Int32) => (r9 = 0 → (Q (0 : Int32) μ3)) ∧ (¬ r9 = 0 → (Q (1 : Int32) μ3)))))) X) X
  refine f_X9_machineAt μ a1 (fun k2 μ1 hk490 hf491 => ?_) (fun E9 μ9 e9 f9 => hX E9 μ9 (ex_sub (by decide) e9) (Fr.trans (Fr.rf) (Fr.up (by decide) f9)))
  refine f_X9_makeOrThrow k2 hk490 57 rfl μ1 (0 : Int32) (fun μ3 hf492 => ?_) (fun E9 μ9 e9 f9 => hX E9 μ9 (ex_sub (by decide) e9) (Fr.trans (Fr.trans (Fr.rf) (Fr.up (by decide) hf491)) (Fr.up (by decide) f9)))
  refine ⟨fun c493 => ?_, fun c494 => ?_⟩
  · refine f_X5_isTakingLongOnes 57 rfl μ3 (fun r5 b495 => ?_)
    refine ⟨fun c496 => ?_, fun c497 => ?_⟩
    · exact h _ _ (Fr.trans (Fr.trans (Fr.rf) (Fr.up (by decide) hf491)) (Fr.up (by decide) hf492))
    · exact h _ _ (Fr.trans (Fr.trans (Fr.rf) (Fr.up (by decide) hf491)) (Fr.up (by decide) hf492))
  · refine f_X5_isGoal 57 rfl μ3 (0 : Int32) (fun r9 b498 => ?_)
    refine ⟨fun c499 => ?_, fun c500 => ?_⟩
    · exact h _ _ (Fr.trans (Fr.trans (Fr.rf) (Fr.up (by decide) hf491)) (Fr.up (by decide) hf492))
    · exact h _ _ (Fr.trans (Fr.trans (Fr.rf) (Fr.up (by decide) hf491)) (Fr.up (by decide) hf492))
set_option maxHeartbeats 2000000 in
theorem f_X9_many (μ : TMem) (a1 : Int32) (a2 : Int32) (a3 : Int32) {Q : Int32 → TMem → Prop} {X : String → TMem → Prop} (h : ∀ (r : Int32) (μ9 : TMem), Fr 2 μ μ9 → Q r μ9) (hX : ∀ (E : String) (μ9 : TMem), E ∈ ex_IAS → Fr 2 μ μ9 → X E μ9) : wp_X9_many μ a1 a2 a3 Q X := by
  show wp_X9_machineAt μ a1 (fun (k2 : Nat) (μ1 : TMem) => wp_X9_checkRange μ1 a3 (0 : Int32) (1 : Int32) (fun (μ3 : TMem) => (¬ a3 = (1 : Int32) → (wp_X9_checkRange μ3 a2 (0 : Int32) (12 : Int32) (fun (μ5 : TMem) => (¬ a3 = (1 : Int32) → (wp_X9_makeOrThrow k2 57 μ5 (0 : Int32) (fun (μ7 : TMem) => wp_X8_count 57 μ7 (fun (μ8 : TMem) => wp_X8_from μ8 (0 : Int32) a2 (fun (r9 : Int32) => Q r9 μ8))) X)) ∧ (a3 = (1 : Int32) → (wp_X2_countOneByOne k2 μ5 a2 (fun (r12 : Int32) => Q r12 μ5)))) X)) ∧ (a3 = (1 : Int32) → (wp_X9_checkRange μ3 a2 (0 : Int32) (5 : Int32) (fun (μ15 : TMem) => (¬ a3 = (1 : Int32) → (wp_X9_makeOrThrow k2 57 μ15 (0 : Int32) (fun (μ17 : TMem) => wp_X8_count 57 μ17 (fun (μ18 : TMem) => wp_X8_from μ18 (0 : Int32) a2 (fun (r19 : Int32) => Q r19 μ18))) X)) ∧ (a3 = (1 : Int32) → (wp_X2_countOneByOne k2 μ15 a2 (fun (r22 : Int32) => Q r22 μ15)))) X))) X) X
  refine f_X9_machineAt μ a1 (fun k2 μ1 hk501 hf502 => ?_) (fun E9 μ9 e9 f9 => hX E9 μ9 (ex_sub (by decide) e9) (Fr.trans (Fr.rf) (Fr.up (by decide) f9)))
  refine f_X9_checkRange μ1 a3 (0 : Int32) (1 : Int32) (fun μ3 hf503 => ?_) (fun E9 μ9 e9 f9 => hX E9 μ9 (ex_sub (by decide) e9) (Fr.trans (Fr.trans (Fr.rf) (Fr.up (by decide) hf502)) (Fr.up (by decide) f9)))
  refine ⟨fun c504 => ?_, fun c505 => ?_⟩
  · refine f_X9_checkRange μ3 a2 (0 : Int32) (12 : Int32) (fun μ5 hf506 => ?_) (fun E9 μ9 e9 f9 => hX E9 μ9 (ex_sub (by decide) e9) (Fr.trans (Fr.trans (Fr.trans (Fr.rf) (Fr.up (by decide) hf502)) (Fr.up (by decide) hf503)) (Fr.up (by decide) f9)))
    refine ⟨fun c507 => ?_, fun c508 => ?_⟩
    · refine f_X9_makeOrThrow k2 hk501 57 rfl μ5 (0 : Int32) (fun μ7 hf509 => ?_) (fun E9 μ9 e9 f9 => hX E9 μ9 (ex_sub (by decide) e9) (Fr.trans (Fr.trans (Fr.trans (Fr.trans (Fr.rf) (Fr.up (by decide) hf502)) (Fr.up (by decide) hf503)) (Fr.up (by decide) hf506)) (Fr.up (by decide) f9)))
      refine f_X8_count 57 rfl μ7 (fun μ8 hf510 => ?_)
      refine f_X8_from μ8 (0 : Int32) a2 (fun r9 => ?_)
      exact h _ _ (Fr.trans (Fr.trans (Fr.trans (Fr.trans (Fr.trans (Fr.rf) (Fr.up (by decide) hf502)) (Fr.up (by decide) hf503)) (Fr.up (by decide) hf506)) (Fr.up (by decide) hf509)) (Fr.up (by decide) hf510))
    · refine f_X2_countOneByOne k2 hk501 μ5 a2 (fun r12 => ?_)
      exact h _ _ (Fr.trans (Fr.trans (Fr.trans (Fr.rf) (Fr.up (by decide) hf502)) (Fr.up (by decide) hf503)) (Fr.up (by decide) hf506))
  · refine f_X9_checkRange μ3 a2 (0 : Int32) (5 : Int32) (fun μ15 hf511 => ?_) (fun E9 μ9 e9 f9 => hX E9 μ9 (ex_sub (by decide) e9) (Fr.trans (Fr.trans (Fr.trans (Fr.rf) (Fr.up (by decide) hf502)) (Fr.up (by decide) hf503)) (Fr.up (by decide) f9)))
    refine ⟨fun c512 => ?_, fun c513 => ?_⟩
    · refine f_X9_makeOrThrow k2 hk501 57 rfl μ15 (0 : Int32) (fun μ17 hf514 => ?_) (fun E9 μ9 e9 f9 => hX E9 μ9 (ex_sub (by decide) e9) (Fr.trans (Fr.trans (Fr.trans (Fr.trans (Fr.rf) (Fr.up (by decide) hf502)) (Fr.up (by decide) hf503)) (Fr.up (by decide) hf511)) (Fr.up (by decide) f9)))
      refine f_X8_count 57 rfl μ17 (fun μ18 hf515 => ?_)
      refine f_X8_from μ18 (0 : Int32) a2 (fun r19 => ?_)
      exact h _ _ (Fr.trans (Fr.trans (Fr.trans (Fr.trans (Fr.trans (Fr.rf) (Fr.up (by decide) hf502)) (Fr.up (by decide) hf503)) (Fr.up (by decide) hf511)) (Fr.up (by decide) hf514)) (Fr.up (by decide) hf515))
    · refine f_X2_countOneByOne k2 hk501 μ15 a2 (fun r22 => ?_)
      exact h _ _ (Fr.trans (Fr.trans (Fr.trans (Fr.rf) (Fr.up (by decide) hf502)) (Fr.up (by decide) hf503)) (Fr.up (by decide) hf511))
set_option maxHeartbeats 2000000 in
theorem f_X9_meetOrThrow (k1 : Nat) (hk1 : kd k1 = 2) (k2 : Nat) (hk2 : kd k2 = 2) (μ : TMem)  {Q : TMem → Prop} {X : String → TMem → Prop} (h : ∀ μ9 : TMem, Fr 2 μ μ9 → Q μ9) (hX : ∀ (E : String) (μ9 : TMem), E ∈ ex_S → Fr 2 μ μ9 → X E μ9) : wp_X9_meetOrThrow k1 k2 μ Q X := by
  show wp_X9_meetPairs k1 k2 μ (200 : Int32) (0 : Int32) (fun (r2 : Int32) (μ1 : TMem) => (¬ r2 = 0 → (Q μ1)) ∧ (r2 = 0 → (X "java/lang/IllegalStateException" μ1)))
  refine f_X9_meetPairs k1 hk1 k2 hk2 μ (200 : Int32) (0 : Int32) (fun r2 μ1 b516 hf517 => ?_)
  refine ⟨fun c518 => ?_, fun c519 => ?_⟩
  · exact h _ (Fr.trans (Fr.rf) (Fr.up (by decide) hf517))
  · exact hX _ _ (by decide) (Fr.trans (Fr.rf) (Fr.up (by decide) hf517))
set_option maxHeartbeats 2000000 in
theorem f_X9_isAlike (μ : TMem) (a1 : Int32) (a2 : Int32) (a3 : Int32) {Q : Int32 → TMem → Prop} {X : String → TMem → Prop} (h : ∀ (r : Int32) (μ9 : TMem), isB r → Fr 2 μ μ9 → Q r μ9) (hX : ∀ (E : String) (μ9 : TMem), E ∈ ex_IAS → Fr 2 μ μ9 → X E μ9) : wp_X9_isAlike μ a1 a2 a3 Q X := by
  show wp_X9_machineAt μ a1 (fun (k2 : Nat) (μ1 : TMem) => wp_X9_machineAt μ1 a2 (fun (k4 : Nat) (μ3 : TMem) => wp_X9_checkRange μ3 a3 (0 : Int32) (1 : Int32) (fun (μ5 : TMem) => (¬ a3 = 0 → (wp_X9_makeOrThrow k2 51 μ5 (0 : Int32) (fun (μ7 : TMem) => wp_X9_makeOrThrow k4 53 μ7 (0 : Int32) (fun (μ8 : TMem) => wp_X5_isSameAs 51 53 μ8 (fun (r9 : Int32) => isB r9 ∧ Q r9 μ8)) X) X)) ∧ (a3 = 0 → (wp_X9_meetOrThrow k2 k4 μ5 (fun (μ13 : TMem) => (¬ (μ13 35 9) = (-1 : Int32) → (Q (0 : Int32) μ13)) ∧ ((μ13 35 9) = (-1 : Int32) → (Q (1 : Int32) μ13))) X))) X) X) X
  refine f_X9_machineAt μ a1 (fun k2 μ1 hk520 hf521 => ?_) (fun E9 μ9 e9 f9 => hX E9 μ9 (ex_sub (by decide) e9) (Fr.trans (Fr.rf) (Fr.up (by decide) f9)))
  refine f_X9_machineAt μ1 a2 (fun k4 μ3 hk522 hf523 => ?_) (fun E9 μ9 e9 f9 => hX E9 μ9 (ex_sub (by decide) e9) (Fr.trans (Fr.trans (Fr.rf) (Fr.up (by decide) hf521)) (Fr.up (by decide) f9)))
  refine f_X9_checkRange μ3 a3 (0 : Int32) (1 : Int32) (fun μ5 hf524 => ?_) (fun E9 μ9 e9 f9 => hX E9 μ9 (ex_sub (by decide) e9) (Fr.trans (Fr.trans (Fr.trans (Fr.rf) (Fr.up (by decide) hf521)) (Fr.up (by decide) hf523)) (Fr.up (by decide) f9)))
  refine ⟨fun c525 => ?_, fun c526 => ?_⟩
  · refine f_X9_makeOrThrow k2 hk520 51 rfl μ5 (0 : Int32) (fun μ7 hf527 => ?_) (fun E9 μ9 e9 f9 => hX E9 μ9 (ex_sub (by decide) e9) (Fr.trans (Fr.trans (Fr.trans (Fr.trans (Fr.rf) (Fr.up (by decide) hf521)) (Fr.up (by decide) hf523)) (Fr.up (by decide) hf524)) (Fr.up (by decide) f9)))
    refine f_X9_makeOrThrow k4 hk522 53 rfl μ7 (0 : Int32) (fun μ8 hf528 => ?_) (fun E9 μ9 e9 f9 => hX E9 μ9 (ex_sub (by decide) e9) (Fr.trans (Fr.trans (Fr.trans (Fr.trans (Fr.trans (Fr.rf) (Fr.up (by decide) hf521)) (Fr.up (by decide) hf523)) (Fr.up (by decide) hf524)) (Fr.up (by decide) hf527)) (Fr.up (by decide) f9)))
    refine f_X5_isSameAs 51 rfl 53 rfl μ8 (fun r9 b529 => ?_)
    refine ⟨(by first | assumption | exact Or.inl rfl | exact Or.inr rfl | exact isB_or (by assumption) (by first | assumption | exact Or.inl rfl | exact Or.inr rfl)), ?_⟩
    exact h _ _ (by first | assumption | exact Or.inl rfl | exact Or.inr rfl | exact isB_or (by assumption) (by first | assumption | exact Or.inl rfl | exact Or.inr rfl)) (Fr.trans (Fr.trans (Fr.trans (Fr.trans (Fr.trans (Fr.rf) (Fr.up (by decide) hf521)) (Fr.up (by decide) hf523)) (Fr.up (by decide) hf524)) (Fr.up (by decide) hf527)) (Fr.up (by decide) hf528))
  · refine f_X9_meetOrThrow k2 hk520 k4 hk522 μ5 (fun μ13 hf530 => ?_) (fun E9 μ9 e9 f9 => hX E9 μ9 (ex_sub (by decide) e9) (Fr.trans (Fr.trans (Fr.trans (Fr.trans (Fr.rf) (Fr.up (by decide) hf521)) (Fr.up (by decide) hf523)) (Fr.up (by decide) hf524)) (Fr.up (by decide) f9)))
    refine ⟨fun c531 => ?_, fun c532 => ?_⟩
    · exact h _ _ (by first | assumption | exact Or.inl rfl | exact Or.inr rfl | exact isB_or (by assumption) (by first | assumption | exact Or.inl rfl | exact Or.inr rfl)) (Fr.trans (Fr.trans (Fr.trans (Fr.trans (Fr.rf) (Fr.up (by decide) hf521)) (Fr.up (by decide) hf523)) (Fr.up (by decide) hf524)) (Fr.up (by decide) hf530))
    · exact h _ _ (by first | assumption | exact Or.inl rfl | exact Or.inr rfl | exact isB_or (by assumption) (by first | assumption | exact Or.inl rfl | exact Or.inr rfl)) (Fr.trans (Fr.trans (Fr.trans (Fr.trans (Fr.rf) (Fr.up (by decide) hf521)) (Fr.up (by decide) hf523)) (Fr.up (by decide) hf524)) (Fr.up (by decide) hf530))
set_option maxHeartbeats 2000000 in
theorem f_X9_pairs (μ : TMem) (a1 : Int32) (a2 : Int32) {Q : Int32 → TMem → Prop} {X : String → TMem → Prop} (h : ∀ (r : Int32) (μ9 : TMem), Fr 2 μ μ9 → Q r μ9) (hX : ∀ (E : String) (μ9 : TMem), E ∈ ex_IS → Fr 2 μ μ9 → X E μ9) : wp_X9_pairs μ a1 a2 Q X := by
  show wp_X9_machineAt μ a1 (fun (k2 : Nat) (μ1 : TMem) => wp_X9_machineAt μ1 a2 (fun (k4 : Nat) (μ3 : TMem) => wp_X9_meetOrThrow k2 k4 μ3 (fun (μ5 : TMem) => Q (μ5 35 8) μ5) X) X) X
  refine f_X9_machineAt μ a1 (fun k2 μ1 hk533 hf534 => ?_) (fun E9 μ9 e9 f9 => hX E9 μ9 (ex_sub (by decide) e9) (Fr.trans (Fr.rf) (Fr.up (by decide) f9)))
  refine f_X9_machineAt μ1 a2 (fun k4 μ3 hk535 hf536 => ?_) (fun E9 μ9 e9 f9 => hX E9 μ9 (ex_sub (by decide) e9) (Fr.trans (Fr.trans (Fr.rf) (Fr.up (by decide) hf534)) (Fr.up (by decide) f9)))
  refine f_X9_meetOrThrow k2 hk533 k4 hk535 μ3 (fun μ5 hf537 => ?_) (fun E9 μ9 e9 f9 => hX E9 μ9 (ex_sub (by decide) e9) (Fr.trans (Fr.trans (Fr.trans (Fr.rf) (Fr.up (by decide) hf534)) (Fr.up (by decide) hf536)) (Fr.up (by decide) f9)))
  exact h _ _ (Fr.trans (Fr.trans (Fr.trans (Fr.rf) (Fr.up (by decide) hf534)) (Fr.up (by decide) hf536)) (Fr.up (by decide) hf537))
set_option maxHeartbeats 2000000 in
theorem f_X9_together (μ : TMem) (a1 : Int32) (a2 : Int32) (a3 : Int32) (a4 : Int32) {Q : Int32 → TMem → Prop} {X : String → TMem → Prop} (h : ∀ (r : Int32) (μ9 : TMem), Fr 2 μ μ9 → Q r μ9) (hX : ∀ (E : String) (μ9 : TMem), E ∈ ex_IAS → Fr 2 μ μ9 → X E μ9) : wp_X9_together μ a1 a2 a3 a4 Q X := by
  show wp_X9_machineAt μ a1 (fun (k2 : Nat) (μ1 : TMem) => wp_X9_machineAt μ1 a2 (fun (k4 : Nat) (μ3 : TMem) => wp_X9_checkRange μ3 a3 (0 : Int32) (3 : Int32) (fun (μ5 : TMem) => wp_X9_checkRange μ5 a4 (-1 : Int32) (12 : Int32) (fun (μ6 : TMem) => wp_X9_putTogether k2 k4 μ6 a3 (fun (r8 : Int32) (μ7 : TMem) => (¬ r8 = 0 → ((¬ a4 = (-1 : Int32) → (wp_X8_count 57 μ7 (fun (μ11 : TMem) => wp_X8_from μ11 (0 : Int32) a4 (fun (r12 : Int32) => Q r12 μ11)))) ∧ (a4 = (-1 : Int32) → (Q (μ7 57 1) μ7)))) ∧ (r8 = 0 → (X "java/lang/IllegalStateException" μ7)))) X) X) X) X
  refine f_X9_machineAt μ a1 (fun k2 μ1 hk538 hf539 => ?_) (fun E9 μ9 e9 f9 => hX E9 μ9 (ex_sub (by decide) e9) (Fr.trans (Fr.rf) (Fr.up (by decide) f9)))
  refine f_X9_machineAt μ1 a2 (fun k4 μ3 hk540 hf541 => ?_) (fun E9 μ9 e9 f9 => hX E9 μ9 (ex_sub (by decide) e9) (Fr.trans (Fr.trans (Fr.rf) (Fr.up (by decide) hf539)) (Fr.up (by decide) f9)))
  refine f_X9_checkRange μ3 a3 (0 : Int32) (3 : Int32) (fun μ5 hf542 => ?_) (fun E9 μ9 e9 f9 => hX E9 μ9 (ex_sub (by decide) e9) (Fr.trans (Fr.trans (Fr.trans (Fr.rf) (Fr.up (by decide) hf539)) (Fr.up (by decide) hf541)) (Fr.up (by decide) f9)))
  refine f_X9_checkRange μ5 a4 (-1 : Int32) (12 : Int32) (fun μ6 hf543 => ?_) (fun E9 μ9 e9 f9 => hX E9 μ9 (ex_sub (by decide) e9) (Fr.trans (Fr.trans (Fr.trans (Fr.trans (Fr.rf) (Fr.up (by decide) hf539)) (Fr.up (by decide) hf541)) (Fr.up (by decide) hf542)) (Fr.up (by decide) f9)))
  refine f_X9_putTogether k2 hk538 k4 hk540 μ6 a3 (fun r8 μ7 b544 hf545 => ?_)
  refine ⟨fun c546 => ?_, fun c547 => ?_⟩
  · refine ⟨fun c548 => ?_, fun c549 => ?_⟩
    · refine f_X8_count 57 rfl μ7 (fun μ11 hf550 => ?_)
      refine f_X8_from μ11 (0 : Int32) a4 (fun r12 => ?_)
      exact h _ _ (Fr.trans (Fr.trans (Fr.trans (Fr.trans (Fr.trans (Fr.trans (Fr.rf) (Fr.up (by decide) hf539)) (Fr.up (by decide) hf541)) (Fr.up (by decide) hf542)) (Fr.up (by decide) hf543)) (Fr.up (by decide) hf545)) (Fr.up (by decide) hf550))
    · exact h _ _ (Fr.trans (Fr.trans (Fr.trans (Fr.trans (Fr.trans (Fr.rf) (Fr.up (by decide) hf539)) (Fr.up (by decide) hf541)) (Fr.up (by decide) hf542)) (Fr.up (by decide) hf543)) (Fr.up (by decide) hf545))
  · exact hX _ _ (by decide) (Fr.trans (Fr.trans (Fr.trans (Fr.trans (Fr.trans (Fr.rf) (Fr.up (by decide) hf539)) (Fr.up (by decide) hf541)) (Fr.up (by decide) hf542)) (Fr.up (by decide) hf543)) (Fr.up (by decide) hf545))
set_option maxHeartbeats 2000000 in
theorem f_X9_house (μ : TMem) (a1 : Int32) {Q : Int32 → TMem → Prop} {X : String → TMem → Prop} (h : ∀ (r : Int32) (μ9 : TMem), Fr 0 μ μ9 → Q r μ9) (hX : ∀ (E : String) (μ9 : TMem), E ∈ ex_A → Fr 0 μ μ9 → X E μ9) : wp_X9_house μ a1 Q X := by
  show wp_X9_checkRange μ a1 (0 : Int32) (2 : Int32) (fun (μ1 : TMem) => (a1 = (0 : Int32) → (Q (μ1 0 11) μ1)) ∧ (¬ a1 = (0 : Int32) → (a1 = (1 : Int32) → (Q (μ1 0 12) μ1)) ∧ (¬ a1 = (1 : Int32) → (Q (μ1 0 13) μ1)))) X
  refine f_X9_checkRange μ a1 (0 : Int32) (2 : Int32) (fun μ1 hf551 => ?_) (fun E9 μ9 e9 f9 => hX E9 μ9 e9 (Fr.trans (Fr.rf) (Fr.up (by decide) f9)))
  refine ⟨fun c552 => ?_, fun c553 => ?_⟩
  · exact h _ _ (Fr.trans (Fr.rf) (Fr.up (by decide) hf551))
  · refine ⟨fun c554 => ?_, fun c555 => ?_⟩
    · exact h _ _ (Fr.trans (Fr.rf) (Fr.up (by decide) hf551))
    · exact h _ _ (Fr.trans (Fr.rf) (Fr.up (by decide) hf551))
set_option maxHeartbeats 2000000 in
theorem f_X9_isSound (μ : TMem)  {Q : Int32 → TMem → Prop} {X : String → TMem → Prop} (h : ∀ (r : Int32) (μ9 : TMem), isB r → Fr 2 μ μ9 → Q r μ9) (hX : ∀ (E : String) (μ9 : TMem), E ∈ ex_ → Fr 2 μ μ9 → X E μ9) : wp_X9_isSound μ Q X := by
  show wp_X9_machineAt μ (0 : Int32) (fun (k2 : Nat) (μ1 : TMem) => wp_X3_makeBy k2 57 μ1 (0 : Int32) (fun (r4 : Int32) (μ3 : TMem) => (¬ r4 = 0 → (wp_X3_makeBy k2 51 μ3 (1 : Int32) (fun (r7 : Int32) (μ6 : TMem) => (r7 = 0 → (Q (0 : Int32) μ6)) ∧ (¬ r7 = 0 → (wp_X5_isSameAs 51 57 μ6 (fun (r9 : Int32) => (¬ r9 = 0 → (wp_X3_makeBy k2 51 μ6 (2 : Int32) (fun (r14 : Int32) (μ13 : TMem) => (r14 = 0 → (wp_X2_becomePlain 12 57 μ13 (fun (μ16 : TMem) => wp_X3_makeBy 12 51 μ16 (0 : Int32) (fun (r18 : Int32) (μ17 : TMem) => (r18 = 0 → (Q (0 : Int32) μ17)) ∧ (¬ r18 = 0 → (wp_X5_isSameAs 51 57 μ17 (fun (r20 : Int32) => (¬ r20 = 0 → (wp_X9_isTakingTheSame k2 μ17 (fun (r24 : Int32) => isB r24 ∧ Q r24 μ17))) ∧ (r20 = 0 → (Q (0 : Int32) μ17))))))))) ∧ (¬ r14 = 0 → (wp_X5_isSameAs 51 57 μ13 (fun (r28 : Int32) => (¬ r28 = 0 → (wp_X2_becomePlain 12 57 μ13 (fun (μ32 : TMem) => wp_X3_makeBy 12 51 μ32 (0 : Int32) (fun (r34 : Int32) (μ33 : TMem) => (r34 = 0 → (Q (0 : Int32) μ33)) ∧ (¬ r34 = 0 → (wp_X5_isSameAs 51 57 μ33 (fun (r36 : Int32) => (¬ r36 = 0 → (wp_X9_isTakingTheSame k2 μ33 (fun (r40 : Int32) => isB r40 ∧ Q r40 μ33))) ∧ (r36 = 0 → (Q (0 : Int32) μ33))))))))) ∧ (r28 = 0 → (Q (0 : Int32) μ13)))))))) ∧ (r9 = 0 → (Q (0 : Int32) μ6)))))))) ∧ (r4 = 0 → (Q (1 : Int32) μ3)))) X
  refine f_machineAt0 μ (fun k2 μ1 hk556 hf557 => ?_)
  refine f_X3_makeBy k2 hk556 57 rfl μ1 (0 : Int32) (fun r4 μ3 b558 hf559 => ?_)
  refine ⟨fun c560 => ?_, fun c561 => ?_⟩
  · refine f_X3_makeBy k2 hk556 51 rfl μ3 (1 : Int32) (fun r7 μ6 b562 hf563 => ?_)
    refine ⟨fun c564 => ?_, fun c565 => ?_⟩
    · exact h _ _ (by first | assumption | exact Or.inl rfl | exact Or.inr rfl | exact isB_or (by assumption) (by first | assumption | exact Or.inl rfl | exact Or.inr rfl)) (Fr.trans (Fr.trans (Fr.trans (Fr.rf) (Fr.up (by decide) hf557)) (Fr.up (by decide) hf559)) (Fr.up (by decide) hf563))
    · refine f_X5_isSameAs 51 rfl 57 rfl μ6 (fun r9 b566 => ?_)
      refine ⟨fun c567 => ?_, fun c568 => ?_⟩
      · refine f_X3_makeBy k2 hk556 51 rfl μ6 (2 : Int32) (fun r14 μ13 b569 hf570 => ?_)
        refine ⟨fun c571 => ?_, fun c572 => ?_⟩
        · refine f_X2_becomePlain 12 rfl 57 rfl μ13 (fun μ16 hf573 => ?_)
          refine f_X3_makeBy 12 rfl 51 rfl μ16 (0 : Int32) (fun r18 μ17 b574 hf575 => ?_)
          refine ⟨fun c576 => ?_, fun c577 => ?_⟩
          · exact h _ _ (by first | assumption | exact Or.inl rfl | exact Or.inr rfl | exact isB_or (by assumption) (by first | assumption | exact Or.inl rfl | exact Or.inr rfl)) (Fr.trans (Fr.trans (Fr.trans (Fr.trans (Fr.trans (Fr.trans (Fr.rf) (Fr.up (by decide) hf557)) (Fr.up (by decide) hf559)) (Fr.up (by decide) hf563)) (Fr.up (by decide) hf570)) (Fr.up (by decide) hf573)) (Fr.up (by decide) hf575))
          · refine f_X5_isSameAs 51 rfl 57 rfl μ17 (fun r20 b578 => ?_)
            refine ⟨fun c579 => ?_, fun c580 => ?_⟩
            · refine f_X9_isTakingTheSame k2 hk556 μ17 (fun r24 b581 => ?_)
              refine ⟨(by first | assumption | exact Or.inl rfl | exact Or.inr rfl | exact isB_or (by assumption) (by first | assumption | exact Or.inl rfl | exact Or.inr rfl)), ?_⟩
              exact h _ _ (by first | assumption | exact Or.inl rfl | exact Or.inr rfl | exact isB_or (by assumption) (by first | assumption | exact Or.inl rfl | exact Or.inr rfl)) (Fr.trans (Fr.trans (Fr.trans (Fr.trans (Fr.trans (Fr.trans (Fr.rf) (Fr.up (by decide) hf557)) (Fr.up (by decide) hf559)) (Fr.up (by decide) hf563)) (Fr.up (by decide) hf570)) (Fr.up (by decide) hf573)) (Fr.up (by decide) hf575))
            · exact h _ _ (by first | assumption | exact Or.inl rfl | exact Or.inr rfl | exact isB_or (by assumption) (by first | assumption | exact Or.inl rfl | exact Or.inr rfl)) (Fr.trans (Fr.trans (Fr.trans (Fr.trans (Fr.trans (Fr.trans (Fr.rf) (Fr.up (by decide) hf557)) (Fr.up (by decide) hf559)) (Fr.up (by decide) hf563)) (Fr.up (by decide) hf570)) (Fr.up (by decide) hf573)) (Fr.up (by decide) hf575))
        · refine f_X5_isSameAs 51 rfl 57 rfl μ13 (fun r28 b582 => ?_)
          refine ⟨fun c583 => ?_, fun c584 => ?_⟩
          · refine f_X2_becomePlain 12 rfl 57 rfl μ13 (fun μ32 hf585 => ?_)
            refine f_X3_makeBy 12 rfl 51 rfl μ32 (0 : Int32) (fun r34 μ33 b586 hf587 => ?_)
            refine ⟨fun c588 => ?_, fun c589 => ?_⟩
            · exact h _ _ (by first | assumption | exact Or.inl rfl | exact Or.inr rfl | exact isB_or (by assumption) (by first | assumption | exact Or.inl rfl | exact Or.inr rfl)) (Fr.trans (Fr.trans (Fr.trans (Fr.trans (Fr.trans (Fr.trans (Fr.rf) (Fr.up (by decide) hf557)) (Fr.up (by decide) hf559)) (Fr.up (by decide) hf563)) (Fr.up (by decide) hf570)) (Fr.up (by decide) hf585)) (Fr.up (by decide) hf587))
            · refine f_X5_isSameAs 51 rfl 57 rfl μ33 (fun r36 b590 => ?_)
              refine ⟨fun c591 => ?_, fun c592 => ?_⟩
              · refine f_X9_isTakingTheSame k2 hk556 μ33 (fun r40 b593 => ?_)
                refine ⟨(by first | assumption | exact Or.inl rfl | exact Or.inr rfl | exact isB_or (by assumption) (by first | assumption | exact Or.inl rfl | exact Or.inr rfl)), ?_⟩
                exact h _ _ (by first | assumption | exact Or.inl rfl | exact Or.inr rfl | exact isB_or (by assumption) (by first | assumption | exact Or.inl rfl | exact Or.inr rfl)) (Fr.trans (Fr.trans (Fr.trans (Fr.trans (Fr.trans (Fr.trans (Fr.rf) (Fr.up (by decide) hf557)) (Fr.up (by decide) hf559)) (Fr.up (by decide) hf563)) (Fr.up (by decide) hf570)) (Fr.up (by decide) hf585)) (Fr.up (by decide) hf587))
              · exact h _ _ (by first | assumption | exact Or.inl rfl | exact Or.inr rfl | exact isB_or (by assumption) (by first | assumption | exact Or.inl rfl | exact Or.inr rfl)) (Fr.trans (Fr.trans (Fr.trans (Fr.trans (Fr.trans (Fr.trans (Fr.rf) (Fr.up (by decide) hf557)) (Fr.up (by decide) hf559)) (Fr.up (by decide) hf563)) (Fr.up (by decide) hf570)) (Fr.up (by decide) hf585)) (Fr.up (by decide) hf587))
          · exact h _ _ (by first | assumption | exact Or.inl rfl | exact Or.inr rfl | exact isB_or (by assumption) (by first | assumption | exact Or.inl rfl | exact Or.inr rfl)) (Fr.trans (Fr.trans (Fr.trans (Fr.trans (Fr.rf) (Fr.up (by decide) hf557)) (Fr.up (by decide) hf559)) (Fr.up (by decide) hf563)) (Fr.up (by decide) hf570))
      · exact h _ _ (by first | assumption | exact Or.inl rfl | exact Or.inr rfl | exact isB_or (by assumption) (by first | assumption | exact Or.inl rfl | exact Or.inr rfl)) (Fr.trans (Fr.trans (Fr.trans (Fr.rf) (Fr.up (by decide) hf557)) (Fr.up (by decide) hf559)) (Fr.up (by decide) hf563))
  · exact h _ _ (by first | assumption | exact Or.inl rfl | exact Or.inr rfl | exact isB_or (by assumption) (by first | assumption | exact Or.inl rfl | exact Or.inr rfl)) (Fr.trans (Fr.trans (Fr.rf) (Fr.up (by decide) hf557)) (Fr.up (by decide) hf559))
set_option maxHeartbeats 2000000 in
theorem fl_wpl_X9_digest_6 (μ : TMem) {K32 : Int64 → Prop} (hK32 : ∀ (u0 : Int64), K32 u0) : ∀ (n : Nat) (v2 : Int32) (v3 : Int64), (((4 : Int32)).toInt - (v2).toInt).toNat < n → 0 ≤ (v2).toInt → wpl_X9_digest_6 μ K32 n v2 v3 := by
  intro n
  induction n with
  | zero => intro v2 v3 hm; exact absurd hm (Nat.not_lt_zero _)
  | succ n ih =>
    intro v2 v3 hm hi
    show ((4 : Int32) ≤ v2 → (K32 v3)) ∧ (¬ (4 : Int32) ≤ v2 → (vp_in v2 4 ∧ (wp_X9_addMachine (2 + 2 * v2.toNatClampNeg) μ v3 (fun (r6 : Int64) => wpl_X9_digest_6 μ K32 n (v2 + (1 : Int32)) r6))))
    refine ⟨fun c_ex => ?_, fun c_in => ?_⟩
    · exact hK32 v3
    have c_lt : ¬ ((4 : Int32)) ≤ v2 := c_in
    have hv594 : vp_in v2 4 := (by first | exact vp_a (by assumption) (by assumption) (tl_s _) | exact vp_b (by assumption) (by assumption) (tl_s _) | exact vp_a (n := 4) (by assumption) (by assumption) (by decide) | exact vp_b (n := 4) (by assumption) (by assumption) (by decide) | exact vp_c (by assumption) (by assumption))
    refine ⟨hv594, ?_⟩
    refine f_X9_addMachine (2 + 2 * v2.toNatClampNeg) (kd_ma _ (vp_lt (by assumption))) μ v3 (fun r6 => ?_)
    exact ih (v2 + (1 : Int32)) r6 (lt_m c_lt (by omega)) (lt_p (by assumption) c_lt)
set_option maxHeartbeats 2000000 in
theorem f_X9_digest (μ : TMem)  {Q : Int64 → TMem → Prop} {X : String → TMem → Prop} (h : ∀ (r : Int64) (μ9 : TMem), Fr 2 μ μ9 → Q r μ9) (hX : ∀ (E : String) (μ9 : TMem), E ∈ ex_ → Fr 2 μ μ9 → X E μ9) : wp_X9_digest μ Q X := by
  show ∃ n0x, wpl_X9_digest_6 μ (fun (u10 : Int64) => wp_X9_isSound μ (fun (r12 : Int32) (μ11 : TMem) => (r12 = 0 → (Q ((((((((u10 * (31 : Int64)) + (μ 0 11).toInt64) * (31 : Int64)) + (μ 0 12).toInt64) * (31 : Int64)) + (μ 0 13).toInt64) * (31 : Int64)) + (0 : Int32).toInt64) μ11)) ∧ (¬ r12 = 0 → (Q ((((((((u10 * (31 : Int64)) + (μ 0 11).toInt64) * (31 : Int64)) + (μ 0 12).toInt64) * (31 : Int64)) + (μ 0 13).toInt64) * (31 : Int64)) + (1 : Int32).toInt64) μ11))) X) n0x (0 : Int32) (8025 : Int64)
  refine ⟨_, fl_wpl_X9_digest_6 μ ?_ _ (0 : Int32) (8025 : Int64) (Nat.lt_succ_self _) (by first | decide | omega)⟩
  · intro u10
    refine f_X9_isSound μ (fun r12 μ11 b595 hf596 => ?_) (fun E9 μ9 e9 f9 => hX E9 μ9 e9 (Fr.trans (Fr.rf) (Fr.up (by decide) f9)))
    refine ⟨fun c597 => ?_, fun c598 => ?_⟩
    · exact h _ _ (Fr.trans (Fr.rf) (Fr.up (by decide) hf596))
    · exact h _ _ (Fr.trans (Fr.rf) (Fr.up (by decide) hf596))
