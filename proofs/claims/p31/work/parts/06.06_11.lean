/-! part 06.tlib -/
section
section TLB
abbrev TMem : Type := Nat → Nat → Int32
def tms (μ : TMem) (k i : Nat) (v : Int32) : TMem := fun j => if j = k then upd (μ k) i v else μ j
def tkl : List Nat := [8, 10, 2, 9, 2, 9, 2, 9, 2, 9, 2, 9, 2, 9, 0, 3, 6, 9, 6, 9, 6, 9, 1, 6, 9, 6, 9, 6, 9, 2, 9, 2, 9, 5, 9, 4, 6, 9, 6, 9, 6, 9, 6, 9, 6, 9, 6, 9, 7, 6, 9, 5, 9, 5, 9, 5, 9, 5, 9]
def kd (k : Nat) : Nat := tkl.getD k 99
def tll : List Nat := [0, 4, 0, 21, 0, 21, 0, 21, 0, 21, 0, 21, 0, 96, 0, 0, 0, 32, 0, 32, 0, 32, 0, 0, 32, 0, 32, 0, 32, 0, 96, 0, 96, 0, 96, 0, 0, 200, 0, 200, 0, 200, 0, 200, 0, 600, 0, 1024, 0, 0, 416, 0, 96, 0, 96, 0, 96, 0, 96]
def tl (k : Nat) : Nat := tll.getD k 0
def CL : List vw_C := [(RX0, TX0, 1), (RX1, TX1, 3), (RX2, TX2, 4), (RX3, TX3, 7), (RX4, TX4, 10), (RX5, TX5, 3), (RX6, TX6, 1), (RX8, TX8, 1), (RX9, TX9, 14), (RX10, TX10, 2), (RX11, TX11, 8), (RJ4, TJ4, 4), (RJ0, TJ0, 4)]
theorem cl_0 : CL[0]? = some (RX0, TX0, 1) := rfl
theorem in_0 : ∀ w ∈ u_ws RX0 TX0 1, w ∈ W0 := List.forall_mem_cons.mpr ⟨q_136, fun _ h => nomatch h⟩
theorem cl_1 : CL[1]? = some (RX1, TX1, 3) := rfl
theorem in_1 : ∀ w ∈ u_ws RX1 TX1 3, w ∈ W0 := List.forall_mem_cons.mpr ⟨q_166, List.forall_mem_cons.mpr ⟨q_168, List.forall_mem_cons.mpr ⟨q_170, fun _ h => nomatch h⟩⟩⟩
theorem cl_2 : CL[2]? = some (RX2, TX2, 4) := rfl
theorem in_2 : ∀ w ∈ u_ws RX2 TX2 4, w ∈ W0 := List.forall_mem_cons.mpr ⟨q_121, List.forall_mem_cons.mpr ⟨q_123, List.forall_mem_cons.mpr ⟨q_125, List.forall_mem_cons.mpr ⟨q_119, fun _ h => nomatch h⟩⟩⟩⟩
theorem cl_3 : CL[3]? = some (RX3, TX3, 7) := rfl
theorem in_3 : ∀ w ∈ u_ws RX3 TX3 7, w ∈ W0 := List.forall_mem_cons.mpr ⟨q_192, List.forall_mem_cons.mpr ⟨q_194, List.forall_mem_cons.mpr ⟨q_196, List.forall_mem_cons.mpr ⟨q_198, List.forall_mem_cons.mpr ⟨q_200, List.forall_mem_cons.mpr ⟨q_202, List.forall_mem_cons.mpr ⟨q_204, fun _ h => nomatch h⟩⟩⟩⟩⟩⟩⟩
theorem cl_4 : CL[4]? = some (RX4, TX4, 10) := rfl
theorem in_4 : ∀ w ∈ u_ws RX4 TX4 10, w ∈ W0 := List.forall_mem_cons.mpr ⟨q_228, List.forall_mem_cons.mpr ⟨q_230, List.forall_mem_cons.mpr ⟨q_232, List.forall_mem_cons.mpr ⟨q_234, List.forall_mem_cons.mpr ⟨q_236, List.forall_mem_cons.mpr ⟨q_238, List.forall_mem_cons.mpr ⟨q_240, List.forall_mem_cons.mpr ⟨q_242, List.forall_mem_cons.mpr ⟨q_244, List.forall_mem_cons.mpr ⟨q_246, fun _ h => nomatch h⟩⟩⟩⟩⟩⟩⟩⟩⟩⟩
theorem cl_5 : CL[5]? = some (RX5, TX5, 3) := rfl
theorem in_5 : ∀ w ∈ u_ws RX5 TX5 3, w ∈ W0 := List.forall_mem_cons.mpr ⟨q_181, List.forall_mem_cons.mpr ⟨q_182, List.forall_mem_cons.mpr ⟨q_183, fun _ h => nomatch h⟩⟩⟩
theorem cl_6 : CL[6]? = some (RX6, TX6, 1) := rfl
theorem in_6 : ∀ w ∈ u_ws RX6 TX6 1, w ∈ W0 := List.forall_mem_cons.mpr ⟨q_152, fun _ h => nomatch h⟩
theorem cl_7 : CL[7]? = some (RX8, TX8, 1) := rfl
theorem in_7 : ∀ w ∈ u_ws RX8 TX8 1, w ∈ W0 := List.forall_mem_cons.mpr ⟨q_258, fun _ h => nomatch h⟩
theorem cl_8 : CL[8]? = some (RX9, TX9, 14) := rfl
theorem in_8 : ∀ w ∈ u_ws RX9 TX9 14, w ∈ W0 := List.forall_mem_cons.mpr ⟨q_277, List.forall_mem_cons.mpr ⟨q_279, List.forall_mem_cons.mpr ⟨q_281, List.forall_mem_cons.mpr ⟨q_283, List.forall_mem_cons.mpr ⟨q_285, List.forall_mem_cons.mpr ⟨q_287, List.forall_mem_cons.mpr ⟨q_289, List.forall_mem_cons.mpr ⟨q_291, List.forall_mem_cons.mpr ⟨q_293, List.forall_mem_cons.mpr ⟨q_295, List.forall_mem_cons.mpr ⟨q_297, List.forall_mem_cons.mpr ⟨q_299, List.forall_mem_cons.mpr ⟨q_301, List.forall_mem_cons.mpr ⟨q_303, fun _ h => nomatch h⟩⟩⟩⟩⟩⟩⟩⟩⟩⟩⟩⟩⟩⟩
theorem cl_9 : CL[9]? = some (RX10, TX10, 2) := rfl
theorem in_9 : ∀ w ∈ u_ws RX10 TX10 2, w ∈ W0 := List.forall_mem_cons.mpr ⟨q_583, List.forall_mem_cons.mpr ⟨q_585, fun _ h => nomatch h⟩⟩
theorem cl_10 : CL[10]? = some (RX11, TX11, 8) := rfl
theorem in_10 : ∀ w ∈ u_ws RX11 TX11 8, w ∈ W0 := List.forall_mem_cons.mpr ⟨q_1321, List.forall_mem_cons.mpr ⟨q_1323, List.forall_mem_cons.mpr ⟨q_1325, List.forall_mem_cons.mpr ⟨q_1327, List.forall_mem_cons.mpr ⟨q_1329, List.forall_mem_cons.mpr ⟨q_1331, List.forall_mem_cons.mpr ⟨q_1333, List.forall_mem_cons.mpr ⟨q_1335, fun _ h => nomatch h⟩⟩⟩⟩⟩⟩⟩⟩
theorem cl_11 : CL[11]? = some (RJ4, TJ4, 4) := rfl
theorem in_11 : ∀ w ∈ u_ws RJ4 TJ4 4, w ∈ W0 := List.forall_mem_cons.mpr ⟨q_914, List.forall_mem_cons.mpr ⟨q_916, List.forall_mem_cons.mpr ⟨q_918, List.forall_mem_cons.mpr ⟨q_920, fun _ h => nomatch h⟩⟩⟩⟩
theorem cl_12 : CL[12]? = some (RJ0, TJ0, 4) := rfl
theorem in_12 : ∀ w ∈ u_ws RJ0 TJ0 4, w ∈ W0 := List.forall_mem_cons.mpr ⟨q_1149, List.forall_mem_cons.mpr ⟨q_1151, List.forall_mem_cons.mpr ⟨q_1153, List.forall_mem_cons.mpr ⟨q_1155, fun _ h => nomatch h⟩⟩⟩⟩
def ent (ad : Nat → Nat) (cI cM : ClassId) (f : Nat → Int32) (k : Nat) : va_E := match kd k with
  | 0 => .inr (0, [.int (f 0)])
  | 1 => .inr (1, [.ref (ad (k + 1)), .ref (ad (k + 3)), .ref (ad (k + 5))])
  | 2 => .inr (2, [.ref (ad (k + 1)), .int (f 1), .int (f 2), .int (f 3)])
  | 3 => .inr (3, [.ref (ad (k + 1)), .ref (ad (k + 3)), .ref (ad (k + 5)), .ref (ad (k + 7)), .ref (ad (k + 14)), .ref (ad (k + 16)), .ref (ad (k + 18))])
  | 4 => .inr (4, [.ref (ad (k + 1)), .ref (ad (k + 3)), .ref (ad (k + 5)), .ref (ad (k + 7)), .ref (ad (k + 9)), .ref (ad (k + 11)), .int (f 6), .int (f 7), .int (f 8), .int (f 9)])
  | 5 => .inr (5, [.ref (ad (k + 1)), .int (f 1), .int (f 2)])
  | 6 => .inr (6, [.ref (ad (k + 1))])
  | 7 => .inr (7, [.ref (ad (k + 1))])
  | 8 => .inr (8, [.ref (ad 1), .ref (ad 10), .ref (ad 12), .ref (ad 14), .ref (ad 15), .ref (ad 35), .ref (ad 48), .ref (ad 51), .ref (ad 53), .ref (ad 55), .ref (ad 57), .int (f 11), .int (f 12), .int (f 13)])
  | 9 => .inl (cI, tl k, .inl f)
  | _ => .inl (cM, 4, .inr (.inr (.inr (.inr (fun j => some (ad (2 + 2 * j)))))))
theorem ent_0 {ad : Nat → Nat} {cI cM : ClassId} {f : Nat → Int32} {k : Nat} (h : kd k = 0) : ent ad cI cM f k = .inr (0, [.int (f 0)]) := by unfold ent; rw [h]; rfl
theorem ent_1 {ad : Nat → Nat} {cI cM : ClassId} {f : Nat → Int32} {k : Nat} (h : kd k = 1) : ent ad cI cM f k = .inr (1, [.ref (ad (k + 1)), .ref (ad (k + 3)), .ref (ad (k + 5))]) := by unfold ent; rw [h]; rfl
theorem ent_2 {ad : Nat → Nat} {cI cM : ClassId} {f : Nat → Int32} {k : Nat} (h : kd k = 2) : ent ad cI cM f k = .inr (2, [.ref (ad (k + 1)), .int (f 1), .int (f 2), .int (f 3)]) := by unfold ent; rw [h]; rfl
theorem ent_3 {ad : Nat → Nat} {cI cM : ClassId} {f : Nat → Int32} {k : Nat} (h : kd k = 3) : ent ad cI cM f k = .inr (3, [.ref (ad (k + 1)), .ref (ad (k + 3)), .ref (ad (k + 5)), .ref (ad (k + 7)), .ref (ad (k + 14)), .ref (ad (k + 16)), .ref (ad (k + 18))]) := by unfold ent; rw [h]; rfl
theorem ent_4 {ad : Nat → Nat} {cI cM : ClassId} {f : Nat → Int32} {k : Nat} (h : kd k = 4) : ent ad cI cM f k = .inr (4, [.ref (ad (k + 1)), .ref (ad (k + 3)), .ref (ad (k + 5)), .ref (ad (k + 7)), .ref (ad (k + 9)), .ref (ad (k + 11)), .int (f 6), .int (f 7), .int (f 8), .int (f 9)]) := by unfold ent; rw [h]; rfl
theorem ent_5 {ad : Nat → Nat} {cI cM : ClassId} {f : Nat → Int32} {k : Nat} (h : kd k = 5) : ent ad cI cM f k = .inr (5, [.ref (ad (k + 1)), .int (f 1), .int (f 2)]) := by unfold ent; rw [h]; rfl
theorem ent_6 {ad : Nat → Nat} {cI cM : ClassId} {f : Nat → Int32} {k : Nat} (h : kd k = 6) : ent ad cI cM f k = .inr (6, [.ref (ad (k + 1))]) := by unfold ent; rw [h]; rfl
theorem ent_7 {ad : Nat → Nat} {cI cM : ClassId} {f : Nat → Int32} {k : Nat} (h : kd k = 7) : ent ad cI cM f k = .inr (7, [.ref (ad (k + 1))]) := by unfold ent; rw [h]; rfl
theorem ent_8 {ad : Nat → Nat} {cI cM : ClassId} {f : Nat → Int32} {k : Nat} (h : kd k = 8) : ent ad cI cM f k = .inr (8, [.ref (ad 1), .ref (ad 10), .ref (ad 12), .ref (ad 14), .ref (ad 15), .ref (ad 35), .ref (ad 48), .ref (ad 51), .ref (ad 53), .ref (ad 55), .ref (ad 57), .int (f 11), .int (f 12), .int (f 13)]) := by unfold ent; rw [h]; rfl
theorem ent_9 {ad : Nat → Nat} {cI cM : ClassId} {f : Nat → Int32} {k : Nat} (h : kd k = 9) : ent ad cI cM f k = .inl (cI, tl k, .inl f) := by unfold ent; rw [h]; rfl
theorem ent_10 {ad : Nat → Nat} {cI cM : ClassId} {f : Nat → Int32} {k : Nat} (h : kd k = 10) : ent ad cI cM f k = .inl (cM, 4, .inr (.inr (.inr (.inr (fun j => some (ad (2 + 2 * j))))))) := by unfold ent; rw [h]; rfl
theorem kd_lt {k : Nat} (h : kd k < 99) : k < 59 := by
  rcases Nat.lt_or_ge k 59 with q | q
  · exact q
  · have e : kd k = 99 := by unfold kd; rw [List.getD_eq_getElem?_getD, List.getElem?_eq_none (show tkl.length ≤ k from q)]; rfl
    omega
theorem kd_2a : ∀ k, k < 59 → kd k = 2 → kd (k + 1) = 9 := by decide +kernel
theorem kd_5a : ∀ k, k < 59 → kd k = 5 → kd (k + 1) = 9 := by decide +kernel
theorem kd_6a : ∀ k, k < 59 → kd k = 6 → kd (k + 1) = 9 := by decide +kernel
theorem kd_ma : ∀ j, j < 4 → kd (2 + 2 * j) = 2 := by decide +kernel
theorem ka_2 {k : Nat} (h : kd k = 2) : kd (k + 1) = 9 := kd_2a k (kd_lt (by omega)) h
theorem ka_5 {k : Nat} (h : kd k = 5) : kd (k + 1) = 9 := kd_5a k (kd_lt (by omega)) h
theorem ka_6 {k : Nat} (h : kd k = 6) : kd (k + 1) = 9 := kd_6a k (kd_lt (by omega)) h
theorem ka_25 {k : Nat} (h : kd k = 2 ∨ kd k = 5) : kd (k + 1) = 9 := h.elim ka_2 ka_5
def TRX (ad : Nat → Nat) (cI cM : ClassId) (μ : TMem) : va_W := (List.range 59).map fun k => (ad k, ent ad cI cM (μ k) k)
theorem TRX_at {ad : Nat → Nat} {cI cM : ClassId} {μ : TMem} {k : Nat} (hk : k < 59) : (TRX ad cI cM μ)[k]? = some (ad k, ent ad cI cM (μ k) k) := by
  simp [TRX, List.getElem?_map, List.getElem?_range hk]
theorem TRX_of {ad : Nat → Nat} {cI cM : ClassId} {μ : TMem} {k : Nat} {x : Nat × va_E} (h : (TRX ad cI cM μ)[k]? = some x) : k < 59 ∧ x = (ad k, ent ad cI cM (μ k) k) := by
  rcases Nat.lt_or_ge k 59 with q | q
  · rw [TRX_at q] at h
    exact ⟨q, (Option.some.inj h).symm⟩
  · rw [List.getElem?_eq_none (by simp [TRX]; exact q)] at h
    cases h
theorem TRX_set {ad : Nat → Nat} {cI cM : ClassId} {μ : TMem} {k i : Nat} {v : Int32} (hk : k < 59) : (TRX ad cI cM μ).set k (ad k, ent ad cI cM (upd (μ k) i v) k) = TRX ad cI cM (tms μ k i v) := by
  apply List.ext_getElem?
  intro j
  by_cases hj : j < 59
  · by_cases e : k = j
    · subst e
      rw [TRX_at hk, List.getElem?_set_self (by simp [TRX]; exact hk)]
      simp [tms]
    · rw [List.getElem?_set_ne e, TRX_at hj, TRX_at hj]
      simp [tms, Ne.symm e]
  · rw [List.getElem?_eq_none (by simp [TRX]; omega), List.getElem?_eq_none (by simp [TRX]; omega)]
def TK (D : va_G) (cI cM : ClassId) (U : State) : Prop := va_K D CL [(cI, .int), (cM, .object "Leastreader$Machine")] U
def TA (ad : Nat → Nat) (sz : Nat) : Nat → Prop := fun q => (∃ k : Nat, k < 59 ∧ q = ad k) ∨ sz ≤ q
def TI (ad : Nat → Nat) : Prop := ∀ i j : Nat, i < 59 → j < 59 → ad i = ad j → i = j
theorem TI.D {ad : Nat → Nat} {cI cM : ClassId} {μ : TMem} {sz : Nat} (h : TI ad) : va_D (TA ad sz) (TRX ad cI cM μ) := by
  refine ⟨fun i j x y hx hy e => ?_, fun k x hx => ?_⟩
  · obtain ⟨h1, rfl⟩ := TRX_of hx
    obtain ⟨h2, rfl⟩ := TRX_of hy
    exact h i j h1 h2 e
  · obtain ⟨h1, rfl⟩ := TRX_of hx
    exact Or.inl ⟨k, h1, rfl⟩
/-- the class's world in a walk: its cells, what changed since the entry -/
def TW (D : va_G) (ad : Nat → Nat) (cI cM : ClassId) (s : State) (μ : TMem) (H : Heap) (locs : List Loc) : Prop := va_P D CL (TRX ad cI cM μ) H ∧ TI ad ∧ va_S (TA ad s.heap.size) s.heap H locs
def TB (D : va_G) (ad : Nat → Nat) (cI cM : ClassId) (sz : Nat) (μ : TMem) : State → Prop := fun U => U.heap.size = sz ∧ va_P D CL (TRX ad cI cM μ) U.heap ∧ TK D cI cM U ∧ TI ad ∧ NW U
def TE (D : va_G) (ad : Nat → Nat) (cI cM : ClassId) : TMem → State → Prop := fun μ t => va_P D CL (TRX ad cI cM μ) t.heap
def isB (v : Int32) : Prop := v = 0 ∨ v = 1
theorem isB_n {v : Int32} (h : isB v) : narrow .boolean (.int v) = .int v := by rcases h with rfl | rfl <;> rfl
abbrev RM (h : Nat) : Room := { frames := h, cells := 0, slots := 0, locals := 40 * h }
variable {p : Program} {l : Launch} {e : Env} {R : Room} {s : State} {m : MethodId} {args : Array Value} {below : List Frame} {meth : Method} {c : Code} {H : Heap} {locs : List Loc} {cells slots : Nat} {Q : State → Prop}
variable {cc : ByteArray} {pc : Nat} {ls : Array Slot} {rest : List Value} {D : va_G} {ad : Nat → Nat} {cI cM : ClassId} {μ : TMem} {k : Nat}
theorem t_get (hexec : p.tables.exec = Jvm.exec) (hb : c.code = cc) (ht : ∀ w ∈ W0, w.before args s = true) {own ref C : String} {T : u_T} {N ci index i : Nat} (hin : ∀ w ∈ u_ws C T N, w ∈ W0) (hown : s.vm.findClass own = some m.cls) (hK : TK D cI cM s) (hw : TW D ad cI cM s μ H locs) (hk : k < 59) {fs : List Value} (he : ent ad cI cM (μ k) k = .inr (ci, fs)) (hc : CL[ci]? = some (C, T, N)) (hi : i < N) (hlink : (Cond.fieldLink own index ref (T i).2.1 (T i).2.2.1).before args s = true) (hsame : ∀ x, s.fieldFound? (T i).1 (T i).2.1 (T i).2.2.1 = some x → s.fieldFound? ref (T i).2.1 (T i).2.2.1 = some x) {v : Value} (hv : fs[i]? = some v) (hdg : decode cc pc = .ok (.getfield index, 3))
    (kk : W p l e R s m args below meth c H locs cells slots Q (F0 m (pc + 3) ls (v :: rest))) : W p l e R s m args below meth c H locs cells slots Q (F0 m pc ls (.ref (ad k) :: rest)) :=
  va_get hexec hb ht hin hown hK hw.1 k (by rw [TRX_at hk, he]) hc i hi hlink hsame hv hdg kk
theorem t_getN (hexec : p.tables.exec = Jvm.exec) (hb : c.code = cc) (ht : ∀ w ∈ W0, w.before args s = true) {own ref C host : String} {T : u_T} {N ci index i : Nat} (hin : ∀ w ∈ u_ws C T N, w ∈ W0) (hown : s.vm.findClass own = some m.cls) (hK : TK D cI cM s) (hw : TW D ad cI cM s μ H locs) (hk : k < 59) {fs : List Value} (he : ent ad cI cM (μ k) k = .inr (ci, fs)) (hc : CL[ci]? = some (C, T, N)) (hi : i < N) (hlink : (Cond.fieldLinkNest own index ref (T i).2.1 (T i).2.2.1 host).before args s = true) (hsame : ∀ x, s.fieldFound? (T i).1 (T i).2.1 (T i).2.2.1 = some x → s.fieldFound? ref (T i).2.1 (T i).2.2.1 = some x) {v : Value} (hv : fs[i]? = some v) (hdg : decode cc pc = .ok (.getfield index, 3))
    (kk : W p l e R s m args below meth c H locs cells slots Q (F0 m (pc + 3) ls (v :: rest))) : W p l e R s m args below meth c H locs cells slots Q (F0 m pc ls (.ref (ad k) :: rest)) :=
  va_getN hexec hb ht hin hown hK hw.1 k (by rw [TRX_at hk, he]) hc i hi hlink hsame hv hdg kk
theorem t_put (hexec : p.tables.exec = Jvm.exec) (hb : c.code = cc) (ht : ∀ w ∈ W0, w.before args s = true) {own ref C : String} {T : u_T} {N ci index i : Nat} (hin : ∀ w ∈ u_ws C T N, w ∈ W0) (ty0 : Nat → FieldType) (hty : ∀ k, k < N → parseFieldDescriptor (T k).2.2.1 = some (ty0 k)) (hnm : ∀ a, a < N → ∀ b, b < N → a ≠ b → (T a).2.1 ≠ (T b).2.1) (hown : s.vm.findClass own = some m.cls) (hK : TK D cI cM s) (hw : TW D ad cI cM s μ H locs) (hk : k < 59) {fs : List Value} (he : ent ad cI cM (μ k) k = .inr (ci, fs)) (hc : CL[ci]? = some (C, T, N)) (hi : i < N) (hlink : (Cond.fieldLink own index ref (T i).2.1 (T i).2.2.1).before args s = true) (hsame : ∀ x, s.fieldFound? (T i).1 (T i).2.1 (T i).2.2.1 = some x → s.fieldFound? ref (T i).2.1 (T i).2.2.1 = some x) (hfin : (T i).2.2.2 = false) {v : Int32} (hd : parseFieldDescriptor (T i).2.2.1 = some .int) (hl : i < fs.length) (he2 : ent ad cI cM (upd (μ k) i v) k = .inr (ci, fs.set i (.int v))) (hdg : decode cc pc = .ok (.putfield index, 3))
    (kk : ∀ (H1 : Heap) (locs1 : List Loc), TW D ad cI cM s (tms μ k i v) H1 locs1 → W p l e R s m args below meth c H1 locs1 cells slots Q (F0 m (pc + 3) ls rest)) : W p l e R s m args below meth c H locs cells slots Q (F0 m pc ls (.int v :: .ref (ad k) :: rest)) := by
  refine va_put hexec hb ht hin ty0 hty hnm hown hK hw.1 (hw.2.1.D (cI := cI) (cM := cM) (μ := μ)) hw.2.2 k (by rw [TRX_at hk, he]) hc i hi hlink hsame hfin hd rfl rfl hl hdg (fun H1 locs1 hP _ hS => ?_)
  rw [← he2, TRX_set hk] at hP
  exact kk H1 locs1 ⟨hP, hw.2.1, hS⟩
theorem t_putN (hexec : p.tables.exec = Jvm.exec) (hb : c.code = cc) (ht : ∀ w ∈ W0, w.before args s = true) {own ref C host : String} {T : u_T} {N ci index i : Nat} (hin : ∀ w ∈ u_ws C T N, w ∈ W0) (ty0 : Nat → FieldType) (hty : ∀ k, k < N → parseFieldDescriptor (T k).2.2.1 = some (ty0 k)) (hnm : ∀ a, a < N → ∀ b, b < N → a ≠ b → (T a).2.1 ≠ (T b).2.1) (hown : s.vm.findClass own = some m.cls) (hK : TK D cI cM s) (hw : TW D ad cI cM s μ H locs) (hk : k < 59) {fs : List Value} (he : ent ad cI cM (μ k) k = .inr (ci, fs)) (hc : CL[ci]? = some (C, T, N)) (hi : i < N) (hlink : (Cond.fieldLinkNest own index ref (T i).2.1 (T i).2.2.1 host).before args s = true) (hsame : ∀ x, s.fieldFound? (T i).1 (T i).2.1 (T i).2.2.1 = some x → s.fieldFound? ref (T i).2.1 (T i).2.2.1 = some x) (hfin : (T i).2.2.2 = false) {v : Int32} (hd : parseFieldDescriptor (T i).2.2.1 = some .int) (hl : i < fs.length) (he2 : ent ad cI cM (upd (μ k) i v) k = .inr (ci, fs.set i (.int v))) (hdg : decode cc pc = .ok (.putfield index, 3))
    (kk : ∀ (H1 : Heap) (locs1 : List Loc), TW D ad cI cM s (tms μ k i v) H1 locs1 → W p l e R s m args below meth c H1 locs1 cells slots Q (F0 m (pc + 3) ls rest)) : W p l e R s m args below meth c H locs cells slots Q (F0 m pc ls (.int v :: .ref (ad k) :: rest)) := by
  refine va_putN hexec hb ht hin ty0 hty hnm hown hK hw.1 (hw.2.1.D (cI := cI) (cM := cM) (μ := μ)) hw.2.2 k (by rw [TRX_at hk, he]) hc i hi hlink hsame hfin hd rfl rfl hl hdg (fun H1 locs1 hP _ hS => ?_)
  rw [← he2, TRX_set hk] at hP
  exact kk H1 locs1 ⟨hP, hw.2.1, hS⟩
theorem t_iald (hexec : p.tables.exec = Jvm.exec) (hb : c.code = cc) (hK : TK D cI cM s) (hw : TW D ad cI cM s μ H locs) (hk : kd k = 9) {i : Int32} (hin : vp_in i (tl k)) (hdg : decode cc pc = .ok (.iaload, 1))
    (kk : W p l e R s m args below meth c H locs cells slots Q (F0 m (pc + 1) ls (.int (μ k i.toNatClampNeg) :: rest))) : W p l e R s m args below meth c H locs cells slots Q (F0 m pc ls (.int i :: .ref (ad k) :: rest)) :=
  va_iald hexec hb hK hw.1 k 0 (by rw [TRX_at (kd_lt (by omega)), ent_9 hk]) rfl hin hdg kk
theorem t_iast (hexec : p.tables.exec = Jvm.exec) (hb : c.code = cc) (hK : TK D cI cM s) (hw : TW D ad cI cM s μ H locs) (hk : kd k = 9) {i x : Int32} (hin : vp_in i (tl k)) (hdg : decode cc pc = .ok (.iastore, 1))
    (kk : ∀ (H1 : Heap) (locs1 : List Loc), TW D ad cI cM s (tms μ k i.toNatClampNeg x) H1 locs1 → W p l e R s m args below meth c H1 locs1 cells slots Q (F0 m (pc + 1) ls rest)) : W p l e R s m args below meth c H locs cells slots Q (F0 m pc ls (.int x :: .int i :: .ref (ad k) :: rest)) := by
  have hk5 : k < 59 := kd_lt (by omega)
  refine va_iast hexec hb hK hw.1 (hw.2.1.D (cI := cI) (cM := cM) (μ := μ)) hw.2.2 k 0 (f := μ k) (by rw [TRX_at hk5, ent_9 hk]) rfl hin hdg (fun H1 locs1 hP _ hS => ?_)
  rw [← ent_9 (ad := ad) (cI := cI) (cM := cM) (f := upd (μ k) i.toNatClampNeg x) hk, TRX_set hk5] at hP
  exact kk H1 locs1 ⟨hP, hw.2.1, hS⟩
theorem t_alen (hexec : p.tables.exec = Jvm.exec) (hb : c.code = cc) (hK : TK D cI cM s) (hw : TW D ad cI cM s μ H locs) (hk : kd k = 9) (hdg : decode cc pc = .ok (.arraylength, 1))
    (kk : W p l e R s m args below meth c H locs cells slots Q (F0 m (pc + 1) ls (.int (nI (tl k)) :: rest))) : W p l e R s m args below meth c H locs cells slots Q (F0 m pc ls (.ref (ad k) :: rest)) :=
  va_alen hexec hb hK hw.1 k 0 (x := (tl k, .inl (μ k))) (by rw [TRX_at (kd_lt (by omega)), ent_9 hk]) rfl rfl hdg kk
theorem t_mlen (hexec : p.tables.exec = Jvm.exec) (hb : c.code = cc) (hK : TK D cI cM s) (hw : TW D ad cI cM s μ H locs) (hdg : decode cc pc = .ok (.arraylength, 1))
    (kk : W p l e R s m args below meth c H locs cells slots Q (F0 m (pc + 1) ls (.int 4 :: rest))) : W p l e R s m args below meth c H locs cells slots Q (F0 m pc ls (.ref (ad 1) :: rest)) :=
  va_alen hexec hb hK hw.1 1 1 (x := (4, .inr (.inr (.inr (.inr (fun j => some (ad (2 + 2 * j)))))))) (by rw [TRX_at (by decide), ent_10 rfl]) rfl rfl hdg kk
theorem t_ald (hexec : p.tables.exec = Jvm.exec) (hb : c.code = cc) (hK : TK D cI cM s) (hw : TW D ad cI cM s μ H locs) {i : Int32} (hin : vp_in i 4) (hdg : decode cc pc = .ok (.aaload, 1))
    (kk : W p l e R s m args below meth c H locs cells slots Q (F0 m (pc + 1) ls (.ref (ad (2 + 2 * i.toNatClampNeg)) :: rest))) : W p l e R s m args below meth c H locs cells slots Q (F0 m pc ls (.int i :: .ref (ad 1) :: rest)) :=
  va_aldq hexec hb hK hw.1 1 1 (f := fun j => some (ad (2 + 2 * j))) (by rw [TRX_at (by decide), ent_10 rfl]) rfl hin hdg kk
theorem TB.blind {as : List Value} {sz : Nat} : FrameBlind (va_Pc as (TB D ad cI cM sz μ)) := fun a U g mk q => by
  obtain ⟨q0, q1, qP, qK, qI, qN⟩ := q
  exact ⟨q0, q1, qP, va_K.moved (u := U) (U := U.calling g mk a) (Vm.Alike.refl U.vm) qK, qI, NW.same (s := U) rfl qN⟩
theorem TB.pre {as : List Value} (hK : TK D cI cM s) (hN : NW s) (hw : TW D ad cI cM s μ H locs) : ∀ U : State, U.heap = H → s.WarmedH U.vm → va_Pc as (TB D ad cI cM H.size μ) as.toArray U := fun U hU hW => ⟨rfl, by rw [hU], by rw [hU]; exact hw.1, va_K.moved hW.alike hK, hw.2.1, NW.warm hW hN⟩
theorem T_recv (hK : TK D cI cM s) (hw : TW D ad cI cM s μ H locs) (hk : k < 59) {fs : List Value} {ci : Nat} {q : vw_C} (he : ent ad cI cM (μ k) k = .inr (ci, fs)) (hc : CL[ci]? = some q) : ∃ cell : Cell, H[ad k]? = some cell ∧ cell.vm.isStatics = false ∧ s.vm.findClass q.1 = some cell.cls := va_recv hK hw.1 hc (q0 := k) (by rw [TRX_at hk, he])
theorem TA.up {sz1 sz2 : Nat} (h : sz1 ≤ sz2) : ∀ q, TA ad sz2 q → TA ad sz1 q := fun q h9 => h9.elim Or.inl (fun z => Or.inr (Nat.le_trans h z))
theorem T_calli {Q1 : Int32 → TMem → Prop} {st0 : List Value} {a : Array Value} (hw : TW D ad cI cM s μ H locs) (hr : va_Run p l e R s m args below meth c H locs cells slots 0 0 (F0 m pc ls st0) rest (va_Qi Q1 (TE D ad cI cM) (TA ad H.size) a) (TA ad H.size))
    (kk : ∀ (r : Int32) (μ1 : TMem) (H1 : Heap) (locs1 : List Loc), Q1 r μ1 → TW D ad cI cM s μ1 H1 locs1 → W p l e R s m args below meth c H1 locs1 cells slots Q (F0 m (pc + 3) ls (.int r :: rest))) : W p l e R s m args below meth c H locs cells slots Q (F0 m pc ls st0) :=
  va_calli hr hw.2.2 (fun q _ h => TA.up hw.2.2.1 q h) (fun q h => TA.up hw.2.2.1 q h) (fun r u t H1 locs1 ht _ hq hB _ _ hS => kk r u H1 locs1 hq ⟨by rw [← ht]; exact hB, hw.2.1, hS⟩)
theorem T_calll {Q1 : Int64 → TMem → Prop} {st0 : List Value} {a : Array Value} (hw : TW D ad cI cM s μ H locs) (hr : va_Run p l e R s m args below meth c H locs cells slots 0 0 (F0 m pc ls st0) rest (va_Ql Q1 (TE D ad cI cM) (TA ad H.size) a) (TA ad H.size))
    (kk : ∀ (r : Int64) (μ1 : TMem) (H1 : Heap) (locs1 : List Loc), Q1 r μ1 → TW D ad cI cM s μ1 H1 locs1 → W p l e R s m args below meth c H1 locs1 cells slots Q (F0 m (pc + 3) ls (.long r :: rest))) : W p l e R s m args below meth c H locs cells slots Q (F0 m pc ls st0) :=
  va_calll hr hw.2.2 (fun q _ h => TA.up hw.2.2.1 q h) (fun q h => TA.up hw.2.2.1 q h) (fun r u t H1 locs1 ht _ hq hB _ _ hS => kk r u H1 locs1 hq ⟨by rw [← ht]; exact hB, hw.2.1, hS⟩)
theorem T_callv {Q1 : TMem → Prop} {st0 : List Value} {a : Array Value} (hw : TW D ad cI cM s μ H locs) (hr : va_Run p l e R s m args below meth c H locs cells slots 0 0 (F0 m pc ls st0) rest (va_Qv Q1 (TE D ad cI cM) (TA ad H.size) a) (TA ad H.size))
    (kk : ∀ (μ1 : TMem) (H1 : Heap) (locs1 : List Loc), Q1 μ1 → TW D ad cI cM s μ1 H1 locs1 → W p l e R s m args below meth c H1 locs1 cells slots Q (F0 m (pc + 3) ls (rest))) : W p l e R s m args below meth c H locs cells slots Q (F0 m pc ls st0) :=
  va_callv hr hw.2.2 (fun q _ h => TA.up hw.2.2.1 q h) (fun q h => TA.up hw.2.2.1 q h) (fun u t H1 locs1 ht _ hq hB _ _ hS => kk u H1 locs1 hq ⟨by rw [← ht]; exact hB, hw.2.1, hS⟩)
theorem P_calli {Q1 : Int32 → Prop} {st0 : List Value} {a : Array Value} (hr : va_Run p l e R s m args below meth c H locs cells slots 0 0 (F0 m pc ls st0) rest (vp_Si Q1 a) (fun _ => False))
    (kk : ∀ r : Int32, Q1 r → W p l e R s m args below meth c H locs cells slots Q (F0 m (pc + 3) ls (.int r :: rest))) : W p l e R s m args below meth c H locs cells slots Q (F0 m pc ls st0) := by
  intro T hT X
  obtain ⟨v, st₀, t, T', L, h0, X', hL, e1, e2, ⟨r, hv, hp, hh⟩, st⟩ := hr T hT X
  cases hv
  obtain ⟨t2, a1, b1⟩ := kk r hp T' (by rw [e1, hh, h0]) (Stand.forget X' (fun q h => (hL q h).elim))
  exact ⟨t2, st t2 a1, b1⟩
end TLB
/-- contracts of the class's methods: over its whole tree -/
def TMi (l : Launch) (y : MethodName) (cd : Cond) (h : Nat) (as : List Value) (D : va_G) (ad : Nat → Nat) (cI cM : ClassId) (sz : Nat) (μ : TMem) (Q : Int32 → TMem → Prop) : Prop := Met l y (cd :: W0) (RM h) (va_Pc as (TB D ad cI cM sz μ)) (va_Qi Q (TE D ad cI cM) (TA ad sz)) 0 0 (TA ad sz)
def TMl (l : Launch) (y : MethodName) (cd : Cond) (h : Nat) (as : List Value) (D : va_G) (ad : Nat → Nat) (cI cM : ClassId) (sz : Nat) (μ : TMem) (Q : Int64 → TMem → Prop) : Prop := Met l y (cd :: W0) (RM h) (va_Pc as (TB D ad cI cM sz μ)) (va_Ql Q (TE D ad cI cM) (TA ad sz)) 0 0 (TA ad sz)
def TMv (l : Launch) (y : MethodName) (cd : Cond) (h : Nat) (as : List Value) (D : va_G) (ad : Nat → Nat) (cI cM : ClassId) (sz : Nat) (μ : TMem) (Q : TMem → Prop) : Prop := Met l y (cd :: W0) (RM h) (va_Pc as (TB D ad cI cM sz μ)) (va_Qv Q (TE D ad cI cM) (TA ad sz)) 0 0 (TA ad sz)
def PMi (l : Launch) (y : MethodName) (cd : Cond) (h : Nat) (as : List Value) (Q : Int32 → Prop) : Prop := Met l y (cd :: W0) (RM h) (va_Pc as (fun _ => True)) (vp_Si Q) 0 0 (fun _ => False)
theorem PM_blind {as : List Value} : FrameBlind (va_Pc as (fun _ => True)) := fun _ _ _ _ q => q
theorem PM_pre {as : List Value} {s : State} {H : Heap} : ∀ U : State, U.heap = H → s.WarmedH U.vm → va_Pc as (fun _ => True) as.toArray U := fun _ _ _ => ⟨rfl, trivial⟩
theorem T_meti {l : Launch} {y : MethodName} {bytes : ByteArray} {maxL : Nat} {ty : FieldType} {h : Nat} {as : List Value} {D : va_G} {ad : Nat → Nat} {cI cM : ClassId} {sz : Nat} {μ : TMem} {Q : Int32 → TMem → Prop} (hy : plainName y.cls = true) (hsl : (lg_sl as).length ≤ maxL)
    (body : ∀ (p : Program) (e : Env) (s : State) (m : MethodId) (below : List Frame) (meth : Method) (c : Code) (Z : State → Prop) (ls : Array Slot), p.tables.exec = Jvm.exec → c.code = bytes → c.maxLocals = maxL → s.vm.findClass y.cls = some m.cls → (∀ w ∈ W0, w.before as.toArray s = true) → NW s → TK D cI cM s → TW D ad cI cM s μ s.heap [] →
      (∀ (H : Heap) (locs : List Loc) (ls : Array Slot) (pc : Nat) (v : Int32) (μ1 : TMem), TW D ad cI cM s μ1 H locs → Q v μ1 → narrow ty (.int v) = .int v → decode bytes pc = .ok (.ireturn, 1) → W p l e (RM h) s m as.toArray below meth c H locs 0 0 Z (F0 m pc ls [.int v])) → lv_has ls maxL (lv_args 0 as) →
      W p l e (RM h) s m as.toArray below meth c s.heap [] 0 0 Z (F0 m 0 ls [])) : TMi l y (.code y bytes maxL (some ty)) h as D ad cI cM sz μ Q := by
  refine Met.ofW (cc := bytes) (maxL := maxL) (ret := (some ty)) hy rfl ?_
  intro p e s m args below meth c s₁ B hml hv
  obtain ⟨rfl, hsz, hP, hK, hI, hN⟩ := hv
  subst hsz
  have hts := atoms_spec B.pre
  have hlocks := B.notSynchronized
  rw [lg_entry_eq]
  refine body p e s m below meth c _ _ B.exec B.bytes hml (findClass_of_methodNamed B.named) (fun w hw => hts w (List.mem_cons_of_mem _ hw)) hN hK ⟨hP, hI, va_S.rf⟩ (fun H locs ls pc v μ1 hw hq hn hdg => ?_) (lv_entry as hsl)
  exact W.zret B.exec B.bytes B.returns hn (fun t ht9 hW => ⟨⟨v, μ1, rfl, hq, by rw [TE, ht9]; exact hw.1⟩, hw.2.2.F ht9⟩) hw.2.2.2.2 hdg hlocks
theorem T_metv {l : Launch} {y : MethodName} {bytes : ByteArray} {maxL : Nat} {h : Nat} {as : List Value} {D : va_G} {ad : Nat → Nat} {cI cM : ClassId} {sz : Nat} {μ : TMem} {Q : TMem → Prop} (hy : plainName y.cls = true) (hsl : (lg_sl as).length ≤ maxL)
    (body : ∀ (p : Program) (e : Env) (s : State) (m : MethodId) (below : List Frame) (meth : Method) (c : Code) (Z : State → Prop) (ls : Array Slot), p.tables.exec = Jvm.exec → c.code = bytes → c.maxLocals = maxL → s.vm.findClass y.cls = some m.cls → (∀ w ∈ W0, w.before as.toArray s = true) → NW s → TK D cI cM s → TW D ad cI cM s μ s.heap [] →
      (∀ (H : Heap) (locs : List Loc) (ls : Array Slot) (pc : Nat) (μ1 : TMem), TW D ad cI cM s μ1 H locs → Q μ1 → decode bytes pc = .ok (.return_, 1) → W p l e (RM h) s m as.toArray below meth c H locs 0 0 Z (F0 m pc ls [])) → lv_has ls maxL (lv_args 0 as) →
      W p l e (RM h) s m as.toArray below meth c s.heap [] 0 0 Z (F0 m 0 ls [])) : TMv l y (.code y bytes maxL none) h as D ad cI cM sz μ Q := by
  refine Met.ofW (cc := bytes) (maxL := maxL) (ret := none) hy rfl ?_
  intro p e s m args below meth c s₁ B hml hv
  obtain ⟨rfl, hsz, hP, hK, hI, hN⟩ := hv
  subst hsz
  have hts := atoms_spec B.pre
  have hlocks := B.notSynchronized
  rw [lg_entry_eq]
  refine body p e s m below meth c _ _ B.exec B.bytes hml (findClass_of_methodNamed B.named) (fun w hw => hts w (List.mem_cons_of_mem _ hw)) hN hK ⟨hP, hI, va_S.rf⟩ (fun H locs ls pc μ1 hw hq hdg => ?_) (lv_entry as hsl)
  exact W.vret B.exec B.bytes B.returns (fun t ht9 hW => ⟨⟨μ1, rfl, hq, by rw [TE, ht9]; exact hw.1⟩, hw.2.2.F ht9⟩) hw.2.2.2.2 hdg hlocks
theorem T_metl {l : Launch} {y : MethodName} {bytes : ByteArray} {maxL : Nat} {h : Nat} {as : List Value} {D : va_G} {ad : Nat → Nat} {cI cM : ClassId} {sz : Nat} {μ : TMem} {Q : Int64 → TMem → Prop} (hy : plainName y.cls = true) (hsl : (lg_sl as).length ≤ maxL)
    (body : ∀ (p : Program) (e : Env) (s : State) (m : MethodId) (below : List Frame) (meth : Method) (c : Code) (Z : State → Prop) (ls : Array Slot), p.tables.exec = Jvm.exec → c.code = bytes → c.maxLocals = maxL → s.vm.findClass y.cls = some m.cls → (∀ w ∈ W0, w.before as.toArray s = true) → NW s → TK D cI cM s → TW D ad cI cM s μ s.heap [] →
      (∀ (H : Heap) (locs : List Loc) (ls : Array Slot) (pc : Nat) (v : Int64) (μ1 : TMem), TW D ad cI cM s μ1 H locs → Q v μ1 → decode bytes pc = .ok (.lreturn, 1) → W p l e (RM h) s m as.toArray below meth c H locs 0 0 Z (F0 m pc ls [.long v])) → lv_has ls maxL (lv_args 0 as) →
      W p l e (RM h) s m as.toArray below meth c s.heap [] 0 0 Z (F0 m 0 ls [])) : TMl l y (.code y bytes maxL (some .long)) h as D ad cI cM sz μ Q := by
  refine Met.ofW (cc := bytes) (maxL := maxL) (ret := (some .long)) hy rfl ?_
  intro p e s m args below meth c s₁ B hml hv
  obtain ⟨rfl, hsz, hP, hK, hI, hN⟩ := hv
  subst hsz
  have hts := atoms_spec B.pre
  have hlocks := B.notSynchronized
  rw [lg_entry_eq]
  refine body p e s m below meth c _ _ B.exec B.bytes hml (findClass_of_methodNamed B.named) (fun w hw => hts w (List.mem_cons_of_mem _ hw)) hN hK ⟨hP, hI, va_S.rf⟩ (fun H locs ls pc v μ1 hw hq hdg => ?_) (lv_entry as hsl)
  exact W.lret B.exec B.bytes B.returns (fun t ht9 hW => ⟨⟨v, μ1, rfl, hq, by rw [TE, ht9]; exact hw.1⟩, hw.2.2.F ht9⟩) hw.2.2.2.2 hdg hlocks
theorem P_meti {l : Launch} {y : MethodName} {bytes : ByteArray} {maxL : Nat} {ty : FieldType} {h : Nat} {as : List Value} {Q : Int32 → Prop} (hy : plainName y.cls = true) (hsl : (lg_sl as).length ≤ maxL)
    (body : ∀ (p : Program) (e : Env) (s : State) (m : MethodId) (below : List Frame) (meth : Method) (c : Code) (Z : State → Prop) (ls : Array Slot), p.tables.exec = Jvm.exec → c.code = bytes → c.maxLocals = maxL → s.vm.findClass y.cls = some m.cls → (∀ w ∈ W0, w.before as.toArray s = true) →
      (∀ (ls : Array Slot) (pc : Nat) (v : Int32), Q v → narrow ty (.int v) = .int v → decode bytes pc = .ok (.ireturn, 1) → W p l e (RM h) s m as.toArray below meth c s.heap [] 0 0 Z (F0 m pc ls [.int v])) → lv_has ls maxL (lv_args 0 as) →
      W p l e (RM h) s m as.toArray below meth c s.heap [] 0 0 Z (F0 m 0 ls [])) : PMi l y (.code y bytes maxL (some ty)) h as Q := by
  refine Met.ofW (cc := bytes) (maxL := maxL) (ret := some ty) hy rfl ?_
  intro p e s m args below meth c s₁ B hml hv
  obtain ⟨rfl, -⟩ := hv
  have hts := atoms_spec B.pre
  have hlocks := B.notSynchronized
  rw [lg_entry_eq]
  refine body p e s m below meth c _ _ B.exec B.bytes hml (findClass_of_methodNamed B.named) (fun w hw => hts w (List.mem_cons_of_mem _ hw)) (fun ls pc v hq hn hdg => ?_) (lv_entry as hsl)
  exact W.zret B.exec B.bytes B.returns hn (fun t ht9 hW => ⟨v, rfl, hq, ht9⟩) (fun _ h => nomatch h) hdg hlocks
end
/-! part 07.rows -/
section
section TFR
variable {p : Program} {l : Launch} {e : Env} {R : Room} {s : State} {m : MethodId} {args : Array Value} {below : List Frame} {meth : Method} {c : Code} {H : Heap} {locs : List Loc} {cells slots : Nat} {Q : State → Prop}
variable {cc : ByteArray} {pc : Nat} {ls : Array Slot} {rest : List Value} {D : va_G} {ad : Nat → Nat} {cI cM : ClassId} {μ : TMem} {k : Nat}
theorem gf_X2_9 (hx : p.tables.exec = Jvm.exec) (hb : c.code = cc) (ht : ∀ w ∈ W0, w.before args s = true) (hown : s.vm.findClass "Leastreader$Machine" = some m.cls) (hK : TK D cI cM s) (hw : TW D ad cI cM s μ H locs) (hk : kd k = 2) (hdg : decode cc pc = .ok (.getfield 9, 3)) (kk : W p l e R s m args below meth c H locs cells slots Q (F0 m (pc + 3) ls (.int (μ k 3) :: rest))) : W p l e R s m args below meth c H locs cells slots Q (F0 m pc ls (.ref (ad k) :: rest)) := t_get hx hb ht in_2 hown hK hw (kd_lt (by omega)) (ent_2 hk) cl_2 (i := 3) (by decide) (ht _ q_94) (fun _ h => h) rfl hdg kk
theorem pgf_X2_9 {v : Int32} (hx : p.tables.exec = Jvm.exec) (hb : c.code = cc) (ht : ∀ w ∈ W0, w.before args s = true) (hown : s.vm.findClass "Leastreader$Machine" = some m.cls) (hK : TK D cI cM s) (hw : TW D ad cI cM s μ H locs) (hk : kd k = 2) (hdg : decode cc pc = .ok (.putfield 9, 3)) (kk : ∀ (H1 : Heap) (locs1 : List Loc), TW D ad cI cM s (tms μ k 3 v) H1 locs1 → W p l e R s m args below meth c H1 locs1 cells slots Q (F0 m (pc + 3) ls rest)) : W p l e R s m args below meth c H locs cells slots Q (F0 m pc ls (.int v :: .ref (ad k) :: rest)) := t_put hx hb ht in_2 tyX2 tyX2_ok nmX2 hown hK hw (kd_lt (by omega)) (ent_2 hk) cl_2 (i := 3) (by decide) (ht _ q_94) (fun _ h => h) rfl rfl (Nat.le_of_ble_eq_true rfl) (ent_2 hk) hdg kk
theorem gf_X3_75 (hx : p.tables.exec = Jvm.exec) (hb : c.code = cc) (ht : ∀ w ∈ W0, w.before args s = true) (hN : NW s) (hown : s.vm.findClass "Leastreader$Maker" = some m.cls) (hK : TK D cI cM s) (hw : TW D ad cI cM s μ H locs) (hk : kd k = 2) (hdg : decode cc pc = .ok (.getfield 75, 3)) (kk : W p l e R s m args below meth c H locs cells slots Q (F0 m (pc + 3) ls (.int (μ k 3) :: rest))) : W p l e R s m args below meth c H locs cells slots Q (F0 m pc ls (.ref (ad k) :: rest)) := t_getN hx hb ht in_2 hown hK hw (kd_lt (by omega)) (ent_2 hk) cl_2 (i := 3) (by decide) (nwu_95 hN) (fun _ h => h) rfl hdg kk
theorem pgf_X3_75 {v : Int32} (hx : p.tables.exec = Jvm.exec) (hb : c.code = cc) (ht : ∀ w ∈ W0, w.before args s = true) (hN : NW s) (hown : s.vm.findClass "Leastreader$Maker" = some m.cls) (hK : TK D cI cM s) (hw : TW D ad cI cM s μ H locs) (hk : kd k = 2) (hdg : decode cc pc = .ok (.putfield 75, 3)) (kk : ∀ (H1 : Heap) (locs1 : List Loc), TW D ad cI cM s (tms μ k 3 v) H1 locs1 → W p l e R s m args below meth c H1 locs1 cells slots Q (F0 m (pc + 3) ls rest)) : W p l e R s m args below meth c H locs cells slots Q (F0 m pc ls (.int v :: .ref (ad k) :: rest)) := t_putN hx hb ht in_2 tyX2 tyX2_ok nmX2 hown hK hw (kd_lt (by omega)) (ent_2 hk) cl_2 (i := 3) (by decide) (nwu_95 hN) (fun _ h => h) rfl rfl (Nat.le_of_ble_eq_true rfl) (ent_2 hk) hdg kk
theorem gf_X9_115 (hx : p.tables.exec = Jvm.exec) (hb : c.code = cc) (ht : ∀ w ∈ W0, w.before args s = true) (hN : NW s) (hown : s.vm.findClass "Leastreader" = some m.cls) (hK : TK D cI cM s) (hw : TW D ad cI cM s μ H locs) (hk : kd k = 2) (hdg : decode cc pc = .ok (.getfield 115, 3)) (kk : W p l e R s m args below meth c H locs cells slots Q (F0 m (pc + 3) ls (.int (μ k 3) :: rest))) : W p l e R s m args below meth c H locs cells slots Q (F0 m pc ls (.ref (ad k) :: rest)) := t_getN hx hb ht in_2 hown hK hw (kd_lt (by omega)) (ent_2 hk) cl_2 (i := 3) (by decide) (nwu_96 hN) (fun _ h => h) rfl hdg kk
theorem pgf_X9_115 {v : Int32} (hx : p.tables.exec = Jvm.exec) (hb : c.code = cc) (ht : ∀ w ∈ W0, w.before args s = true) (hN : NW s) (hown : s.vm.findClass "Leastreader" = some m.cls) (hK : TK D cI cM s) (hw : TW D ad cI cM s μ H locs) (hk : kd k = 2) (hdg : decode cc pc = .ok (.putfield 115, 3)) (kk : ∀ (H1 : Heap) (locs1 : List Loc), TW D ad cI cM s (tms μ k 3 v) H1 locs1 → W p l e R s m args below meth c H1 locs1 cells slots Q (F0 m (pc + 3) ls rest)) : W p l e R s m args below meth c H locs cells slots Q (F0 m pc ls (.int v :: .ref (ad k) :: rest)) := t_putN hx hb ht in_2 tyX2 tyX2_ok nmX2 hown hK hw (kd_lt (by omega)) (ent_2 hk) cl_2 (i := 3) (by decide) (nwu_96 hN) (fun _ h => h) rfl rfl (Nat.le_of_ble_eq_true rfl) (ent_2 hk) hdg kk
theorem gf_X7_15 (hx : p.tables.exec = Jvm.exec) (hb : c.code = cc) (ht : ∀ w ∈ W0, w.before args s = true) (hown : s.vm.findClass "Leastreader$Table" = some m.cls) (hK : TK D cI cM s) (hw : TW D ad cI cM s μ H locs) (hk : kd k = 2 ∨ kd k = 5) (hdg : decode cc pc = .ok (.getfield 15, 3)) (kk : W p l e R s m args below meth c H locs cells slots Q (F0 m (pc + 3) ls (.ref (ad (k + 1)) :: rest))) : W p l e R s m args below meth c H locs cells slots Q (F0 m pc ls (.ref (ad k) :: rest)) := hk.elim (fun hk => t_get hx hb ht in_2 hown hK hw (kd_lt (by omega)) (ent_2 hk) cl_2 (i := 0) (by decide) (ht _ q_97) (fun _ h => h) rfl hdg kk) (fun hk => t_get hx hb ht in_5 hown hK hw (kd_lt (by omega)) (ent_5 hk) cl_5 (i := 0) (by decide) (ht _ q_97) (fun _ h => h) rfl hdg kk)
theorem gf_X7_9 (hx : p.tables.exec = Jvm.exec) (hb : c.code = cc) (ht : ∀ w ∈ W0, w.before args s = true) (hown : s.vm.findClass "Leastreader$Table" = some m.cls) (hK : TK D cI cM s) (hw : TW D ad cI cM s μ H locs) (hk : kd k = 2 ∨ kd k = 5) (hdg : decode cc pc = .ok (.getfield 9, 3)) (kk : W p l e R s m args below meth c H locs cells slots Q (F0 m (pc + 3) ls (.int (μ k 1) :: rest))) : W p l e R s m args below meth c H locs cells slots Q (F0 m pc ls (.ref (ad k) :: rest)) := hk.elim (fun hk => t_get hx hb ht in_2 hown hK hw (kd_lt (by omega)) (ent_2 hk) cl_2 (i := 1) (by decide) (ht _ q_98) (fun _ h => h) rfl hdg kk) (fun hk => t_get hx hb ht in_5 hown hK hw (kd_lt (by omega)) (ent_5 hk) cl_5 (i := 1) (by decide) (ht _ q_98) (fun _ h => h) rfl hdg kk)
theorem pgf_X7_9 {v : Int32} (hx : p.tables.exec = Jvm.exec) (hb : c.code = cc) (ht : ∀ w ∈ W0, w.before args s = true) (hown : s.vm.findClass "Leastreader$Table" = some m.cls) (hK : TK D cI cM s) (hw : TW D ad cI cM s μ H locs) (hk : kd k = 2 ∨ kd k = 5) (hdg : decode cc pc = .ok (.putfield 9, 3)) (kk : ∀ (H1 : Heap) (locs1 : List Loc), TW D ad cI cM s (tms μ k 1 v) H1 locs1 → W p l e R s m args below meth c H1 locs1 cells slots Q (F0 m (pc + 3) ls rest)) : W p l e R s m args below meth c H locs cells slots Q (F0 m pc ls (.int v :: .ref (ad k) :: rest)) := hk.elim (fun hk => t_put hx hb ht in_2 tyX2 tyX2_ok nmX2 hown hK hw (kd_lt (by omega)) (ent_2 hk) cl_2 (i := 1) (by decide) (ht _ q_98) (fun _ h => h) rfl rfl (Nat.le_of_ble_eq_true rfl) (ent_2 hk) hdg kk) (fun hk => t_put hx hb ht in_5 tyX5 tyX5_ok nmX5 hown hK hw (kd_lt (by omega)) (ent_5 hk) cl_5 (i := 1) (by decide) (ht _ q_98) (fun _ h => h) rfl rfl (Nat.le_of_ble_eq_true rfl) (ent_5 hk) hdg kk)
theorem gf_X2_15 (hx : p.tables.exec = Jvm.exec) (hb : c.code = cc) (ht : ∀ w ∈ W0, w.before args s = true) (hown : s.vm.findClass "Leastreader$Machine" = some m.cls) (hK : TK D cI cM s) (hw : TW D ad cI cM s μ H locs) (hk : kd k = 2) (hdg : decode cc pc = .ok (.getfield 15, 3)) (kk : W p l e R s m args below meth c H locs cells slots Q (F0 m (pc + 3) ls (.int (μ k 1) :: rest))) : W p l e R s m args below meth c H locs cells slots Q (F0 m pc ls (.ref (ad k) :: rest)) := t_get hx hb ht in_2 hown hK hw (kd_lt (by omega)) (ent_2 hk) cl_2 (i := 1) (by decide) (ht _ q_99) (fun x h => u_same (ht _ q_100) x h) rfl hdg kk
theorem pgf_X2_15 {v : Int32} (hx : p.tables.exec = Jvm.exec) (hb : c.code = cc) (ht : ∀ w ∈ W0, w.before args s = true) (hown : s.vm.findClass "Leastreader$Machine" = some m.cls) (hK : TK D cI cM s) (hw : TW D ad cI cM s μ H locs) (hk : kd k = 2) (hdg : decode cc pc = .ok (.putfield 15, 3)) (kk : ∀ (H1 : Heap) (locs1 : List Loc), TW D ad cI cM s (tms μ k 1 v) H1 locs1 → W p l e R s m args below meth c H1 locs1 cells slots Q (F0 m (pc + 3) ls rest)) : W p l e R s m args below meth c H locs cells slots Q (F0 m pc ls (.int v :: .ref (ad k) :: rest)) := t_put hx hb ht in_2 tyX2 tyX2_ok nmX2 hown hK hw (kd_lt (by omega)) (ent_2 hk) cl_2 (i := 1) (by decide) (ht _ q_99) (fun x h => u_same (ht _ q_100) x h) rfl rfl (Nat.le_of_ble_eq_true rfl) (ent_2 hk) hdg kk
theorem gf_X1_30 (hx : p.tables.exec = Jvm.exec) (hb : c.code = cc) (ht : ∀ w ∈ W0, w.before args s = true) (hown : s.vm.findClass "Leastreader$Likeness" = some m.cls) (hK : TK D cI cM s) (hw : TW D ad cI cM s μ H locs) (hk : kd k = 5) (hdg : decode cc pc = .ok (.getfield 30, 3)) (kk : W p l e R s m args below meth c H locs cells slots Q (F0 m (pc + 3) ls (.int (μ k 1) :: rest))) : W p l e R s m args below meth c H locs cells slots Q (F0 m pc ls (.ref (ad k) :: rest)) := t_get hx hb ht in_5 hown hK hw (kd_lt (by omega)) (ent_5 hk) cl_5 (i := 1) (by decide) (ht _ q_101) (fun x h => u_same (ht _ q_102) x h) rfl hdg kk
theorem pgf_X1_30 {v : Int32} (hx : p.tables.exec = Jvm.exec) (hb : c.code = cc) (ht : ∀ w ∈ W0, w.before args s = true) (hown : s.vm.findClass "Leastreader$Likeness" = some m.cls) (hK : TK D cI cM s) (hw : TW D ad cI cM s μ H locs) (hk : kd k = 5) (hdg : decode cc pc = .ok (.putfield 30, 3)) (kk : ∀ (H1 : Heap) (locs1 : List Loc), TW D ad cI cM s (tms μ k 1 v) H1 locs1 → W p l e R s m args below meth c H1 locs1 cells slots Q (F0 m (pc + 3) ls rest)) : W p l e R s m args below meth c H locs cells slots Q (F0 m pc ls (.int v :: .ref (ad k) :: rest)) := t_put hx hb ht in_5 tyX5 tyX5_ok nmX5 hown hK hw (kd_lt (by omega)) (ent_5 hk) cl_5 (i := 1) (by decide) (ht _ q_101) (fun x h => u_same (ht _ q_102) x h) rfl rfl (Nat.le_of_ble_eq_true rfl) (ent_5 hk) hdg kk
theorem gf_X8_24 (hx : p.tables.exec = Jvm.exec) (hb : c.code = cc) (ht : ∀ w ∈ W0, w.before args s = true) (hown : s.vm.findClass "Leastreader$Tails" = some m.cls) (hK : TK D cI cM s) (hw : TW D ad cI cM s μ H locs) (hk : kd k = 5) (hdg : decode cc pc = .ok (.getfield 24, 3)) (kk : W p l e R s m args below meth c H locs cells slots Q (F0 m (pc + 3) ls (.int (μ k 1) :: rest))) : W p l e R s m args below meth c H locs cells slots Q (F0 m pc ls (.ref (ad k) :: rest)) := t_get hx hb ht in_5 hown hK hw (kd_lt (by omega)) (ent_5 hk) cl_5 (i := 1) (by decide) (ht _ q_103) (fun x h => u_same (ht _ q_102) x h) rfl hdg kk
theorem pgf_X8_24 {v : Int32} (hx : p.tables.exec = Jvm.exec) (hb : c.code = cc) (ht : ∀ w ∈ W0, w.before args s = true) (hown : s.vm.findClass "Leastreader$Tails" = some m.cls) (hK : TK D cI cM s) (hw : TW D ad cI cM s μ H locs) (hk : kd k = 5) (hdg : decode cc pc = .ok (.putfield 24, 3)) (kk : ∀ (H1 : Heap) (locs1 : List Loc), TW D ad cI cM s (tms μ k 1 v) H1 locs1 → W p l e R s m args below meth c H1 locs1 cells slots Q (F0 m (pc + 3) ls rest)) : W p l e R s m args below meth c H locs cells slots Q (F0 m pc ls (.int v :: .ref (ad k) :: rest)) := t_put hx hb ht in_5 tyX5 tyX5_ok nmX5 hown hK hw (kd_lt (by omega)) (ent_5 hk) cl_5 (i := 1) (by decide) (ht _ q_103) (fun x h => u_same (ht _ q_102) x h) rfl rfl (Nat.le_of_ble_eq_true rfl) (ent_5 hk) hdg kk
theorem gf_X5_28 (hx : p.tables.exec = Jvm.exec) (hb : c.code = cc) (ht : ∀ w ∈ W0, w.before args s = true) (hown : s.vm.findClass "Leastreader$Plain" = some m.cls) (hK : TK D cI cM s) (hw : TW D ad cI cM s μ H locs) (hk : kd k = 5) (hdg : decode cc pc = .ok (.getfield 28, 3)) (kk : W p l e R s m args below meth c H locs cells slots Q (F0 m (pc + 3) ls (.int (μ k 1) :: rest))) : W p l e R s m args below meth c H locs cells slots Q (F0 m pc ls (.ref (ad k) :: rest)) := t_get hx hb ht in_5 hown hK hw (kd_lt (by omega)) (ent_5 hk) cl_5 (i := 1) (by decide) (ht _ q_104) (fun x h => u_same (ht _ q_102) x h) rfl hdg kk
theorem pgf_X5_28 {v : Int32} (hx : p.tables.exec = Jvm.exec) (hb : c.code = cc) (ht : ∀ w ∈ W0, w.before args s = true) (hown : s.vm.findClass "Leastreader$Plain" = some m.cls) (hK : TK D cI cM s) (hw : TW D ad cI cM s μ H locs) (hk : kd k = 5) (hdg : decode cc pc = .ok (.putfield 28, 3)) (kk : ∀ (H1 : Heap) (locs1 : List Loc), TW D ad cI cM s (tms μ k 1 v) H1 locs1 → W p l e R s m args below meth c H1 locs1 cells slots Q (F0 m (pc + 3) ls rest)) : W p l e R s m args below meth c H locs cells slots Q (F0 m pc ls (.int v :: .ref (ad k) :: rest)) := t_put hx hb ht in_5 tyX5 tyX5_ok nmX5 hown hK hw (kd_lt (by omega)) (ent_5 hk) cl_5 (i := 1) (by decide) (ht _ q_104) (fun x h => u_same (ht _ q_102) x h) rfl rfl (Nat.le_of_ble_eq_true rfl) (ent_5 hk) hdg kk
theorem gf_X3_83 (hx : p.tables.exec = Jvm.exec) (hb : c.code = cc) (ht : ∀ w ∈ W0, w.before args s = true) (hown : s.vm.findClass "Leastreader$Maker" = some m.cls) (hK : TK D cI cM s) (hw : TW D ad cI cM s μ H locs) (hk : kd k = 5) (hdg : decode cc pc = .ok (.getfield 83, 3)) (kk : W p l e R s m args below meth c H locs cells slots Q (F0 m (pc + 3) ls (.int (μ k 1) :: rest))) : W p l e R s m args below meth c H locs cells slots Q (F0 m pc ls (.ref (ad k) :: rest)) := t_get hx hb ht in_5 hown hK hw (kd_lt (by omega)) (ent_5 hk) cl_5 (i := 1) (by decide) (ht _ q_105) (fun x h => u_same (ht _ q_102) x h) rfl hdg kk
theorem pgf_X3_83 {v : Int32} (hx : p.tables.exec = Jvm.exec) (hb : c.code = cc) (ht : ∀ w ∈ W0, w.before args s = true) (hown : s.vm.findClass "Leastreader$Maker" = some m.cls) (hK : TK D cI cM s) (hw : TW D ad cI cM s μ H locs) (hk : kd k = 5) (hdg : decode cc pc = .ok (.putfield 83, 3)) (kk : ∀ (H1 : Heap) (locs1 : List Loc), TW D ad cI cM s (tms μ k 1 v) H1 locs1 → W p l e R s m args below meth c H1 locs1 cells slots Q (F0 m (pc + 3) ls rest)) : W p l e R s m args below meth c H locs cells slots Q (F0 m pc ls (.int v :: .ref (ad k) :: rest)) := t_put hx hb ht in_5 tyX5 tyX5_ok nmX5 hown hK hw (kd_lt (by omega)) (ent_5 hk) cl_5 (i := 1) (by decide) (ht _ q_105) (fun x h => u_same (ht _ q_102) x h) rfl rfl (Nat.le_of_ble_eq_true rfl) (ent_5 hk) hdg kk
theorem gf_X9_151 (hx : p.tables.exec = Jvm.exec) (hb : c.code = cc) (ht : ∀ w ∈ W0, w.before args s = true) (hown : s.vm.findClass "Leastreader" = some m.cls) (hK : TK D cI cM s) (hw : TW D ad cI cM s μ H locs) (hk : kd k = 2) (hdg : decode cc pc = .ok (.getfield 151, 3)) (kk : W p l e R s m args below meth c H locs cells slots Q (F0 m (pc + 3) ls (.int (μ k 1) :: rest))) : W p l e R s m args below meth c H locs cells slots Q (F0 m pc ls (.ref (ad k) :: rest)) := t_get hx hb ht in_2 hown hK hw (kd_lt (by omega)) (ent_2 hk) cl_2 (i := 1) (by decide) (ht _ q_106) (fun x h => u_same (ht _ q_100) x h) rfl hdg kk
theorem pgf_X9_151 {v : Int32} (hx : p.tables.exec = Jvm.exec) (hb : c.code = cc) (ht : ∀ w ∈ W0, w.before args s = true) (hown : s.vm.findClass "Leastreader" = some m.cls) (hK : TK D cI cM s) (hw : TW D ad cI cM s μ H locs) (hk : kd k = 2) (hdg : decode cc pc = .ok (.putfield 151, 3)) (kk : ∀ (H1 : Heap) (locs1 : List Loc), TW D ad cI cM s (tms μ k 1 v) H1 locs1 → W p l e R s m args below meth c H1 locs1 cells slots Q (F0 m (pc + 3) ls rest)) : W p l e R s m args below meth c H locs cells slots Q (F0 m pc ls (.int v :: .ref (ad k) :: rest)) := t_put hx hb ht in_2 tyX2 tyX2_ok nmX2 hown hK hw (kd_lt (by omega)) (ent_2 hk) cl_2 (i := 1) (by decide) (ht _ q_106) (fun x h => u_same (ht _ q_100) x h) rfl rfl (Nat.le_of_ble_eq_true rfl) (ent_2 hk) hdg kk
theorem gf_X2_57 (hx : p.tables.exec = Jvm.exec) (hb : c.code = cc) (ht : ∀ w ∈ W0, w.before args s = true) (hown : s.vm.findClass "Leastreader$Machine" = some m.cls) (hK : TK D cI cM s) (hw : TW D ad cI cM s μ H locs) (hk : kd k = 5) (hdg : decode cc pc = .ok (.getfield 57, 3)) (kk : W p l e R s m args below meth c H locs cells slots Q (F0 m (pc + 3) ls (.int (μ k 1) :: rest))) : W p l e R s m args below meth c H locs cells slots Q (F0 m pc ls (.ref (ad k) :: rest)) := t_get hx hb ht in_5 hown hK hw (kd_lt (by omega)) (ent_5 hk) cl_5 (i := 1) (by decide) (ht _ q_107) (fun x h => u_same (ht _ q_102) x h) rfl hdg kk
theorem pgf_X2_57 {v : Int32} (hx : p.tables.exec = Jvm.exec) (hb : c.code = cc) (ht : ∀ w ∈ W0, w.before args s = true) (hown : s.vm.findClass "Leastreader$Machine" = some m.cls) (hK : TK D cI cM s) (hw : TW D ad cI cM s μ H locs) (hk : kd k = 5) (hdg : decode cc pc = .ok (.putfield 57, 3)) (kk : ∀ (H1 : Heap) (locs1 : List Loc), TW D ad cI cM s (tms μ k 1 v) H1 locs1 → W p l e R s m args below meth c H1 locs1 cells slots Q (F0 m (pc + 3) ls rest)) : W p l e R s m args below meth c H locs cells slots Q (F0 m pc ls (.int v :: .ref (ad k) :: rest)) := t_put hx hb ht in_5 tyX5 tyX5_ok nmX5 hown hK hw (kd_lt (by omega)) (ent_5 hk) cl_5 (i := 1) (by decide) (ht _ q_107) (fun x h => u_same (ht _ q_102) x h) rfl rfl (Nat.le_of_ble_eq_true rfl) (ent_5 hk) hdg kk
theorem gf_X9_190 (hx : p.tables.exec = Jvm.exec) (hb : c.code = cc) (ht : ∀ w ∈ W0, w.before args s = true) (hown : s.vm.findClass "Leastreader" = some m.cls) (hK : TK D cI cM s) (hw : TW D ad cI cM s μ H locs) (hk : kd k = 5) (hdg : decode cc pc = .ok (.getfield 190, 3)) (kk : W p l e R s m args below meth c H locs cells slots Q (F0 m (pc + 3) ls (.int (μ k 1) :: rest))) : W p l e R s m args below meth c H locs cells slots Q (F0 m pc ls (.ref (ad k) :: rest)) := t_get hx hb ht in_5 hown hK hw (kd_lt (by omega)) (ent_5 hk) cl_5 (i := 1) (by decide) (ht _ q_108) (fun x h => u_same (ht _ q_102) x h) rfl hdg kk
theorem pgf_X9_190 {v : Int32} (hx : p.tables.exec = Jvm.exec) (hb : c.code = cc) (ht : ∀ w ∈ W0, w.before args s = true) (hown : s.vm.findClass "Leastreader" = some m.cls) (hK : TK D cI cM s) (hw : TW D ad cI cM s μ H locs) (hk : kd k = 5) (hdg : decode cc pc = .ok (.putfield 190, 3)) (kk : ∀ (H1 : Heap) (locs1 : List Loc), TW D ad cI cM s (tms μ k 1 v) H1 locs1 → W p l e R s m args below meth c H1 locs1 cells slots Q (F0 m (pc + 3) ls rest)) : W p l e R s m args below meth c H locs cells slots Q (F0 m pc ls (.int v :: .ref (ad k) :: rest)) := t_put hx hb ht in_5 tyX5 tyX5_ok nmX5 hown hK hw (kd_lt (by omega)) (ent_5 hk) cl_5 (i := 1) (by decide) (ht _ q_108) (fun x h => u_same (ht _ q_102) x h) rfl rfl (Nat.le_of_ble_eq_true rfl) (ent_5 hk) hdg kk
theorem gf_X5_9 (hx : p.tables.exec = Jvm.exec) (hb : c.code = cc) (ht : ∀ w ∈ W0, w.before args s = true) (hown : s.vm.findClass "Leastreader$Plain" = some m.cls) (hK : TK D cI cM s) (hw : TW D ad cI cM s μ H locs) (hk : kd k = 5) (hdg : decode cc pc = .ok (.getfield 9, 3)) (kk : W p l e R s m args below meth c H locs cells slots Q (F0 m (pc + 3) ls (.int (μ k 2) :: rest))) : W p l e R s m args below meth c H locs cells slots Q (F0 m pc ls (.ref (ad k) :: rest)) := t_get hx hb ht in_5 hown hK hw (kd_lt (by omega)) (ent_5 hk) cl_5 (i := 2) (by decide) (ht _ q_109) (fun x h => u_same (ht _ q_110) x h) rfl hdg kk
theorem pgf_X5_9 {v : Int32} (hx : p.tables.exec = Jvm.exec) (hb : c.code = cc) (ht : ∀ w ∈ W0, w.before args s = true) (hown : s.vm.findClass "Leastreader$Plain" = some m.cls) (hK : TK D cI cM s) (hw : TW D ad cI cM s μ H locs) (hk : kd k = 5) (hdg : decode cc pc = .ok (.putfield 9, 3)) (kk : ∀ (H1 : Heap) (locs1 : List Loc), TW D ad cI cM s (tms μ k 2 v) H1 locs1 → W p l e R s m args below meth c H1 locs1 cells slots Q (F0 m (pc + 3) ls rest)) : W p l e R s m args below meth c H locs cells slots Q (F0 m pc ls (.int v :: .ref (ad k) :: rest)) := t_put hx hb ht in_5 tyX5 tyX5_ok nmX5 hown hK hw (kd_lt (by omega)) (ent_5 hk) cl_5 (i := 2) (by decide) (ht _ q_109) (fun x h => u_same (ht _ q_110) x h) rfl rfl (Nat.le_of_ble_eq_true rfl) (ent_5 hk) hdg kk
theorem gf_X2_18 (hx : p.tables.exec = Jvm.exec) (hb : c.code = cc) (ht : ∀ w ∈ W0, w.before args s = true) (hown : s.vm.findClass "Leastreader$Machine" = some m.cls) (hK : TK D cI cM s) (hw : TW D ad cI cM s μ H locs) (hk : kd k = 2) (hdg : decode cc pc = .ok (.getfield 18, 3)) (kk : W p l e R s m args below meth c H locs cells slots Q (F0 m (pc + 3) ls (.int (μ k 2) :: rest))) : W p l e R s m args below meth c H locs cells slots Q (F0 m pc ls (.ref (ad k) :: rest)) := t_get hx hb ht in_2 hown hK hw (kd_lt (by omega)) (ent_2 hk) cl_2 (i := 2) (by decide) (ht _ q_111) (fun x h => u_same (ht _ q_112) x h) rfl hdg kk
theorem pgf_X2_18 {v : Int32} (hx : p.tables.exec = Jvm.exec) (hb : c.code = cc) (ht : ∀ w ∈ W0, w.before args s = true) (hown : s.vm.findClass "Leastreader$Machine" = some m.cls) (hK : TK D cI cM s) (hw : TW D ad cI cM s μ H locs) (hk : kd k = 2) (hdg : decode cc pc = .ok (.putfield 18, 3)) (kk : ∀ (H1 : Heap) (locs1 : List Loc), TW D ad cI cM s (tms μ k 2 v) H1 locs1 → W p l e R s m args below meth c H1 locs1 cells slots Q (F0 m (pc + 3) ls rest)) : W p l e R s m args below meth c H locs cells slots Q (F0 m pc ls (.int v :: .ref (ad k) :: rest)) := t_put hx hb ht in_2 tyX2 tyX2_ok nmX2 hown hK hw (kd_lt (by omega)) (ent_2 hk) cl_2 (i := 2) (by decide) (ht _ q_111) (fun x h => u_same (ht _ q_112) x h) rfl rfl (Nat.le_of_ble_eq_true rfl) (ent_2 hk) hdg kk
theorem gf_X4_38 (hx : p.tables.exec = Jvm.exec) (hb : c.code = cc) (ht : ∀ w ∈ W0, w.before args s = true) (hown : s.vm.findClass "Leastreader$Meeting" = some m.cls) (hK : TK D cI cM s) (hw : TW D ad cI cM s μ H locs) (hk : kd k = 5) (hdg : decode cc pc = .ok (.getfield 38, 3)) (kk : W p l e R s m args below meth c H locs cells slots Q (F0 m (pc + 3) ls (.int (μ k 2) :: rest))) : W p l e R s m args below meth c H locs cells slots Q (F0 m pc ls (.ref (ad k) :: rest)) := t_get hx hb ht in_5 hown hK hw (kd_lt (by omega)) (ent_5 hk) cl_5 (i := 2) (by decide) (ht _ q_113) (fun x h => u_same (ht _ q_110) x h) rfl hdg kk
theorem pgf_X4_38 {v : Int32} (hx : p.tables.exec = Jvm.exec) (hb : c.code = cc) (ht : ∀ w ∈ W0, w.before args s = true) (hown : s.vm.findClass "Leastreader$Meeting" = some m.cls) (hK : TK D cI cM s) (hw : TW D ad cI cM s μ H locs) (hk : kd k = 5) (hdg : decode cc pc = .ok (.putfield 38, 3)) (kk : ∀ (H1 : Heap) (locs1 : List Loc), TW D ad cI cM s (tms μ k 2 v) H1 locs1 → W p l e R s m args below meth c H1 locs1 cells slots Q (F0 m (pc + 3) ls rest)) : W p l e R s m args below meth c H locs cells slots Q (F0 m pc ls (.int v :: .ref (ad k) :: rest)) := t_put hx hb ht in_5 tyX5 tyX5_ok nmX5 hown hK hw (kd_lt (by omega)) (ent_5 hk) cl_5 (i := 2) (by decide) (ht _ q_113) (fun x h => u_same (ht _ q_110) x h) rfl rfl (Nat.le_of_ble_eq_true rfl) (ent_5 hk) hdg kk
theorem gf_X7_19 (hx : p.tables.exec = Jvm.exec) (hb : c.code = cc) (ht : ∀ w ∈ W0, w.before args s = true) (hown : s.vm.findClass "Leastreader$Table" = some m.cls) (hK : TK D cI cM s) (hw : TW D ad cI cM s μ H locs) (hk : kd k = 2 ∨ kd k = 5) (hdg : decode cc pc = .ok (.getfield 19, 3)) (kk : W p l e R s m args below meth c H locs cells slots Q (F0 m (pc + 3) ls (.int (μ k 2) :: rest))) : W p l e R s m args below meth c H locs cells slots Q (F0 m pc ls (.ref (ad k) :: rest)) := hk.elim (fun hk => t_get hx hb ht in_2 hown hK hw (kd_lt (by omega)) (ent_2 hk) cl_2 (i := 2) (by decide) (ht _ q_114) (fun _ h => h) rfl hdg kk) (fun hk => t_get hx hb ht in_5 hown hK hw (kd_lt (by omega)) (ent_5 hk) cl_5 (i := 2) (by decide) (ht _ q_114) (fun _ h => h) rfl hdg kk)
theorem pgf_X7_19 {v : Int32} (hx : p.tables.exec = Jvm.exec) (hb : c.code = cc) (ht : ∀ w ∈ W0, w.before args s = true) (hown : s.vm.findClass "Leastreader$Table" = some m.cls) (hK : TK D cI cM s) (hw : TW D ad cI cM s μ H locs) (hk : kd k = 2 ∨ kd k = 5) (hdg : decode cc pc = .ok (.putfield 19, 3)) (kk : ∀ (H1 : Heap) (locs1 : List Loc), TW D ad cI cM s (tms μ k 2 v) H1 locs1 → W p l e R s m args below meth c H1 locs1 cells slots Q (F0 m (pc + 3) ls rest)) : W p l e R s m args below meth c H locs cells slots Q (F0 m pc ls (.int v :: .ref (ad k) :: rest)) := hk.elim (fun hk => t_put hx hb ht in_2 tyX2 tyX2_ok nmX2 hown hK hw (kd_lt (by omega)) (ent_2 hk) cl_2 (i := 2) (by decide) (ht _ q_114) (fun _ h => h) rfl rfl (Nat.le_of_ble_eq_true rfl) (ent_2 hk) hdg kk) (fun hk => t_put hx hb ht in_5 tyX5 tyX5_ok nmX5 hown hK hw (kd_lt (by omega)) (ent_5 hk) cl_5 (i := 2) (by decide) (ht _ q_114) (fun _ h => h) rfl rfl (Nat.le_of_ble_eq_true rfl) (ent_5 hk) hdg kk)
theorem gf_X9_111 (hx : p.tables.exec = Jvm.exec) (hb : c.code = cc) (ht : ∀ w ∈ W0, w.before args s = true) (hown : s.vm.findClass "Leastreader" = some m.cls) (hK : TK D cI cM s) (hw : TW D ad cI cM s μ H locs) (hk : kd k = 2) (hdg : decode cc pc = .ok (.getfield 111, 3)) (kk : W p l e R s m args below meth c H locs cells slots Q (F0 m (pc + 3) ls (.int (μ k 2) :: rest))) : W p l e R s m args below meth c H locs cells slots Q (F0 m pc ls (.ref (ad k) :: rest)) := t_get hx hb ht in_2 hown hK hw (kd_lt (by omega)) (ent_2 hk) cl_2 (i := 2) (by decide) (ht _ q_115) (fun x h => u_same (ht _ q_112) x h) rfl hdg kk
theorem pgf_X9_111 {v : Int32} (hx : p.tables.exec = Jvm.exec) (hb : c.code = cc) (ht : ∀ w ∈ W0, w.before args s = true) (hown : s.vm.findClass "Leastreader" = some m.cls) (hK : TK D cI cM s) (hw : TW D ad cI cM s μ H locs) (hk : kd k = 2) (hdg : decode cc pc = .ok (.putfield 111, 3)) (kk : ∀ (H1 : Heap) (locs1 : List Loc), TW D ad cI cM s (tms μ k 2 v) H1 locs1 → W p l e R s m args below meth c H1 locs1 cells slots Q (F0 m (pc + 3) ls rest)) : W p l e R s m args below meth c H locs cells slots Q (F0 m pc ls (.int v :: .ref (ad k) :: rest)) := t_put hx hb ht in_2 tyX2 tyX2_ok nmX2 hown hK hw (kd_lt (by omega)) (ent_2 hk) cl_2 (i := 2) (by decide) (ht _ q_115) (fun x h => u_same (ht _ q_112) x h) rfl rfl (Nat.le_of_ble_eq_true rfl) (ent_2 hk) hdg kk
theorem gf_X3_86 (hx : p.tables.exec = Jvm.exec) (hb : c.code = cc) (ht : ∀ w ∈ W0, w.before args s = true) (hown : s.vm.findClass "Leastreader$Maker" = some m.cls) (hK : TK D cI cM s) (hw : TW D ad cI cM s μ H locs) (hk : kd k = 5) (hdg : decode cc pc = .ok (.getfield 86, 3)) (kk : W p l e R s m args below meth c H locs cells slots Q (F0 m (pc + 3) ls (.int (μ k 2) :: rest))) : W p l e R s m args below meth c H locs cells slots Q (F0 m pc ls (.ref (ad k) :: rest)) := t_get hx hb ht in_5 hown hK hw (kd_lt (by omega)) (ent_5 hk) cl_5 (i := 2) (by decide) (ht _ q_116) (fun x h => u_same (ht _ q_110) x h) rfl hdg kk
theorem pgf_X3_86 {v : Int32} (hx : p.tables.exec = Jvm.exec) (hb : c.code = cc) (ht : ∀ w ∈ W0, w.before args s = true) (hown : s.vm.findClass "Leastreader$Maker" = some m.cls) (hK : TK D cI cM s) (hw : TW D ad cI cM s μ H locs) (hk : kd k = 5) (hdg : decode cc pc = .ok (.putfield 86, 3)) (kk : ∀ (H1 : Heap) (locs1 : List Loc), TW D ad cI cM s (tms μ k 2 v) H1 locs1 → W p l e R s m args below meth c H1 locs1 cells slots Q (F0 m (pc + 3) ls rest)) : W p l e R s m args below meth c H locs cells slots Q (F0 m pc ls (.int v :: .ref (ad k) :: rest)) := t_put hx hb ht in_5 tyX5 tyX5_ok nmX5 hown hK hw (kd_lt (by omega)) (ent_5 hk) cl_5 (i := 2) (by decide) (ht _ q_116) (fun x h => u_same (ht _ q_110) x h) rfl rfl (Nat.le_of_ble_eq_true rfl) (ent_5 hk) hdg kk
theorem gf_X3_93 (hx : p.tables.exec = Jvm.exec) (hb : c.code = cc) (ht : ∀ w ∈ W0, w.before args s = true) (hown : s.vm.findClass "Leastreader$Maker" = some m.cls) (hK : TK D cI cM s) (hw : TW D ad cI cM s μ H locs) (hk : kd k = 2) (hdg : decode cc pc = .ok (.getfield 93, 3)) (kk : W p l e R s m args below meth c H locs cells slots Q (F0 m (pc + 3) ls (.int (μ k 2) :: rest))) : W p l e R s m args below meth c H locs cells slots Q (F0 m pc ls (.ref (ad k) :: rest)) := t_get hx hb ht in_2 hown hK hw (kd_lt (by omega)) (ent_2 hk) cl_2 (i := 2) (by decide) (ht _ q_117) (fun x h => u_same (ht _ q_112) x h) rfl hdg kk
theorem pgf_X3_93 {v : Int32} (hx : p.tables.exec = Jvm.exec) (hb : c.code = cc) (ht : ∀ w ∈ W0, w.before args s = true) (hown : s.vm.findClass "Leastreader$Maker" = some m.cls) (hK : TK D cI cM s) (hw : TW D ad cI cM s μ H locs) (hk : kd k = 2) (hdg : decode cc pc = .ok (.putfield 93, 3)) (kk : ∀ (H1 : Heap) (locs1 : List Loc), TW D ad cI cM s (tms μ k 2 v) H1 locs1 → W p l e R s m args below meth c H1 locs1 cells slots Q (F0 m (pc + 3) ls rest)) : W p l e R s m args below meth c H locs cells slots Q (F0 m pc ls (.int v :: .ref (ad k) :: rest)) := t_put hx hb ht in_2 tyX2 tyX2_ok nmX2 hown hK hw (kd_lt (by omega)) (ent_2 hk) cl_2 (i := 2) (by decide) (ht _ q_117) (fun x h => u_same (ht _ q_112) x h) rfl rfl (Nat.le_of_ble_eq_true rfl) (ent_2 hk) hdg kk
theorem gf_X2_60 (hx : p.tables.exec = Jvm.exec) (hb : c.code = cc) (ht : ∀ w ∈ W0, w.before args s = true) (hown : s.vm.findClass "Leastreader$Machine" = some m.cls) (hK : TK D cI cM s) (hw : TW D ad cI cM s μ H locs) (hk : kd k = 5) (hdg : decode cc pc = .ok (.getfield 60, 3)) (kk : W p l e R s m args below meth c H locs cells slots Q (F0 m (pc + 3) ls (.int (μ k 2) :: rest))) : W p l e R s m args below meth c H locs cells slots Q (F0 m pc ls (.ref (ad k) :: rest)) := t_get hx hb ht in_5 hown hK hw (kd_lt (by omega)) (ent_5 hk) cl_5 (i := 2) (by decide) (ht _ q_118) (fun x h => u_same (ht _ q_110) x h) rfl hdg kk
theorem pgf_X2_60 {v : Int32} (hx : p.tables.exec = Jvm.exec) (hb : c.code = cc) (ht : ∀ w ∈ W0, w.before args s = true) (hown : s.vm.findClass "Leastreader$Machine" = some m.cls) (hK : TK D cI cM s) (hw : TW D ad cI cM s μ H locs) (hk : kd k = 5) (hdg : decode cc pc = .ok (.putfield 60, 3)) (kk : ∀ (H1 : Heap) (locs1 : List Loc), TW D ad cI cM s (tms μ k 2 v) H1 locs1 → W p l e R s m args below meth c H1 locs1 cells slots Q (F0 m (pc + 3) ls rest)) : W p l e R s m args below meth c H locs cells slots Q (F0 m pc ls (.int v :: .ref (ad k) :: rest)) := t_put hx hb ht in_5 tyX5 tyX5_ok nmX5 hown hK hw (kd_lt (by omega)) (ent_5 hk) cl_5 (i := 2) (by decide) (ht _ q_118) (fun x h => u_same (ht _ q_110) x h) rfl rfl (Nat.le_of_ble_eq_true rfl) (ent_5 hk) hdg kk
theorem gf_X0_7 (hx : p.tables.exec = Jvm.exec) (hb : c.code = cc) (ht : ∀ w ∈ W0, w.before args s = true) (hown : s.vm.findClass "Leastreader$Drawer" = some m.cls) (hK : TK D cI cM s) (hw : TW D ad cI cM s μ H locs) (hk : kd k = 0) (hdg : decode cc pc = .ok (.getfield 7, 3)) (kk : W p l e R s m args below meth c H locs cells slots Q (F0 m (pc + 3) ls (.int (μ k 0) :: rest))) : W p l e R s m args below meth c H locs cells slots Q (F0 m pc ls (.ref (ad k) :: rest)) := t_get hx hb ht in_0 hown hK hw (kd_lt (by omega)) (ent_0 hk) cl_0 (i := 0) (by decide) (ht _ q_135) (fun _ h => h) rfl hdg kk
theorem pgf_X0_7 {v : Int32} (hx : p.tables.exec = Jvm.exec) (hb : c.code = cc) (ht : ∀ w ∈ W0, w.before args s = true) (hown : s.vm.findClass "Leastreader$Drawer" = some m.cls) (hK : TK D cI cM s) (hw : TW D ad cI cM s μ H locs) (hk : kd k = 0) (hdg : decode cc pc = .ok (.putfield 7, 3)) (kk : ∀ (H1 : Heap) (locs1 : List Loc), TW D ad cI cM s (tms μ k 0 v) H1 locs1 → W p l e R s m args below meth c H1 locs1 cells slots Q (F0 m (pc + 3) ls rest)) : W p l e R s m args below meth c H locs cells slots Q (F0 m pc ls (.int v :: .ref (ad k) :: rest)) := t_put hx hb ht in_0 tyX0 tyX0_ok nmX0 hown hK hw (kd_lt (by omega)) (ent_0 hk) cl_0 (i := 0) (by decide) (ht _ q_135) (fun _ h => h) rfl rfl (Nat.le_of_ble_eq_true rfl) (ent_0 hk) hdg kk
theorem gf_X6_9 (hx : p.tables.exec = Jvm.exec) (hb : c.code = cc) (ht : ∀ w ∈ W0, w.before args s = true) (hown : s.vm.findClass "Leastreader$Row" = some m.cls) (hK : TK D cI cM s) (hw : TW D ad cI cM s μ H locs) (hk : kd k = 6) (hdg : decode cc pc = .ok (.getfield 9, 3)) (kk : W p l e R s m args below meth c H locs cells slots Q (F0 m (pc + 3) ls (.ref (ad (k + 1)) :: rest))) : W p l e R s m args below meth c H locs cells slots Q (F0 m pc ls (.ref (ad k) :: rest)) := t_get hx hb ht in_6 hown hK hw (kd_lt (by omega)) (ent_6 hk) cl_6 (i := 0) (by decide) (ht _ q_151) (fun _ h => h) rfl hdg kk
theorem gf_X1_14 (hx : p.tables.exec = Jvm.exec) (hb : c.code = cc) (ht : ∀ w ∈ W0, w.before args s = true) (hown : s.vm.findClass "Leastreader$Likeness" = some m.cls) (hK : TK D cI cM s) (hw : TW D ad cI cM s μ H locs) (hk : kd k = 1) (hdg : decode cc pc = .ok (.getfield 14, 3)) (kk : W p l e R s m args below meth c H locs cells slots Q (F0 m (pc + 3) ls (.ref (ad (k + 1)) :: rest))) : W p l e R s m args below meth c H locs cells slots Q (F0 m pc ls (.ref (ad k) :: rest)) := t_get hx hb ht in_1 hown hK hw (kd_lt (by omega)) (ent_1 hk) cl_1 (i := 0) (by decide) (ht _ q_163) (fun _ h => h) rfl hdg kk
theorem gf_X1_20 (hx : p.tables.exec = Jvm.exec) (hb : c.code = cc) (ht : ∀ w ∈ W0, w.before args s = true) (hown : s.vm.findClass "Leastreader$Likeness" = some m.cls) (hK : TK D cI cM s) (hw : TW D ad cI cM s μ H locs) (hk : kd k = 1) (hdg : decode cc pc = .ok (.getfield 20, 3)) (kk : W p l e R s m args below meth c H locs cells slots Q (F0 m (pc + 3) ls (.ref (ad (k + 3)) :: rest))) : W p l e R s m args below meth c H locs cells slots Q (F0 m pc ls (.ref (ad k) :: rest)) := t_get hx hb ht in_1 hown hK hw (kd_lt (by omega)) (ent_1 hk) cl_1 (i := 1) (by decide) (ht _ q_164) (fun _ h => h) rfl hdg kk
theorem gf_X1_23 (hx : p.tables.exec = Jvm.exec) (hb : c.code = cc) (ht : ∀ w ∈ W0, w.before args s = true) (hown : s.vm.findClass "Leastreader$Likeness" = some m.cls) (hK : TK D cI cM s) (hw : TW D ad cI cM s μ H locs) (hk : kd k = 1) (hdg : decode cc pc = .ok (.getfield 23, 3)) (kk : W p l e R s m args below meth c H locs cells slots Q (F0 m (pc + 3) ls (.ref (ad (k + 5)) :: rest))) : W p l e R s m args below meth c H locs cells slots Q (F0 m pc ls (.ref (ad k) :: rest)) := t_get hx hb ht in_1 hown hK hw (kd_lt (by omega)) (ent_1 hk) cl_1 (i := 2) (by decide) (ht _ q_165) (fun _ h => h) rfl hdg kk
theorem gf_X3_14 (hx : p.tables.exec = Jvm.exec) (hb : c.code = cc) (ht : ∀ w ∈ W0, w.before args s = true) (hown : s.vm.findClass "Leastreader$Maker" = some m.cls) (hK : TK D cI cM s) (hw : TW D ad cI cM s μ H locs) (hk : kd k = 3) (hdg : decode cc pc = .ok (.getfield 14, 3)) (kk : W p l e R s m args below meth c H locs cells slots Q (F0 m (pc + 3) ls (.ref (ad (k + 1)) :: rest))) : W p l e R s m args below meth c H locs cells slots Q (F0 m pc ls (.ref (ad k) :: rest)) := t_get hx hb ht in_3 hown hK hw (kd_lt (by omega)) (ent_3 hk) cl_3 (i := 0) (by decide) (ht _ q_185) (fun _ h => h) rfl hdg kk
theorem gf_X3_20 (hx : p.tables.exec = Jvm.exec) (hb : c.code = cc) (ht : ∀ w ∈ W0, w.before args s = true) (hown : s.vm.findClass "Leastreader$Maker" = some m.cls) (hK : TK D cI cM s) (hw : TW D ad cI cM s μ H locs) (hk : kd k = 3) (hdg : decode cc pc = .ok (.getfield 20, 3)) (kk : W p l e R s m args below meth c H locs cells slots Q (F0 m (pc + 3) ls (.ref (ad (k + 3)) :: rest))) : W p l e R s m args below meth c H locs cells slots Q (F0 m pc ls (.ref (ad k) :: rest)) := t_get hx hb ht in_3 hown hK hw (kd_lt (by omega)) (ent_3 hk) cl_3 (i := 1) (by decide) (ht _ q_186) (fun _ h => h) rfl hdg kk
theorem gf_X3_23 (hx : p.tables.exec = Jvm.exec) (hb : c.code = cc) (ht : ∀ w ∈ W0, w.before args s = true) (hown : s.vm.findClass "Leastreader$Maker" = some m.cls) (hK : TK D cI cM s) (hw : TW D ad cI cM s μ H locs) (hk : kd k = 3) (hdg : decode cc pc = .ok (.getfield 23, 3)) (kk : W p l e R s m args below meth c H locs cells slots Q (F0 m (pc + 3) ls (.ref (ad (k + 5)) :: rest))) : W p l e R s m args below meth c H locs cells slots Q (F0 m pc ls (.ref (ad k) :: rest)) := t_get hx hb ht in_3 hown hK hw (kd_lt (by omega)) (ent_3 hk) cl_3 (i := 2) (by decide) (ht _ q_187) (fun _ h => h) rfl hdg kk
theorem gf_X3_29 (hx : p.tables.exec = Jvm.exec) (hb : c.code = cc) (ht : ∀ w ∈ W0, w.before args s = true) (hown : s.vm.findClass "Leastreader$Maker" = some m.cls) (hK : TK D cI cM s) (hw : TW D ad cI cM s μ H locs) (hk : kd k = 3) (hdg : decode cc pc = .ok (.getfield 29, 3)) (kk : W p l e R s m args below meth c H locs cells slots Q (F0 m (pc + 3) ls (.ref (ad (k + 7)) :: rest))) : W p l e R s m args below meth c H locs cells slots Q (F0 m pc ls (.ref (ad k) :: rest)) := t_get hx hb ht in_3 hown hK hw (kd_lt (by omega)) (ent_3 hk) cl_3 (i := 3) (by decide) (ht _ q_188) (fun _ h => h) rfl hdg kk
theorem gf_X3_36 (hx : p.tables.exec = Jvm.exec) (hb : c.code = cc) (ht : ∀ w ∈ W0, w.before args s = true) (hown : s.vm.findClass "Leastreader$Maker" = some m.cls) (hK : TK D cI cM s) (hw : TW D ad cI cM s μ H locs) (hk : kd k = 3) (hdg : decode cc pc = .ok (.getfield 36, 3)) (kk : W p l e R s m args below meth c H locs cells slots Q (F0 m (pc + 3) ls (.ref (ad (k + 14)) :: rest))) : W p l e R s m args below meth c H locs cells slots Q (F0 m pc ls (.ref (ad k) :: rest)) := t_get hx hb ht in_3 hown hK hw (kd_lt (by omega)) (ent_3 hk) cl_3 (i := 4) (by decide) (ht _ q_189) (fun _ h => h) rfl hdg kk
theorem gf_X3_40 (hx : p.tables.exec = Jvm.exec) (hb : c.code = cc) (ht : ∀ w ∈ W0, w.before args s = true) (hown : s.vm.findClass "Leastreader$Maker" = some m.cls) (hK : TK D cI cM s) (hw : TW D ad cI cM s μ H locs) (hk : kd k = 3) (hdg : decode cc pc = .ok (.getfield 40, 3)) (kk : W p l e R s m args below meth c H locs cells slots Q (F0 m (pc + 3) ls (.ref (ad (k + 16)) :: rest))) : W p l e R s m args below meth c H locs cells slots Q (F0 m pc ls (.ref (ad k) :: rest)) := t_get hx hb ht in_3 hown hK hw (kd_lt (by omega)) (ent_3 hk) cl_3 (i := 5) (by decide) (ht _ q_190) (fun _ h => h) rfl hdg kk
theorem gf_X3_46 (hx : p.tables.exec = Jvm.exec) (hb : c.code = cc) (ht : ∀ w ∈ W0, w.before args s = true) (hown : s.vm.findClass "Leastreader$Maker" = some m.cls) (hK : TK D cI cM s) (hw : TW D ad cI cM s μ H locs) (hk : kd k = 3) (hdg : decode cc pc = .ok (.getfield 46, 3)) (kk : W p l e R s m args below meth c H locs cells slots Q (F0 m (pc + 3) ls (.ref (ad (k + 18)) :: rest))) : W p l e R s m args below meth c H locs cells slots Q (F0 m pc ls (.ref (ad k) :: rest)) := t_get hx hb ht in_3 hown hK hw (kd_lt (by omega)) (ent_3 hk) cl_3 (i := 6) (by decide) (ht _ q_191) (fun _ h => h) rfl hdg kk
theorem gf_X4_14 (hx : p.tables.exec = Jvm.exec) (hb : c.code = cc) (ht : ∀ w ∈ W0, w.before args s = true) (hown : s.vm.findClass "Leastreader$Meeting" = some m.cls) (hK : TK D cI cM s) (hw : TW D ad cI cM s μ H locs) (hk : kd k = 4) (hdg : decode cc pc = .ok (.getfield 14, 3)) (kk : W p l e R s m args below meth c H locs cells slots Q (F0 m (pc + 3) ls (.ref (ad (k + 1)) :: rest))) : W p l e R s m args below meth c H locs cells slots Q (F0 m pc ls (.ref (ad k) :: rest)) := t_get hx hb ht in_4 hown hK hw (kd_lt (by omega)) (ent_4 hk) cl_4 (i := 0) (by decide) (ht _ q_215) (fun _ h => h) rfl hdg kk
theorem gf_X4_20 (hx : p.tables.exec = Jvm.exec) (hb : c.code = cc) (ht : ∀ w ∈ W0, w.before args s = true) (hown : s.vm.findClass "Leastreader$Meeting" = some m.cls) (hK : TK D cI cM s) (hw : TW D ad cI cM s μ H locs) (hk : kd k = 4) (hdg : decode cc pc = .ok (.getfield 20, 3)) (kk : W p l e R s m args below meth c H locs cells slots Q (F0 m (pc + 3) ls (.ref (ad (k + 3)) :: rest))) : W p l e R s m args below meth c H locs cells slots Q (F0 m pc ls (.ref (ad k) :: rest)) := t_get hx hb ht in_4 hown hK hw (kd_lt (by omega)) (ent_4 hk) cl_4 (i := 1) (by decide) (ht _ q_216) (fun _ h => h) rfl hdg kk
theorem gf_X4_23 (hx : p.tables.exec = Jvm.exec) (hb : c.code = cc) (ht : ∀ w ∈ W0, w.before args s = true) (hown : s.vm.findClass "Leastreader$Meeting" = some m.cls) (hK : TK D cI cM s) (hw : TW D ad cI cM s μ H locs) (hk : kd k = 4) (hdg : decode cc pc = .ok (.getfield 23, 3)) (kk : W p l e R s m args below meth c H locs cells slots Q (F0 m (pc + 3) ls (.ref (ad (k + 5)) :: rest))) : W p l e R s m args below meth c H locs cells slots Q (F0 m pc ls (.ref (ad k) :: rest)) := t_get hx hb ht in_4 hown hK hw (kd_lt (by omega)) (ent_4 hk) cl_4 (i := 2) (by decide) (ht _ q_217) (fun _ h => h) rfl hdg kk
theorem gf_X4_26 (hx : p.tables.exec = Jvm.exec) (hb : c.code = cc) (ht : ∀ w ∈ W0, w.before args s = true) (hown : s.vm.findClass "Leastreader$Meeting" = some m.cls) (hK : TK D cI cM s) (hw : TW D ad cI cM s μ H locs) (hk : kd k = 4) (hdg : decode cc pc = .ok (.getfield 26, 3)) (kk : W p l e R s m args below meth c H locs cells slots Q (F0 m (pc + 3) ls (.ref (ad (k + 7)) :: rest))) : W p l e R s m args below meth c H locs cells slots Q (F0 m pc ls (.ref (ad k) :: rest)) := t_get hx hb ht in_4 hown hK hw (kd_lt (by omega)) (ent_4 hk) cl_4 (i := 3) (by decide) (ht _ q_218) (fun _ h => h) rfl hdg kk
theorem gf_X4_29 (hx : p.tables.exec = Jvm.exec) (hb : c.code = cc) (ht : ∀ w ∈ W0, w.before args s = true) (hown : s.vm.findClass "Leastreader$Meeting" = some m.cls) (hK : TK D cI cM s) (hw : TW D ad cI cM s μ H locs) (hk : kd k = 4) (hdg : decode cc pc = .ok (.getfield 29, 3)) (kk : W p l e R s m args below meth c H locs cells slots Q (F0 m (pc + 3) ls (.ref (ad (k + 9)) :: rest))) : W p l e R s m args below meth c H locs cells slots Q (F0 m pc ls (.ref (ad k) :: rest)) := t_get hx hb ht in_4 hown hK hw (kd_lt (by omega)) (ent_4 hk) cl_4 (i := 4) (by decide) (ht _ q_219) (fun _ h => h) rfl hdg kk
theorem gf_X4_32 (hx : p.tables.exec = Jvm.exec) (hb : c.code = cc) (ht : ∀ w ∈ W0, w.before args s = true) (hown : s.vm.findClass "Leastreader$Meeting" = some m.cls) (hK : TK D cI cM s) (hw : TW D ad cI cM s μ H locs) (hk : kd k = 4) (hdg : decode cc pc = .ok (.getfield 32, 3)) (kk : W p l e R s m args below meth c H locs cells slots Q (F0 m (pc + 3) ls (.ref (ad (k + 11)) :: rest))) : W p l e R s m args below meth c H locs cells slots Q (F0 m pc ls (.ref (ad k) :: rest)) := t_get hx hb ht in_4 hown hK hw (kd_lt (by omega)) (ent_4 hk) cl_4 (i := 5) (by decide) (ht _ q_220) (fun _ h => h) rfl hdg kk
theorem gf_X4_44 (hx : p.tables.exec = Jvm.exec) (hb : c.code = cc) (ht : ∀ w ∈ W0, w.before args s = true) (hown : s.vm.findClass "Leastreader$Meeting" = some m.cls) (hK : TK D cI cM s) (hw : TW D ad cI cM s μ H locs) (hk : kd k = 4) (hdg : decode cc pc = .ok (.getfield 44, 3)) (kk : W p l e R s m args below meth c H locs cells slots Q (F0 m (pc + 3) ls (.int (μ k 6) :: rest))) : W p l e R s m args below meth c H locs cells slots Q (F0 m pc ls (.ref (ad k) :: rest)) := t_get hx hb ht in_4 hown hK hw (kd_lt (by omega)) (ent_4 hk) cl_4 (i := 6) (by decide) (ht _ q_221) (fun _ h => h) rfl hdg kk
theorem pgf_X4_44 {v : Int32} (hx : p.tables.exec = Jvm.exec) (hb : c.code = cc) (ht : ∀ w ∈ W0, w.before args s = true) (hown : s.vm.findClass "Leastreader$Meeting" = some m.cls) (hK : TK D cI cM s) (hw : TW D ad cI cM s μ H locs) (hk : kd k = 4) (hdg : decode cc pc = .ok (.putfield 44, 3)) (kk : ∀ (H1 : Heap) (locs1 : List Loc), TW D ad cI cM s (tms μ k 6 v) H1 locs1 → W p l e R s m args below meth c H1 locs1 cells slots Q (F0 m (pc + 3) ls rest)) : W p l e R s m args below meth c H locs cells slots Q (F0 m pc ls (.int v :: .ref (ad k) :: rest)) := t_put hx hb ht in_4 tyX4 tyX4_ok nmX4 hown hK hw (kd_lt (by omega)) (ent_4 hk) cl_4 (i := 6) (by decide) (ht _ q_221) (fun _ h => h) rfl rfl (Nat.le_of_ble_eq_true rfl) (ent_4 hk) hdg kk
theorem gf_X4_47 (hx : p.tables.exec = Jvm.exec) (hb : c.code = cc) (ht : ∀ w ∈ W0, w.before args s = true) (hown : s.vm.findClass "Leastreader$Meeting" = some m.cls) (hK : TK D cI cM s) (hw : TW D ad cI cM s μ H locs) (hk : kd k = 4) (hdg : decode cc pc = .ok (.getfield 47, 3)) (kk : W p l e R s m args below meth c H locs cells slots Q (F0 m (pc + 3) ls (.int (μ k 7) :: rest))) : W p l e R s m args below meth c H locs cells slots Q (F0 m pc ls (.ref (ad k) :: rest)) := t_get hx hb ht in_4 hown hK hw (kd_lt (by omega)) (ent_4 hk) cl_4 (i := 7) (by decide) (ht _ q_222) (fun _ h => h) rfl hdg kk
theorem pgf_X4_47 {v : Int32} (hx : p.tables.exec = Jvm.exec) (hb : c.code = cc) (ht : ∀ w ∈ W0, w.before args s = true) (hown : s.vm.findClass "Leastreader$Meeting" = some m.cls) (hK : TK D cI cM s) (hw : TW D ad cI cM s μ H locs) (hk : kd k = 4) (hdg : decode cc pc = .ok (.putfield 47, 3)) (kk : ∀ (H1 : Heap) (locs1 : List Loc), TW D ad cI cM s (tms μ k 7 v) H1 locs1 → W p l e R s m args below meth c H1 locs1 cells slots Q (F0 m (pc + 3) ls rest)) : W p l e R s m args below meth c H locs cells slots Q (F0 m pc ls (.int v :: .ref (ad k) :: rest)) := t_put hx hb ht in_4 tyX4 tyX4_ok nmX4 hown hK hw (kd_lt (by omega)) (ent_4 hk) cl_4 (i := 7) (by decide) (ht _ q_222) (fun _ h => h) rfl rfl (Nat.le_of_ble_eq_true rfl) (ent_4 hk) hdg kk
theorem gf_X4_50 (hx : p.tables.exec = Jvm.exec) (hb : c.code = cc) (ht : ∀ w ∈ W0, w.before args s = true) (hown : s.vm.findClass "Leastreader$Meeting" = some m.cls) (hK : TK D cI cM s) (hw : TW D ad cI cM s μ H locs) (hk : kd k = 4) (hdg : decode cc pc = .ok (.getfield 50, 3)) (kk : W p l e R s m args below meth c H locs cells slots Q (F0 m (pc + 3) ls (.int (μ k 8) :: rest))) : W p l e R s m args below meth c H locs cells slots Q (F0 m pc ls (.ref (ad k) :: rest)) := t_get hx hb ht in_4 hown hK hw (kd_lt (by omega)) (ent_4 hk) cl_4 (i := 8) (by decide) (ht _ q_223) (fun _ h => h) rfl hdg kk
theorem pgf_X4_50 {v : Int32} (hx : p.tables.exec = Jvm.exec) (hb : c.code = cc) (ht : ∀ w ∈ W0, w.before args s = true) (hown : s.vm.findClass "Leastreader$Meeting" = some m.cls) (hK : TK D cI cM s) (hw : TW D ad cI cM s μ H locs) (hk : kd k = 4) (hdg : decode cc pc = .ok (.putfield 50, 3)) (kk : ∀ (H1 : Heap) (locs1 : List Loc), TW D ad cI cM s (tms μ k 8 v) H1 locs1 → W p l e R s m args below meth c H1 locs1 cells slots Q (F0 m (pc + 3) ls rest)) : W p l e R s m args below meth c H locs cells slots Q (F0 m pc ls (.int v :: .ref (ad k) :: rest)) := t_put hx hb ht in_4 tyX4 tyX4_ok nmX4 hown hK hw (kd_lt (by omega)) (ent_4 hk) cl_4 (i := 8) (by decide) (ht _ q_223) (fun _ h => h) rfl rfl (Nat.le_of_ble_eq_true rfl) (ent_4 hk) hdg kk
theorem gf_X5_23 (hx : p.tables.exec = Jvm.exec) (hb : c.code = cc) (ht : ∀ w ∈ W0, w.before args s = true) (hN : NW s) (hown : s.vm.findClass "Leastreader$Plain" = some m.cls) (hK : TK D cI cM s) (hw : TW D ad cI cM s μ H locs) (hk : kd k = 4) (hdg : decode cc pc = .ok (.getfield 23, 3)) (kk : W p l e R s m args below meth c H locs cells slots Q (F0 m (pc + 3) ls (.int (μ k 8) :: rest))) : W p l e R s m args below meth c H locs cells slots Q (F0 m pc ls (.ref (ad k) :: rest)) := t_getN hx hb ht in_4 hown hK hw (kd_lt (by omega)) (ent_4 hk) cl_4 (i := 8) (by decide) (nwu_224 hN) (fun _ h => h) rfl hdg kk
theorem pgf_X5_23 {v : Int32} (hx : p.tables.exec = Jvm.exec) (hb : c.code = cc) (ht : ∀ w ∈ W0, w.before args s = true) (hN : NW s) (hown : s.vm.findClass "Leastreader$Plain" = some m.cls) (hK : TK D cI cM s) (hw : TW D ad cI cM s μ H locs) (hk : kd k = 4) (hdg : decode cc pc = .ok (.putfield 23, 3)) (kk : ∀ (H1 : Heap) (locs1 : List Loc), TW D ad cI cM s (tms μ k 8 v) H1 locs1 → W p l e R s m args below meth c H1 locs1 cells slots Q (F0 m (pc + 3) ls rest)) : W p l e R s m args below meth c H locs cells slots Q (F0 m pc ls (.int v :: .ref (ad k) :: rest)) := t_putN hx hb ht in_4 tyX4 tyX4_ok nmX4 hown hK hw (kd_lt (by omega)) (ent_4 hk) cl_4 (i := 8) (by decide) (nwu_224 hN) (fun _ h => h) rfl rfl (Nat.le_of_ble_eq_true rfl) (ent_4 hk) hdg kk
theorem gf_X9_239 (hx : p.tables.exec = Jvm.exec) (hb : c.code = cc) (ht : ∀ w ∈ W0, w.before args s = true) (hN : NW s) (hown : s.vm.findClass "Leastreader" = some m.cls) (hK : TK D cI cM s) (hw : TW D ad cI cM s μ H locs) (hk : kd k = 4) (hdg : decode cc pc = .ok (.getfield 239, 3)) (kk : W p l e R s m args below meth c H locs cells slots Q (F0 m (pc + 3) ls (.int (μ k 8) :: rest))) : W p l e R s m args below meth c H locs cells slots Q (F0 m pc ls (.ref (ad k) :: rest)) := t_getN hx hb ht in_4 hown hK hw (kd_lt (by omega)) (ent_4 hk) cl_4 (i := 8) (by decide) (nwu_225 hN) (fun _ h => h) rfl hdg kk
theorem pgf_X9_239 {v : Int32} (hx : p.tables.exec = Jvm.exec) (hb : c.code = cc) (ht : ∀ w ∈ W0, w.before args s = true) (hN : NW s) (hown : s.vm.findClass "Leastreader" = some m.cls) (hK : TK D cI cM s) (hw : TW D ad cI cM s μ H locs) (hk : kd k = 4) (hdg : decode cc pc = .ok (.putfield 239, 3)) (kk : ∀ (H1 : Heap) (locs1 : List Loc), TW D ad cI cM s (tms μ k 8 v) H1 locs1 → W p l e R s m args below meth c H1 locs1 cells slots Q (F0 m (pc + 3) ls rest)) : W p l e R s m args below meth c H locs cells slots Q (F0 m pc ls (.int v :: .ref (ad k) :: rest)) := t_putN hx hb ht in_4 tyX4 tyX4_ok nmX4 hown hK hw (kd_lt (by omega)) (ent_4 hk) cl_4 (i := 8) (by decide) (nwu_225 hN) (fun _ h => h) rfl rfl (Nat.le_of_ble_eq_true rfl) (ent_4 hk) hdg kk
theorem gf_X4_53 (hx : p.tables.exec = Jvm.exec) (hb : c.code = cc) (ht : ∀ w ∈ W0, w.before args s = true) (hown : s.vm.findClass "Leastreader$Meeting" = some m.cls) (hK : TK D cI cM s) (hw : TW D ad cI cM s μ H locs) (hk : kd k = 4) (hdg : decode cc pc = .ok (.getfield 53, 3)) (kk : W p l e R s m args below meth c H locs cells slots Q (F0 m (pc + 3) ls (.int (μ k 9) :: rest))) : W p l e R s m args below meth c H locs cells slots Q (F0 m pc ls (.ref (ad k) :: rest)) := t_get hx hb ht in_4 hown hK hw (kd_lt (by omega)) (ent_4 hk) cl_4 (i := 9) (by decide) (ht _ q_226) (fun _ h => h) rfl hdg kk
theorem pgf_X4_53 {v : Int32} (hx : p.tables.exec = Jvm.exec) (hb : c.code = cc) (ht : ∀ w ∈ W0, w.before args s = true) (hown : s.vm.findClass "Leastreader$Meeting" = some m.cls) (hK : TK D cI cM s) (hw : TW D ad cI cM s μ H locs) (hk : kd k = 4) (hdg : decode cc pc = .ok (.putfield 53, 3)) (kk : ∀ (H1 : Heap) (locs1 : List Loc), TW D ad cI cM s (tms μ k 9 v) H1 locs1 → W p l e R s m args below meth c H1 locs1 cells slots Q (F0 m (pc + 3) ls rest)) : W p l e R s m args below meth c H locs cells slots Q (F0 m pc ls (.int v :: .ref (ad k) :: rest)) := t_put hx hb ht in_4 tyX4 tyX4_ok nmX4 hown hK hw (kd_lt (by omega)) (ent_4 hk) cl_4 (i := 9) (by decide) (ht _ q_226) (fun _ h => h) rfl rfl (Nat.le_of_ble_eq_true rfl) (ent_4 hk) hdg kk
theorem gf_X9_227 (hx : p.tables.exec = Jvm.exec) (hb : c.code = cc) (ht : ∀ w ∈ W0, w.before args s = true) (hN : NW s) (hown : s.vm.findClass "Leastreader" = some m.cls) (hK : TK D cI cM s) (hw : TW D ad cI cM s μ H locs) (hk : kd k = 4) (hdg : decode cc pc = .ok (.getfield 227, 3)) (kk : W p l e R s m args below meth c H locs cells slots Q (F0 m (pc + 3) ls (.int (μ k 9) :: rest))) : W p l e R s m args below meth c H locs cells slots Q (F0 m pc ls (.ref (ad k) :: rest)) := t_getN hx hb ht in_4 hown hK hw (kd_lt (by omega)) (ent_4 hk) cl_4 (i := 9) (by decide) (nwu_227 hN) (fun _ h => h) rfl hdg kk
theorem pgf_X9_227 {v : Int32} (hx : p.tables.exec = Jvm.exec) (hb : c.code = cc) (ht : ∀ w ∈ W0, w.before args s = true) (hN : NW s) (hown : s.vm.findClass "Leastreader" = some m.cls) (hK : TK D cI cM s) (hw : TW D ad cI cM s μ H locs) (hk : kd k = 4) (hdg : decode cc pc = .ok (.putfield 227, 3)) (kk : ∀ (H1 : Heap) (locs1 : List Loc), TW D ad cI cM s (tms μ k 9 v) H1 locs1 → W p l e R s m args below meth c H1 locs1 cells slots Q (F0 m (pc + 3) ls rest)) : W p l e R s m args below meth c H locs cells slots Q (F0 m pc ls (.int v :: .ref (ad k) :: rest)) := t_putN hx hb ht in_4 tyX4 tyX4_ok nmX4 hown hK hw (kd_lt (by omega)) (ent_4 hk) cl_4 (i := 9) (by decide) (nwu_227 hN) (fun _ h => h) rfl rfl (Nat.le_of_ble_eq_true rfl) (ent_4 hk) hdg kk
theorem gf_X8_14 (hx : p.tables.exec = Jvm.exec) (hb : c.code = cc) (ht : ∀ w ∈ W0, w.before args s = true) (hown : s.vm.findClass "Leastreader$Tails" = some m.cls) (hK : TK D cI cM s) (hw : TW D ad cI cM s μ H locs) (hk : kd k = 7) (hdg : decode cc pc = .ok (.getfield 14, 3)) (kk : W p l e R s m args below meth c H locs cells slots Q (F0 m (pc + 3) ls (.ref (ad (k + 1)) :: rest))) : W p l e R s m args below meth c H locs cells slots Q (F0 m pc ls (.ref (ad k) :: rest)) := t_get hx hb ht in_7 hown hK hw (kd_lt (by omega)) (ent_7 hk) cl_7 (i := 0) (by decide) (ht _ q_257) (fun _ h => h) rfl hdg kk
theorem gf_X9_11 (hx : p.tables.exec = Jvm.exec) (hb : c.code = cc) (ht : ∀ w ∈ W0, w.before args s = true) (hown : s.vm.findClass "Leastreader" = some m.cls) (hK : TK D cI cM s) (hw : TW D ad cI cM s μ H locs) (hk : kd k = 8) (hdg : decode cc pc = .ok (.getfield 11, 3)) (kk : W p l e R s m args below meth c H locs cells slots Q (F0 m (pc + 3) ls (.ref (ad 1) :: rest))) : W p l e R s m args below meth c H locs cells slots Q (F0 m pc ls (.ref (ad k) :: rest)) := t_get hx hb ht in_8 hown hK hw (kd_lt (by omega)) (ent_8 hk) cl_8 (i := 0) (by decide) (ht _ q_263) (fun _ h => h) rfl hdg kk
theorem gf_X9_18 (hx : p.tables.exec = Jvm.exec) (hb : c.code = cc) (ht : ∀ w ∈ W0, w.before args s = true) (hown : s.vm.findClass "Leastreader" = some m.cls) (hK : TK D cI cM s) (hw : TW D ad cI cM s μ H locs) (hk : kd k = 8) (hdg : decode cc pc = .ok (.getfield 18, 3)) (kk : W p l e R s m args below meth c H locs cells slots Q (F0 m (pc + 3) ls (.ref (ad 10) :: rest))) : W p l e R s m args below meth c H locs cells slots Q (F0 m pc ls (.ref (ad k) :: rest)) := t_get hx hb ht in_8 hown hK hw (kd_lt (by omega)) (ent_8 hk) cl_8 (i := 1) (by decide) (ht _ q_264) (fun _ h => h) rfl hdg kk
theorem gf_X9_22 (hx : p.tables.exec = Jvm.exec) (hb : c.code = cc) (ht : ∀ w ∈ W0, w.before args s = true) (hown : s.vm.findClass "Leastreader" = some m.cls) (hK : TK D cI cM s) (hw : TW D ad cI cM s μ H locs) (hk : kd k = 8) (hdg : decode cc pc = .ok (.getfield 22, 3)) (kk : W p l e R s m args below meth c H locs cells slots Q (F0 m (pc + 3) ls (.ref (ad 12) :: rest))) : W p l e R s m args below meth c H locs cells slots Q (F0 m pc ls (.ref (ad k) :: rest)) := t_get hx hb ht in_8 hown hK hw (kd_lt (by omega)) (ent_8 hk) cl_8 (i := 2) (by decide) (ht _ q_265) (fun _ h => h) rfl hdg kk
theorem gf_X9_28 (hx : p.tables.exec = Jvm.exec) (hb : c.code = cc) (ht : ∀ w ∈ W0, w.before args s = true) (hown : s.vm.findClass "Leastreader" = some m.cls) (hK : TK D cI cM s) (hw : TW D ad cI cM s μ H locs) (hk : kd k = 8) (hdg : decode cc pc = .ok (.getfield 28, 3)) (kk : W p l e R s m args below meth c H locs cells slots Q (F0 m (pc + 3) ls (.ref (ad 14) :: rest))) : W p l e R s m args below meth c H locs cells slots Q (F0 m pc ls (.ref (ad k) :: rest)) := t_get hx hb ht in_8 hown hK hw (kd_lt (by omega)) (ent_8 hk) cl_8 (i := 3) (by decide) (ht _ q_266) (fun _ h => h) rfl hdg kk
theorem gf_X9_35 (hx : p.tables.exec = Jvm.exec) (hb : c.code = cc) (ht : ∀ w ∈ W0, w.before args s = true) (hown : s.vm.findClass "Leastreader" = some m.cls) (hK : TK D cI cM s) (hw : TW D ad cI cM s μ H locs) (hk : kd k = 8) (hdg : decode cc pc = .ok (.getfield 35, 3)) (kk : W p l e R s m args below meth c H locs cells slots Q (F0 m (pc + 3) ls (.ref (ad 15) :: rest))) : W p l e R s m args below meth c H locs cells slots Q (F0 m pc ls (.ref (ad k) :: rest)) := t_get hx hb ht in_8 hown hK hw (kd_lt (by omega)) (ent_8 hk) cl_8 (i := 4) (by decide) (ht _ q_267) (fun _ h => h) rfl hdg kk
theorem gf_X9_42 (hx : p.tables.exec = Jvm.exec) (hb : c.code = cc) (ht : ∀ w ∈ W0, w.before args s = true) (hown : s.vm.findClass "Leastreader" = some m.cls) (hK : TK D cI cM s) (hw : TW D ad cI cM s μ H locs) (hk : kd k = 8) (hdg : decode cc pc = .ok (.getfield 42, 3)) (kk : W p l e R s m args below meth c H locs cells slots Q (F0 m (pc + 3) ls (.ref (ad 35) :: rest))) : W p l e R s m args below meth c H locs cells slots Q (F0 m pc ls (.ref (ad k) :: rest)) := t_get hx hb ht in_8 hown hK hw (kd_lt (by omega)) (ent_8 hk) cl_8 (i := 5) (by decide) (ht _ q_268) (fun _ h => h) rfl hdg kk
theorem gf_X9_49 (hx : p.tables.exec = Jvm.exec) (hb : c.code = cc) (ht : ∀ w ∈ W0, w.before args s = true) (hown : s.vm.findClass "Leastreader" = some m.cls) (hK : TK D cI cM s) (hw : TW D ad cI cM s μ H locs) (hk : kd k = 8) (hdg : decode cc pc = .ok (.getfield 49, 3)) (kk : W p l e R s m args below meth c H locs cells slots Q (F0 m (pc + 3) ls (.ref (ad 48) :: rest))) : W p l e R s m args below meth c H locs cells slots Q (F0 m pc ls (.ref (ad k) :: rest)) := t_get hx hb ht in_8 hown hK hw (kd_lt (by omega)) (ent_8 hk) cl_8 (i := 6) (by decide) (ht _ q_269) (fun _ h => h) rfl hdg kk
theorem gf_X9_56 (hx : p.tables.exec = Jvm.exec) (hb : c.code = cc) (ht : ∀ w ∈ W0, w.before args s = true) (hown : s.vm.findClass "Leastreader" = some m.cls) (hK : TK D cI cM s) (hw : TW D ad cI cM s μ H locs) (hk : kd k = 8) (hdg : decode cc pc = .ok (.getfield 56, 3)) (kk : W p l e R s m args below meth c H locs cells slots Q (F0 m (pc + 3) ls (.ref (ad 51) :: rest))) : W p l e R s m args below meth c H locs cells slots Q (F0 m pc ls (.ref (ad k) :: rest)) := t_get hx hb ht in_8 hown hK hw (kd_lt (by omega)) (ent_8 hk) cl_8 (i := 7) (by decide) (ht _ q_270) (fun _ h => h) rfl hdg kk
theorem gf_X9_60 (hx : p.tables.exec = Jvm.exec) (hb : c.code = cc) (ht : ∀ w ∈ W0, w.before args s = true) (hown : s.vm.findClass "Leastreader" = some m.cls) (hK : TK D cI cM s) (hw : TW D ad cI cM s μ H locs) (hk : kd k = 8) (hdg : decode cc pc = .ok (.getfield 60, 3)) (kk : W p l e R s m args below meth c H locs cells slots Q (F0 m (pc + 3) ls (.ref (ad 53) :: rest))) : W p l e R s m args below meth c H locs cells slots Q (F0 m pc ls (.ref (ad k) :: rest)) := t_get hx hb ht in_8 hown hK hw (kd_lt (by omega)) (ent_8 hk) cl_8 (i := 8) (by decide) (ht _ q_271) (fun _ h => h) rfl hdg kk
theorem gf_X9_63 (hx : p.tables.exec = Jvm.exec) (hb : c.code = cc) (ht : ∀ w ∈ W0, w.before args s = true) (hown : s.vm.findClass "Leastreader" = some m.cls) (hK : TK D cI cM s) (hw : TW D ad cI cM s μ H locs) (hk : kd k = 8) (hdg : decode cc pc = .ok (.getfield 63, 3)) (kk : W p l e R s m args below meth c H locs cells slots Q (F0 m (pc + 3) ls (.ref (ad 55) :: rest))) : W p l e R s m args below meth c H locs cells slots Q (F0 m pc ls (.ref (ad k) :: rest)) := t_get hx hb ht in_8 hown hK hw (kd_lt (by omega)) (ent_8 hk) cl_8 (i := 9) (by decide) (ht _ q_272) (fun _ h => h) rfl hdg kk
theorem gf_X9_66 (hx : p.tables.exec = Jvm.exec) (hb : c.code = cc) (ht : ∀ w ∈ W0, w.before args s = true) (hown : s.vm.findClass "Leastreader" = some m.cls) (hK : TK D cI cM s) (hw : TW D ad cI cM s μ H locs) (hk : kd k = 8) (hdg : decode cc pc = .ok (.getfield 66, 3)) (kk : W p l e R s m args below meth c H locs cells slots Q (F0 m (pc + 3) ls (.ref (ad 57) :: rest))) : W p l e R s m args below meth c H locs cells slots Q (F0 m pc ls (.ref (ad k) :: rest)) := t_get hx hb ht in_8 hown hK hw (kd_lt (by omega)) (ent_8 hk) cl_8 (i := 10) (by decide) (ht _ q_273) (fun _ h => h) rfl hdg kk
theorem gf_X9_246 (hx : p.tables.exec = Jvm.exec) (hb : c.code = cc) (ht : ∀ w ∈ W0, w.before args s = true) (hown : s.vm.findClass "Leastreader" = some m.cls) (hK : TK D cI cM s) (hw : TW D ad cI cM s μ H locs) (hk : kd k = 8) (hdg : decode cc pc = .ok (.getfield 246, 3)) (kk : W p l e R s m args below meth c H locs cells slots Q (F0 m (pc + 3) ls (.int (μ k 11) :: rest))) : W p l e R s m args below meth c H locs cells slots Q (F0 m pc ls (.ref (ad k) :: rest)) := t_get hx hb ht in_8 hown hK hw (kd_lt (by omega)) (ent_8 hk) cl_8 (i := 11) (by decide) (ht _ q_274) (fun _ h => h) rfl hdg kk
theorem pgf_X9_246 {v : Int32} (hx : p.tables.exec = Jvm.exec) (hb : c.code = cc) (ht : ∀ w ∈ W0, w.before args s = true) (hown : s.vm.findClass "Leastreader" = some m.cls) (hK : TK D cI cM s) (hw : TW D ad cI cM s μ H locs) (hk : kd k = 8) (hdg : decode cc pc = .ok (.putfield 246, 3)) (kk : ∀ (H1 : Heap) (locs1 : List Loc), TW D ad cI cM s (tms μ k 11 v) H1 locs1 → W p l e R s m args below meth c H1 locs1 cells slots Q (F0 m (pc + 3) ls rest)) : W p l e R s m args below meth c H locs cells slots Q (F0 m pc ls (.int v :: .ref (ad k) :: rest)) := t_put hx hb ht in_8 tyX9 tyX9_ok nmX9 hown hK hw (kd_lt (by omega)) (ent_8 hk) cl_8 (i := 11) (by decide) (ht _ q_274) (fun _ h => h) rfl rfl (Nat.le_of_ble_eq_true rfl) (ent_8 hk) hdg kk
theorem gf_X9_249 (hx : p.tables.exec = Jvm.exec) (hb : c.code = cc) (ht : ∀ w ∈ W0, w.before args s = true) (hown : s.vm.findClass "Leastreader" = some m.cls) (hK : TK D cI cM s) (hw : TW D ad cI cM s μ H locs) (hk : kd k = 8) (hdg : decode cc pc = .ok (.getfield 249, 3)) (kk : W p l e R s m args below meth c H locs cells slots Q (F0 m (pc + 3) ls (.int (μ k 12) :: rest))) : W p l e R s m args below meth c H locs cells slots Q (F0 m pc ls (.ref (ad k) :: rest)) := t_get hx hb ht in_8 hown hK hw (kd_lt (by omega)) (ent_8 hk) cl_8 (i := 12) (by decide) (ht _ q_275) (fun _ h => h) rfl hdg kk
theorem pgf_X9_249 {v : Int32} (hx : p.tables.exec = Jvm.exec) (hb : c.code = cc) (ht : ∀ w ∈ W0, w.before args s = true) (hown : s.vm.findClass "Leastreader" = some m.cls) (hK : TK D cI cM s) (hw : TW D ad cI cM s μ H locs) (hk : kd k = 8) (hdg : decode cc pc = .ok (.putfield 249, 3)) (kk : ∀ (H1 : Heap) (locs1 : List Loc), TW D ad cI cM s (tms μ k 12 v) H1 locs1 → W p l e R s m args below meth c H1 locs1 cells slots Q (F0 m (pc + 3) ls rest)) : W p l e R s m args below meth c H locs cells slots Q (F0 m pc ls (.int v :: .ref (ad k) :: rest)) := t_put hx hb ht in_8 tyX9 tyX9_ok nmX9 hown hK hw (kd_lt (by omega)) (ent_8 hk) cl_8 (i := 12) (by decide) (ht _ q_275) (fun _ h => h) rfl rfl (Nat.le_of_ble_eq_true rfl) (ent_8 hk) hdg kk
theorem gf_X9_252 (hx : p.tables.exec = Jvm.exec) (hb : c.code = cc) (ht : ∀ w ∈ W0, w.before args s = true) (hown : s.vm.findClass "Leastreader" = some m.cls) (hK : TK D cI cM s) (hw : TW D ad cI cM s μ H locs) (hk : kd k = 8) (hdg : decode cc pc = .ok (.getfield 252, 3)) (kk : W p l e R s m args below meth c H locs cells slots Q (F0 m (pc + 3) ls (.int (μ k 13) :: rest))) : W p l e R s m args below meth c H locs cells slots Q (F0 m pc ls (.ref (ad k) :: rest)) := t_get hx hb ht in_8 hown hK hw (kd_lt (by omega)) (ent_8 hk) cl_8 (i := 13) (by decide) (ht _ q_276) (fun _ h => h) rfl hdg kk
theorem pgf_X9_252 {v : Int32} (hx : p.tables.exec = Jvm.exec) (hb : c.code = cc) (ht : ∀ w ∈ W0, w.before args s = true) (hown : s.vm.findClass "Leastreader" = some m.cls) (hK : TK D cI cM s) (hw : TW D ad cI cM s μ H locs) (hk : kd k = 8) (hdg : decode cc pc = .ok (.putfield 252, 3)) (kk : ∀ (H1 : Heap) (locs1 : List Loc), TW D ad cI cM s (tms μ k 13 v) H1 locs1 → W p l e R s m args below meth c H1 locs1 cells slots Q (F0 m (pc + 3) ls rest)) : W p l e R s m args below meth c H locs cells slots Q (F0 m pc ls (.int v :: .ref (ad k) :: rest)) := t_put hx hb ht in_8 tyX9 tyX9_ok nmX9 hown hK hw (kd_lt (by omega)) (ent_8 hk) cl_8 (i := 13) (by decide) (ht _ q_276) (fun _ h => h) rfl rfl (Nat.le_of_ble_eq_true rfl) (ent_8 hk) hdg kk
end TFR
theorem kd_of {k i : Nat} (h : kd k = i) (hi : i < 99) : k < 59 := kd_lt (by omega)
theorem vp_lt {i : Int32} {n : Nat} (h : vp_in i n) : i.toNatClampNeg < n := Nat.not_le.mp fun q => h (Or.inr q)
theorem sw_out {x : Int32} {lo hi : Int} (h : ∀ j : Int, lo ≤ j → j ≤ hi → ¬ x = Int32.ofInt j) : x.toInt < lo ∨ hi < x.toInt := by
  rcases Int.lt_or_le x.toInt lo with a | a
  · exact Or.inl a
  · rcases Int.lt_or_le hi x.toInt with b | b
    · exact Or.inr b
    · exact absurd (Int32.ofInt_toInt x).symm (h _ a b)
theorem hd_0 : (yX7_at : MethodName).cls ≠ "java/lang/invoke/MethodHandle" ∧ (yX7_at : MethodName).cls ≠ "java/lang/invoke/VarHandle" ∧ (parseMethodDescriptor (yX7_at : MethodName).desc).map (fun d => d.parameters.length) = some 2 := by decide +kernel
theorem hd_1 : (yX7_put : MethodName).cls ≠ "java/lang/invoke/MethodHandle" ∧ (yX7_put : MethodName).cls ≠ "java/lang/invoke/VarHandle" ∧ (parseMethodDescriptor (yX7_put : MethodName).desc).map (fun d => d.parameters.length) = some 3 := by decide +kernel
theorem hd_2 : (yX2_becomePlain : MethodName).cls ≠ "java/lang/invoke/MethodHandle" ∧ (yX2_becomePlain : MethodName).cls ≠ "java/lang/invoke/VarHandle" ∧ (parseMethodDescriptor (yX2_becomePlain : MethodName).desc).map (fun d => d.parameters.length) = some 1 := by decide +kernel
theorem hd_3 : (yX9_acted : MethodName).cls ≠ "java/lang/invoke/MethodHandle" ∧ (yX9_acted : MethodName).cls ≠ "java/lang/invoke/VarHandle" ∧ (parseMethodDescriptor (yX9_acted : MethodName).desc).map (fun d => d.parameters.length) = some 1 := by decide +kernel
theorem hd_4 : (yX9_refuse : MethodName).cls ≠ "java/lang/invoke/MethodHandle" ∧ (yX9_refuse : MethodName).cls ≠ "java/lang/invoke/VarHandle" ∧ (parseMethodDescriptor (yX9_refuse : MethodName).desc).map (fun d => d.parameters.length) = some 0 := by decide +kernel
theorem hd_5 : (yX9_isIn : MethodName).cls ≠ "java/lang/invoke/MethodHandle" ∧ (yX9_isIn : MethodName).cls ≠ "java/lang/invoke/VarHandle" ∧ (parseMethodDescriptor (yX9_isIn : MethodName).desc).map (fun d => d.parameters.length) = some 2 := by decide +kernel
theorem hd_6 : (yX6_find : MethodName).cls ≠ "java/lang/invoke/MethodHandle" ∧ (yX6_find : MethodName).cls ≠ "java/lang/invoke/VarHandle" ∧ (parseMethodDescriptor (yX6_find : MethodName).desc).map (fun d => d.parameters.length) = some 2 := by decide +kernel
theorem hd_7 : (yX6_put : MethodName).cls ≠ "java/lang/invoke/MethodHandle" ∧ (yX6_put : MethodName).cls ≠ "java/lang/invoke/VarHandle" ∧ (parseMethodDescriptor (yX6_put : MethodName).desc).map (fun d => d.parameters.length) = some 2 := by decide +kernel
theorem hd_8 : (yX6_at : MethodName).cls ≠ "java/lang/invoke/MethodHandle" ∧ (yX6_at : MethodName).cls ≠ "java/lang/invoke/VarHandle" ∧ (parseMethodDescriptor (yX6_at : MethodName).desc).map (fun d => d.parameters.length) = some 1 := by decide +kernel
theorem hd_9 : (yX9_withOrWithout : MethodName).cls ≠ "java/lang/invoke/MethodHandle" ∧ (yX9_withOrWithout : MethodName).cls ≠ "java/lang/invoke/VarHandle" ∧ (parseMethodDescriptor (yX9_withOrWithout : MethodName).desc).map (fun d => d.parameters.length) = some 3 := by decide +kernel
theorem hd_10 : (yX2_reach : MethodName).cls ≠ "java/lang/invoke/MethodHandle" ∧ (yX2_reach : MethodName).cls ≠ "java/lang/invoke/VarHandle" ∧ (parseMethodDescriptor (yX2_reach : MethodName).desc).map (fun d => d.parameters.length) = some 2 := by decide +kernel
theorem hd_11 : (yX3_numberOf : MethodName).cls ≠ "java/lang/invoke/MethodHandle" ∧ (yX3_numberOf : MethodName).cls ≠ "java/lang/invoke/VarHandle" ∧ (parseMethodDescriptor (yX3_numberOf : MethodName).desc).map (fun d => d.parameters.length) = some 2 := by decide +kernel
theorem hd_12 : (yX4_isGoal : MethodName).cls ≠ "java/lang/invoke/MethodHandle" ∧ (yX4_isGoal : MethodName).cls ≠ "java/lang/invoke/VarHandle" ∧ (parseMethodDescriptor (yX4_isGoal : MethodName).desc).map (fun d => d.parameters.length) = some 2 := by decide +kernel
theorem hd_13 : (yX6_fill : MethodName).cls ≠ "java/lang/invoke/MethodHandle" ∧ (yX6_fill : MethodName).cls ≠ "java/lang/invoke/VarHandle" ∧ (parseMethodDescriptor (yX6_fill : MethodName).desc).map (fun d => d.parameters.length) = some 1 := by decide +kernel
theorem hd_14 : (yX4_add : MethodName).cls ≠ "java/lang/invoke/MethodHandle" ∧ (yX4_add : MethodName).cls ≠ "java/lang/invoke/VarHandle" ∧ (parseMethodDescriptor (yX4_add : MethodName).desc).map (fun d => d.parameters.length) = some 4 := by decide +kernel
theorem hd_15 : (yX3_makeOneWay : MethodName).cls ≠ "java/lang/invoke/MethodHandle" ∧ (yX3_makeOneWay : MethodName).cls ≠ "java/lang/invoke/VarHandle" ∧ (parseMethodDescriptor (yX3_makeOneWay : MethodName).desc).map (fun d => d.parameters.length) = some 2 := by decide +kernel
theorem hd_16 : (yX4_meet : MethodName).cls ≠ "java/lang/invoke/MethodHandle" ∧ (yX4_meet : MethodName).cls ≠ "java/lang/invoke/VarHandle" ∧ (parseMethodDescriptor (yX4_meet : MethodName).desc).map (fun d => d.parameters.length) = some 4 := by decide +kernel
theorem hd_17 : (yX4_target : MethodName).cls ≠ "java/lang/invoke/MethodHandle" ∧ (yX4_target : MethodName).cls ≠ "java/lang/invoke/VarHandle" ∧ (parseMethodDescriptor (yX4_target : MethodName).desc).map (fun d => d.parameters.length) = some 2 := by decide +kernel
theorem hd_18 : (yX5_isGoal : MethodName).cls ≠ "java/lang/invoke/MethodHandle" ∧ (yX5_isGoal : MethodName).cls ≠ "java/lang/invoke/VarHandle" ∧ (parseMethodDescriptor (yX5_isGoal : MethodName).desc).map (fun d => d.parameters.length) = some 1 := by decide +kernel
theorem hd_19 : (yX1_codeOf : MethodName).cls ≠ "java/lang/invoke/MethodHandle" ∧ (yX1_codeOf : MethodName).cls ≠ "java/lang/invoke/VarHandle" ∧ (parseMethodDescriptor (yX1_codeOf : MethodName).desc).map (fun d => d.parameters.length) = some 2 := by decide +kernel
theorem hd_20 : (yX1_firstOfGoalness : MethodName).cls ≠ "java/lang/invoke/MethodHandle" ∧ (yX1_firstOfGoalness : MethodName).cls ≠ "java/lang/invoke/VarHandle" ∧ (parseMethodDescriptor (yX1_firstOfGoalness : MethodName).desc).map (fun d => d.parameters.length) = some 2 := by decide +kernel
theorem hd_21 : (yX1_partOnce : MethodName).cls ≠ "java/lang/invoke/MethodHandle" ∧ (yX1_partOnce : MethodName).cls ≠ "java/lang/invoke/VarHandle" ∧ (parseMethodDescriptor (yX1_partOnce : MethodName).desc).map (fun d => d.parameters.length) = some 1 := by decide +kernel
theorem hd_22 : (yX1_partOf : MethodName).cls ≠ "java/lang/invoke/MethodHandle" ∧ (yX1_partOf : MethodName).cls ≠ "java/lang/invoke/VarHandle" ∧ (parseMethodDescriptor (yX1_partOf : MethodName).desc).map (fun d => d.parameters.length) = some 1 := by decide +kernel
theorem hd_23 : (yX3_groupNumber : MethodName).cls ≠ "java/lang/invoke/MethodHandle" ∧ (yX3_groupNumber : MethodName).cls ≠ "java/lang/invoke/VarHandle" ∧ (parseMethodDescriptor (yX3_groupNumber : MethodName).desc).map (fun d => d.parameters.length) = some 2 := by decide +kernel
theorem hd_24 : (yX1_findByParting : MethodName).cls ≠ "java/lang/invoke/MethodHandle" ∧ (yX1_findByParting : MethodName).cls ≠ "java/lang/invoke/VarHandle" ∧ (parseMethodDescriptor (yX1_findByParting : MethodName).desc).map (fun d => d.parameters.length) = some 1 := by decide +kernel
theorem hd_25 : (yX3_makeGroups : MethodName).cls ≠ "java/lang/invoke/MethodHandle" ∧ (yX3_makeGroups : MethodName).cls ≠ "java/lang/invoke/VarHandle" ∧ (parseMethodDescriptor (yX3_makeGroups : MethodName).desc).map (fun d => d.parameters.length) = some 2 := by decide +kernel
theorem hd_26 : (yX9_meetPairs : MethodName).cls ≠ "java/lang/invoke/MethodHandle" ∧ (yX9_meetPairs : MethodName).cls ≠ "java/lang/invoke/VarHandle" ∧ (parseMethodDescriptor (yX9_meetPairs : MethodName).desc).map (fun d => d.parameters.length) = some 4 := by decide +kernel
theorem hd_27 : (yX5_becomePairs : MethodName).cls ≠ "java/lang/invoke/MethodHandle" ∧ (yX5_becomePairs : MethodName).cls ≠ "java/lang/invoke/VarHandle" ∧ (parseMethodDescriptor (yX5_becomePairs : MethodName).desc).map (fun d => d.parameters.length) = some 2 := by decide +kernel
theorem hd_28 : (yX3_lessen : MethodName).cls ≠ "java/lang/invoke/MethodHandle" ∧ (yX3_lessen : MethodName).cls ≠ "java/lang/invoke/VarHandle" ∧ (parseMethodDescriptor (yX3_lessen : MethodName).desc).map (fun d => d.parameters.length) = some 2 := by decide +kernel
theorem hd_29 : (yX2_statesAfter : MethodName).cls ≠ "java/lang/invoke/MethodHandle" ∧ (yX2_statesAfter : MethodName).cls ≠ "java/lang/invoke/VarHandle" ∧ (parseMethodDescriptor (yX2_statesAfter : MethodName).desc).map (fun d => d.parameters.length) = some 2 := by decide +kernel
theorem hd_30 : (yX9_countCodes : MethodName).cls ≠ "java/lang/invoke/MethodHandle" ∧ (yX9_countCodes : MethodName).cls ≠ "java/lang/invoke/VarHandle" ∧ (parseMethodDescriptor (yX9_countCodes : MethodName).desc).map (fun d => d.parameters.length) = some 1 := by decide +kernel
theorem hd_31 : (yX5_stateAfter : MethodName).cls ≠ "java/lang/invoke/MethodHandle" ∧ (yX5_stateAfter : MethodName).cls ≠ "java/lang/invoke/VarHandle" ∧ (parseMethodDescriptor (yX5_stateAfter : MethodName).desc).map (fun d => d.parameters.length) = some 2 := by decide +kernel
theorem hd_32 : (yX2_isTaking : MethodName).cls ≠ "java/lang/invoke/MethodHandle" ∧ (yX2_isTaking : MethodName).cls ≠ "java/lang/invoke/VarHandle" ∧ (parseMethodDescriptor (yX2_isTaking : MethodName).desc).map (fun d => d.parameters.length) = some 2 := by decide +kernel
theorem hd_33 : (yJ6_bitCount_0f7a4 : MethodName).cls ≠ "java/lang/invoke/MethodHandle" ∧ (yJ6_bitCount_0f7a4 : MethodName).cls ≠ "java/lang/invoke/VarHandle" ∧ (parseMethodDescriptor (yJ6_bitCount_0f7a4 : MethodName).desc).map (fun d => d.parameters.length) = some 1 := by decide +kernel
theorem hd_34 : (yX2_countArrows : MethodName).cls ≠ "java/lang/invoke/MethodHandle" ∧ (yX2_countArrows : MethodName).cls ≠ "java/lang/invoke/VarHandle" ∧ (parseMethodDescriptor (yX2_countArrows : MethodName).desc).map (fun d => d.parameters.length) = some 0 := by decide +kernel
theorem hd_35 : (yX2_isPlain : MethodName).cls ≠ "java/lang/invoke/MethodHandle" ∧ (yX2_isPlain : MethodName).cls ≠ "java/lang/invoke/VarHandle" ∧ (parseMethodDescriptor (yX2_isPlain : MethodName).desc).map (fun d => d.parameters.length) = some 0 := by decide +kernel
theorem hd_36 : (yX1_isLeadingToUnlike : MethodName).cls ≠ "java/lang/invoke/MethodHandle" ∧ (yX1_isLeadingToUnlike : MethodName).cls ≠ "java/lang/invoke/VarHandle" ∧ (parseMethodDescriptor (yX1_isLeadingToUnlike : MethodName).desc).map (fun d => d.parameters.length) = some 3 := by decide +kernel
theorem hd_37 : (yX1_ofOtherGoalness : MethodName).cls ≠ "java/lang/invoke/MethodHandle" ∧ (yX1_ofOtherGoalness : MethodName).cls ≠ "java/lang/invoke/VarHandle" ∧ (parseMethodDescriptor (yX1_ofOtherGoalness : MethodName).desc).map (fun d => d.parameters.length) = some 2 := by decide +kernel
theorem hd_38 : (yX1_tellFurther : MethodName).cls ≠ "java/lang/invoke/MethodHandle" ∧ (yX1_tellFurther : MethodName).cls ≠ "java/lang/invoke/VarHandle" ∧ (parseMethodDescriptor (yX1_tellFurther : MethodName).desc).map (fun d => d.parameters.length) = some 1 := by decide +kernel
theorem hd_39 : (yX1_firstNotUnlike : MethodName).cls ≠ "java/lang/invoke/MethodHandle" ∧ (yX1_firstNotUnlike : MethodName).cls ≠ "java/lang/invoke/VarHandle" ∧ (parseMethodDescriptor (yX1_firstNotUnlike : MethodName).desc).map (fun d => d.parameters.length) = some 1 := by decide +kernel
theorem hd_40 : (yX2_addState : MethodName).cls ≠ "java/lang/invoke/MethodHandle" ∧ (yX2_addState : MethodName).cls ≠ "java/lang/invoke/VarHandle" ∧ (parseMethodDescriptor (yX2_addState : MethodName).desc).map (fun d => d.parameters.length) = some 0 := by decide +kernel
theorem hd_41 : (yX0_draw : MethodName).cls ≠ "java/lang/invoke/MethodHandle" ∧ (yX0_draw : MethodName).cls ≠ "java/lang/invoke/VarHandle" ∧ (parseMethodDescriptor (yX0_draw : MethodName).desc).map (fun d => d.parameters.length) = some 0 := by decide +kernel
theorem hd_42 : (yX2_sowSome : MethodName).cls ≠ "java/lang/invoke/MethodHandle" ∧ (yX2_sowSome : MethodName).cls ≠ "java/lang/invoke/VarHandle" ∧ (parseMethodDescriptor (yX2_sowSome : MethodName).desc).map (fun d => d.parameters.length) = some 2 := by decide +kernel
theorem hd_43 : (yX2_sowOne : MethodName).cls ≠ "java/lang/invoke/MethodHandle" ∧ (yX2_sowOne : MethodName).cls ≠ "java/lang/invoke/VarHandle" ∧ (parseMethodDescriptor (yX2_sowOne : MethodName).desc).map (fun d => d.parameters.length) = some 1 := by decide +kernel
theorem hd_44 : (yX7_isSameTable : MethodName).cls ≠ "java/lang/invoke/MethodHandle" ∧ (yX7_isSameTable : MethodName).cls ≠ "java/lang/invoke/VarHandle" ∧ (parseMethodDescriptor (yX7_isSameTable : MethodName).desc).map (fun d => d.parameters.length) = some 1 := by decide +kernel
theorem hd_45 : (yX2_sources : MethodName).cls ≠ "java/lang/invoke/MethodHandle" ∧ (yX2_sources : MethodName).cls ≠ "java/lang/invoke/VarHandle" ∧ (parseMethodDescriptor (yX2_sources : MethodName).desc).map (fun d => d.parameters.length) = some 2 := by decide +kernel
theorem hd_46 : (yX2_closeUp : MethodName).cls ≠ "java/lang/invoke/MethodHandle" ∧ (yX2_closeUp : MethodName).cls ≠ "java/lang/invoke/VarHandle" ∧ (parseMethodDescriptor (yX2_closeUp : MethodName).desc).map (fun d => d.parameters.length) = some 2 := by decide +kernel
theorem hd_47 : (yX2_becomeRound : MethodName).cls ≠ "java/lang/invoke/MethodHandle" ∧ (yX2_becomeRound : MethodName).cls ≠ "java/lang/invoke/VarHandle" ∧ (parseMethodDescriptor (yX2_becomeRound : MethodName).desc).map (fun d => d.parameters.length) = some 1 := by decide +kernel
theorem hd_48 : (yX1_findByPairs : MethodName).cls ≠ "java/lang/invoke/MethodHandle" ∧ (yX1_findByPairs : MethodName).cls ≠ "java/lang/invoke/VarHandle" ∧ (parseMethodDescriptor (yX1_findByPairs : MethodName).desc).map (fun d => d.parameters.length) = some 1 := by decide +kernel
theorem hd_49 : (yX3_makeByTurning : MethodName).cls ≠ "java/lang/invoke/MethodHandle" ∧ (yX3_makeByTurning : MethodName).cls ≠ "java/lang/invoke/VarHandle" ∧ (parseMethodDescriptor (yX3_makeByTurning : MethodName).desc).map (fun d => d.parameters.length) = some 2 := by decide +kernel
theorem hd_50 : (yX5_ledInto : MethodName).cls ≠ "java/lang/invoke/MethodHandle" ∧ (yX5_ledInto : MethodName).cls ≠ "java/lang/invoke/VarHandle" ∧ (parseMethodDescriptor (yX5_ledInto : MethodName).desc).map (fun d => d.parameters.length) = some 1 := by decide +kernel
theorem hd_51 : (yX8_from : MethodName).cls ≠ "java/lang/invoke/MethodHandle" ∧ (yX8_from : MethodName).cls ≠ "java/lang/invoke/VarHandle" ∧ (parseMethodDescriptor (yX8_from : MethodName).desc).map (fun d => d.parameters.length) = some 2 := by decide +kernel
theorem hd_52 : (yX8_sumOver : MethodName).cls ≠ "java/lang/invoke/MethodHandle" ∧ (yX8_sumOver : MethodName).cls ≠ "java/lang/invoke/VarHandle" ∧ (parseMethodDescriptor (yX8_sumOver : MethodName).desc).map (fun d => d.parameters.length) = some 3 := by decide +kernel
end
/-! part 09.xlib -/
section
section XLB
def SX (ad : Nat → Nat) (U : State) : Prop := vx_Zq Bundle.tN "UNASSIGNED_STACK" Bundle.steD (TA ad U.heap.size) U U.heap ∧ vx_Zq Bundle.tN "SUPPRESSED_SENTINEL" Bundle.listD (TA ad U.heap.size) U U.heap ∧ XN U ∧ SR U
theorem SX.pre {D : va_G} {ad : Nat → Nat} {cI cM : ClassId} {s : State} {μ : TMem} {H : Heap} {locs : List Loc} (h : SX ad s) (hw : TW D ad cI cM s μ H locs) {U : State} (hU : U.heap = H) (hW : s.WarmedH U.vm) : SX ad U := by
  obtain ⟨h1, h2, h3, h4⟩ := h
  refine ⟨?_, ?_, XN.warm hW h3, SR.warm hW h4⟩
  · rw [hU]
    exact vx_Zq.moved hW.alike ((h1.kept (H1 := H) (fun a ha hn => hw.2.2.2.1 a ha hn)).narrow (fun q z => TA.up hw.2.2.1 q z))
  · rw [hU]
    exact vx_Zq.moved hW.alike ((h2.kept (H1 := H) (fun a ha hn => hw.2.2.2.1 a ha hn)).narrow (fun q z => TA.up hw.2.2.1 q z))
def TBX (D : va_G) (ad : Nat → Nat) (cI cM : ClassId) (sz : Nat) (μ : TMem) : State → Prop := fun U => TB D ad cI cM sz μ U ∧ SX ad U
def TEX (D : va_G) (ad : Nat → Nat) (cI cM : ClassId) (X : String → TMem → Prop) : String → TMem → State → Prop := fun E μ1 t => X E μ1 ∧ TE D ad cI cM μ1 t
abbrev RX (h c n : Nat) : Room := { frames := h + 8, cells := c, slots := n, locals := 40 * h + 400 }
variable {p : Program} {l : Launch} {e : Env} {R : Room} {s : State} {m : MethodId} {args : Array Value} {below : List Frame} {meth : Method} {c : Code} {H : Heap} {locs : List Loc} {cells slots : Nat} {Q : State → Prop}
variable {cc : ByteArray} {pc : Nat} {ls : Array Slot} {rest : List Value} {D : va_G} {ad : Nat → Nat} {cI cM : ClassId} {μ : TMem} {k : Nat}
theorem TBX.blind {as : List Value} {sz : Nat} : FrameBlind (va_Pc as (TBX D ad cI cM sz μ)) := fun a U g mk q => by
  obtain ⟨q0, q1, h1, h2, h3, h4⟩ := q
  refine ⟨q0, (TB.blind a U g mk ⟨q0, q1⟩).2, ?_, ?_, XN.same (s := U) rfl h3, SR.same (s := U) rfl h4⟩
  · exact vx_Zq.moved (u := U) (U := U.calling g mk a) (Vm.Alike.refl U.vm) h1
  · exact vx_Zq.moved (u := U) (U := U.calling g mk a) (Vm.Alike.refl U.vm) h2
theorem TBX.pre {as : List Value} (hK : TK D cI cM s) (hN : NW s) (hX : SX ad s) (hw : TW D ad cI cM s μ H locs) : ∀ U : State, U.heap = H → s.WarmedH U.vm → va_Pc as (TBX D ad cI cM H.size μ) as.toArray U := fun U hU hW => ⟨rfl, (TB.pre (as := as) hK hN hw U hU hW).2, hX.pre hw hU hW⟩
theorem va_P_grow {ws : va_W} {H1 : Heap} (h : va_P D CL ws H) (ho : ∀ q : Nat, q < H.size → H1[q]? = H[q]?) : va_P D CL ws H1 := h.kept (fun k q hk => ho q.1 (h k q hk).lt)
def XMi (l : Launch) (y : MethodName) (cd : Cond) (h c n : Nat) (as : List Value) (D : va_G) (ad : Nat → Nat) (cI cM : ClassId) (sz : Nat) (μ : TMem) (Q : Int32 → TMem → Prop) (X : String → TMem → Prop) : Prop := vx_Met l y (cd :: W0) (RX h c n) (va_Pc as (TBX D ad cI cM sz μ)) (va_Qi Q (TE D ad cI cM) (TA ad sz)) (vx_X (fun _ : TMem => True) (TEX D ad cI cM X) (TA ad sz)) c n (TA ad sz)
def XMl (l : Launch) (y : MethodName) (cd : Cond) (h c n : Nat) (as : List Value) (D : va_G) (ad : Nat → Nat) (cI cM : ClassId) (sz : Nat) (μ : TMem) (Q : Int64 → TMem → Prop) (X : String → TMem → Prop) : Prop := vx_Met l y (cd :: W0) (RX h c n) (va_Pc as (TBX D ad cI cM sz μ)) (va_Ql Q (TE D ad cI cM) (TA ad sz)) (vx_X (fun _ : TMem => True) (TEX D ad cI cM X) (TA ad sz)) c n (TA ad sz)
def XMv (l : Launch) (y : MethodName) (cd : Cond) (h c n : Nat) (as : List Value) (D : va_G) (ad : Nat → Nat) (cI cM : ClassId) (sz : Nat) (μ : TMem) (Q : TMem → Prop) (X : String → TMem → Prop) : Prop := vx_Met l y (cd :: W0) (RX h c n) (va_Pc as (TBX D ad cI cM sz μ)) (va_Qv Q (TE D ad cI cM) (TA ad sz)) (vx_X (fun _ : TMem => True) (TEX D ad cI cM X) (TA ad sz)) c n (TA ad sz)
/-- an object of the tree comes back: its place -/
def XMo (l : Launch) (y : MethodName) (cd : Cond) (h c n : Nat) (as : List Value) (D : va_G) (ad : Nat → Nat) (cI cM : ClassId) (sz : Nat) (μ : TMem) (Q : Nat → TMem → Prop) (X : String → TMem → Prop) : Prop := vx_Met l y (cd :: W0) (RX h c n) (va_Pc as (TBX D ad cI cM sz μ)) (va_Qq (fun (r : Option Nat) (u : Nat × TMem) => r = some (ad u.1) ∧ kd u.1 = 2 ∧ Q u.1 u.2) (fun u t => TE D ad cI cM u.2 t) (TA ad sz)) (vx_X (fun _ : TMem => True) (TEX D ad cI cM X) (TA ad sz)) c n (TA ad sz)
/-- a text comes back, or nothing -/
def XMs (l : Launch) (y : MethodName) (cd : Cond) (h c n : Nat) (as : List Value) (D : va_G) (ad : Nat → Nat) (cI cM : ClassId) (sz : Nat) (μ : TMem) (Q : TMem → Prop) (X : String → TMem → Prop) : Prop := vx_Met l y (cd :: W0) (RX h c n) (va_Pc as (TBX D ad cI cM sz μ)) (va_Qq (fun (_ : Option Nat) (u : TMem) => Q u) (TE D ad cI cM) (TA ad sz)) (vx_X (fun _ : TMem => True) (TEX D ad cI cM X) (TA ad sz)) c n (TA ad sz)
theorem vx_callq2 {S SX : Type} {post : Option Nat → S → Prop} {px : SX → Prop} {B : S → State → Prop} {BX : String → SX → State → Prop} {AX A0 A1 : Nat → Prop} {st0 : List Value} {a : Array Value} {H0 : Heap} {mc ms : Nat} {free : Addr → Prop} (hr : vx_Run p l e R s m args below meth c H locs cells slots mc ms (F0 m pc ls st0) rest (va_Qq post B A1 a) (vx_X px BX AX) free) (hS : va_S A0 H0 H locs) (hA : ∀ q, q < H.size → A1 q → A0 q) (hf : ∀ q, free q → A0 q) (hAX : ∀ q, q < H.size → AX q → A0 q)
    (kx : ∀ (E : String) (ce : Cell) (q9 : Addr) (u : SX) (t : State) (H1 : Heap) (locs1 : List Loc), t.heap = H1 → s.vm.Alike t.vm → px u → BX E u t → H.size ≤ H1.size → (∀ q : Nat, q < H.size → ¬ AX q → H1[q]? = H[q]?) → va_S A0 H0 H1 locs1 → H1[q9]? = some ce → ce.vm = .none → s.vm.findClass E = some ce.cls → vx_W p l e R s m args below meth c H1 locs1 (cells + mc) (slots + ms) Q (F0 m pc ls rest) q9)
    (kk : ∀ (r : Option Nat) (u : S) (t : State) (H1 : Heap) (locs1 : List Loc), t.heap = H1 → s.vm.Alike t.vm → post r u → B u t → H.size ≤ H1.size → (∀ q : Nat, q < H.size → ¬ A1 q → H1[q]? = H[q]?) → va_S A0 H0 H1 locs1 → W p l e R s m args below meth c H1 locs1 (cells + mc) (slots + ms) Q (F0 m (pc + 3) ls (va_rf r :: rest))) : W p l e R s m args below meth c H locs cells slots Q (F0 m pc ls st0) := by
  intro T hT X
  rcases hr T hT X with ⟨v, st₀, t, T', L, h0, X', hL, e1, e2, ⟨⟨r, u, hv, hp, hb⟩, hF⟩, st⟩ | ⟨q, st₀, t, T', L, E, ce, h0, X', hL, e1, e2, ⟨u, hp, hb, hF⟩, hce, hcv, hcl, st⟩
  · cases hv
    obtain ⟨k1, k2, k3⟩ := vx_keep h0 e1 hS hA hf hL hF
    obtain ⟨t2, a1, b1⟩ := kk r u t T'.heap (locs ++ L) e1.symm (by rw [← e2]; exact X'.warmed.alike) hp hb k1 k2 k3 T' rfl X'
    exact ⟨t2, st t2 a1, b1⟩
  · obtain ⟨k1, k2, k3⟩ := vx_keep h0 e1 hS hAX hf hL hF
    obtain ⟨t2, a1, b1⟩ := kx E ce q u t T'.heap (locs ++ L) e1.symm (by rw [← e2]; exact X'.warmed.alike) hp hb k1 k2 k3 (by rw [e1]; exact hce) hcv hcl T' rfl X'
    exact ⟨t2, st.trans a1, b1⟩
variable {X : String → TMem → Prop} {Qc : Array Value → State → Outcome → State → Prop} {fc fn c1 n1 mc ms : Nat}
theorem X_calli {Q1 : Int32 → TMem → Prop} {st0 : List Value} {a : Array Value} (hw : TW D ad cI cM s μ H locs) (hout : ∀ x ∈ c.exceptionTable.toList, False) (hlocks : meth.locks = false) (e1 : cells + mc = c1) (e2 : slots + ms = n1) (g1 : c1 ≤ fc) (g2 : n1 ≤ fn) (hr : vx_Run p l e R s m args below meth c H locs cells slots mc ms (F0 m pc ls st0) rest (va_Qi Q1 (TE D ad cI cM) (TA ad H.size) a) (vx_X (fun _ : TMem => True) (TEX D ad cI cM X) (TA ad H.size)) (TA ad H.size))
    (kk : ∀ (r : Int32) (μ1 : TMem) (H1 : Heap) (locs1 : List Loc), Q1 r μ1 → TW D ad cI cM s μ1 H1 locs1 → W p l e R s m args below meth c H1 locs1 c1 n1 (vx_MQ below Qc (vx_X (fun _ : TMem => True) (TEX D ad cI cM X) (TA ad s.heap.size)) args s fc fn (TA ad s.heap.size)) (F0 m (pc + 3) ls (.int r :: rest))) : W p l e R s m args below meth c H locs cells slots (vx_MQ below Qc (vx_X (fun _ : TMem => True) (TEX D ad cI cM X) (TA ad s.heap.size)) args s fc fn (TA ad s.heap.size)) (F0 m pc ls st0) :=
  vx_calli hr hw.2.2 (fun q _ h => TA.up hw.2.2.1 q h) (fun q h => TA.up hw.2.2.1 q h) (fun q _ h => TA.up hw.2.2.1 q h)
    (fun E ce q9 u t H1 locs1 ht _ _ hB _ _ hS h1 h2 h3 => vx_out (fun x hx => (hout x hx).elim) hlocks h1 h2 h3 (fun t9 ht9 _ => ⟨u, trivial, ⟨hB.1, by rw [TE, ht9, ← ht]; exact hB.2⟩, hS.F ht9⟩) hS.2.2 (by omega) (by omega))
    (fun r u t H1 locs1 ht _ hq hB _ _ hS => e1 ▸ e2 ▸ kk r u H1 locs1 hq ⟨by rw [← ht]; exact hB, hw.2.1, hS⟩)
theorem X_calll {Q1 : Int64 → TMem → Prop} {st0 : List Value} {a : Array Value} (hw : TW D ad cI cM s μ H locs) (hout : ∀ x ∈ c.exceptionTable.toList, False) (hlocks : meth.locks = false) (e1 : cells + mc = c1) (e2 : slots + ms = n1) (g1 : c1 ≤ fc) (g2 : n1 ≤ fn) (hr : vx_Run p l e R s m args below meth c H locs cells slots mc ms (F0 m pc ls st0) rest (va_Ql Q1 (TE D ad cI cM) (TA ad H.size) a) (vx_X (fun _ : TMem => True) (TEX D ad cI cM X) (TA ad H.size)) (TA ad H.size))
    (kk : ∀ (r : Int64) (μ1 : TMem) (H1 : Heap) (locs1 : List Loc), Q1 r μ1 → TW D ad cI cM s μ1 H1 locs1 → W p l e R s m args below meth c H1 locs1 c1 n1 (vx_MQ below Qc (vx_X (fun _ : TMem => True) (TEX D ad cI cM X) (TA ad s.heap.size)) args s fc fn (TA ad s.heap.size)) (F0 m (pc + 3) ls (.long r :: rest))) : W p l e R s m args below meth c H locs cells slots (vx_MQ below Qc (vx_X (fun _ : TMem => True) (TEX D ad cI cM X) (TA ad s.heap.size)) args s fc fn (TA ad s.heap.size)) (F0 m pc ls st0) :=
  vx_calll hr hw.2.2 (fun q _ h => TA.up hw.2.2.1 q h) (fun q h => TA.up hw.2.2.1 q h) (fun q _ h => TA.up hw.2.2.1 q h)
    (fun E ce q9 u t H1 locs1 ht _ _ hB _ _ hS h1 h2 h3 => vx_out (fun x hx => (hout x hx).elim) hlocks h1 h2 h3 (fun t9 ht9 _ => ⟨u, trivial, ⟨hB.1, by rw [TE, ht9, ← ht]; exact hB.2⟩, hS.F ht9⟩) hS.2.2 (by omega) (by omega))
    (fun r u t H1 locs1 ht _ hq hB _ _ hS => e1 ▸ e2 ▸ kk r u H1 locs1 hq ⟨by rw [← ht]; exact hB, hw.2.1, hS⟩)
theorem X_callv {Q1 : TMem → Prop} {st0 : List Value} {a : Array Value} (hw : TW D ad cI cM s μ H locs) (hout : ∀ x ∈ c.exceptionTable.toList, False) (hlocks : meth.locks = false) (e1 : cells + mc = c1) (e2 : slots + ms = n1) (g1 : c1 ≤ fc) (g2 : n1 ≤ fn) (hr : vx_Run p l e R s m args below meth c H locs cells slots mc ms (F0 m pc ls st0) rest (va_Qv Q1 (TE D ad cI cM) (TA ad H.size) a) (vx_X (fun _ : TMem => True) (TEX D ad cI cM X) (TA ad H.size)) (TA ad H.size))
    (kk : ∀ (μ1 : TMem) (H1 : Heap) (locs1 : List Loc), Q1 μ1 → TW D ad cI cM s μ1 H1 locs1 → W p l e R s m args below meth c H1 locs1 c1 n1 (vx_MQ below Qc (vx_X (fun _ : TMem => True) (TEX D ad cI cM X) (TA ad s.heap.size)) args s fc fn (TA ad s.heap.size)) (F0 m (pc + 3) ls (rest))) : W p l e R s m args below meth c H locs cells slots (vx_MQ below Qc (vx_X (fun _ : TMem => True) (TEX D ad cI cM X) (TA ad s.heap.size)) args s fc fn (TA ad s.heap.size)) (F0 m pc ls st0) :=
  vx_callv hr hw.2.2 (fun q _ h => TA.up hw.2.2.1 q h) (fun q h => TA.up hw.2.2.1 q h) (fun q _ h => TA.up hw.2.2.1 q h)
    (fun E ce q9 u t H1 locs1 ht _ _ hB _ _ hS h1 h2 h3 => vx_out (fun x hx => (hout x hx).elim) hlocks h1 h2 h3 (fun t9 ht9 _ => ⟨u, trivial, ⟨hB.1, by rw [TE, ht9, ← ht]; exact hB.2⟩, hS.F ht9⟩) hS.2.2 (by omega) (by omega))
    (fun u t H1 locs1 ht _ hq hB _ _ hS => e1 ▸ e2 ▸ kk u H1 locs1 hq ⟨by rw [← ht]; exact hB, hw.2.1, hS⟩)
theorem X_callo {Q1 : Nat → TMem → Prop} {st0 : List Value} {a : Array Value} (hw : TW D ad cI cM s μ H locs) (hout : ∀ x ∈ c.exceptionTable.toList, False) (hlocks : meth.locks = false) (e1 : cells + mc = c1) (e2 : slots + ms = n1) (g1 : c1 ≤ fc) (g2 : n1 ≤ fn) (hr : vx_Run p l e R s m args below meth c H locs cells slots mc ms (F0 m pc ls st0) rest (va_Qq (fun (r : Option Nat) (u : Nat × TMem) => r = some (ad u.1) ∧ kd u.1 = 2 ∧ Q1 u.1 u.2) (fun u t => TE D ad cI cM u.2 t) (TA ad H.size) a) (vx_X (fun _ : TMem => True) (TEX D ad cI cM X) (TA ad H.size)) (TA ad H.size))
    (kk : ∀ (k : Nat) (μ1 : TMem) (H1 : Heap) (locs1 : List Loc), kd k = 2 → Q1 k μ1 → TW D ad cI cM s μ1 H1 locs1 → W p l e R s m args below meth c H1 locs1 c1 n1 (vx_MQ below Qc (vx_X (fun _ : TMem => True) (TEX D ad cI cM X) (TA ad s.heap.size)) args s fc fn (TA ad s.heap.size)) (F0 m (pc + 3) ls (.ref (ad k) :: rest))) : W p l e R s m args below meth c H locs cells slots (vx_MQ below Qc (vx_X (fun _ : TMem => True) (TEX D ad cI cM X) (TA ad s.heap.size)) args s fc fn (TA ad s.heap.size)) (F0 m pc ls st0) := by
  refine vx_callq2 hr hw.2.2 (fun q _ h => TA.up hw.2.2.1 q h) (fun q h => TA.up hw.2.2.1 q h) (fun q _ h => TA.up hw.2.2.1 q h)
    (fun E ce q9 u t H1 locs1 ht _ _ hB _ _ hS h1 h2 h3 => vx_out (fun x hx => (hout x hx).elim) hlocks h1 h2 h3 (fun t9 ht9 _ => ⟨u, trivial, ⟨hB.1, by rw [TE, ht9, ← ht]; exact hB.2⟩, hS.F ht9⟩) hS.2.2 (by omega) (by omega))
    (fun r u t H1 locs1 ht _ hq hB _ _ hS => ?_)
  obtain ⟨rfl, hk, hq⟩ := hq
  exact e1 ▸ e2 ▸ kk u.1 u.2 H1 locs1 hk hq ⟨by rw [← ht]; exact hB, hw.2.1, hS⟩
theorem X_calls {Q1 : TMem → Prop} {st0 : List Value} {a : Array Value} (hw : TW D ad cI cM s μ H locs) (hout : ∀ x ∈ c.exceptionTable.toList, False) (hlocks : meth.locks = false) (e1 : cells + mc = c1) (e2 : slots + ms = n1) (g1 : c1 ≤ fc) (g2 : n1 ≤ fn) (hr : vx_Run p l e R s m args below meth c H locs cells slots mc ms (F0 m pc ls st0) rest (va_Qq (fun (_ : Option Nat) (u : TMem) => Q1 u) (TE D ad cI cM) (TA ad H.size) a) (vx_X (fun _ : TMem => True) (TEX D ad cI cM X) (TA ad H.size)) (TA ad H.size))
    (kk : ∀ (r : Option Nat) (μ1 : TMem) (H1 : Heap) (locs1 : List Loc), Q1 μ1 → TW D ad cI cM s μ1 H1 locs1 → W p l e R s m args below meth c H1 locs1 c1 n1 (vx_MQ below Qc (vx_X (fun _ : TMem => True) (TEX D ad cI cM X) (TA ad s.heap.size)) args s fc fn (TA ad s.heap.size)) (F0 m (pc + 3) ls (va_rf r :: rest))) : W p l e R s m args below meth c H locs cells slots (vx_MQ below Qc (vx_X (fun _ : TMem => True) (TEX D ad cI cM X) (TA ad s.heap.size)) args s fc fn (TA ad s.heap.size)) (F0 m pc ls st0) := by
  refine vx_callq2 hr hw.2.2 (fun q _ h => TA.up hw.2.2.1 q h) (fun q h => TA.up hw.2.2.1 q h) (fun q _ h => TA.up hw.2.2.1 q h)
    (fun E ce q9 u t H1 locs1 ht _ _ hB _ _ hS h1 h2 h3 => vx_out (fun x hx => (hout x hx).elim) hlocks h1 h2 h3 (fun t9 ht9 _ => ⟨u, trivial, ⟨hB.1, by rw [TE, ht9, ← ht]; exact hB.2⟩, hS.F ht9⟩) hS.2.2 (by omega) (by omega))
    (fun r u t H1 locs1 ht _ hq hB _ _ hS => e1 ▸ e2 ▸ kk r u H1 locs1 hq ⟨by rw [← ht]; exact hB, hw.2.1, hS⟩)
theorem X_throw {cls text : String} {ik is ic : Nat} (hx : p.tables.exec = Jvm.exec) (hb : c.code = cc) (hst : l.stackTraces = false) (hml : ls.size = c.maxLocals) (hown : s.vm.findClass "Leastreader" = some m.cls) (hcls : Bundle.fit cls = true) (hk : (Cond.classLink RX9 ik cls).before args s = true) (hini : (Cond.initialized cls).before args s = true) (hstr : ∃ sa : Nat, vk_R "Leastreader" is text sa s) (hat : ∀ w ∈ vx_atS RX9 ic cls nmsX, w.before args s = true)
    (hgood : ∀ w ∈ Cond.classLink RX9 ik cls :: Cond.initialized cls :: vx_atS RX9 ic cls nmsX, vx_ot w = true) (hX : SX ad s) (hw : TW D ad cI cM s μ H locs) (hout : ∀ x ∈ c.exceptionTable.toList, False) (hlocks : meth.locks = false)
    (d0 : decode cc pc = .ok (.new ik, 3)) (d3 : decode cc (pc + 3) = .ok (.dup, 1)) (d4 : decode cc (pc + 4) = .ok (.ldc is, 2)) (d6 : decode cc (pc + 6) = .ok (.invokespecial ic, 3)) (d9 : decode cc (pc + 9) = .ok (.athrow, 1))
    (hR1 : 5 < R.frames) (hR2 : (rest.map fun v => v.category).sum + 82 ≤ R.locals) (hR3 : cells + 1 ≤ R.cells) (hR4 : slots + 6 ≤ R.slots) (g1 : cells + 1 ≤ fc) (g2 : slots + 6 ≤ fn) (hq : X cls μ) : W p l e R s m args below meth c H locs cells slots (vx_MQ below Qc (vx_X (fun _ : TMem => True) (TEX D ad cI cM X) (TA ad s.heap.size)) args s fc fn (TA ad s.heap.size)) (F0 m pc ls rest) := by
  obtain ⟨sa, hstr⟩ := hstr
  refine vx_throwS hx hb hst hown hcls fit_nms hk hini hstr hat hgood hX.1 hX.2.1 hw.2.2 hml d0 d3 d4 d6 d9 (fun x hx => (hout x hx).elim) hR1 hR2 hR3 hR4 hlocks (fun t _ hz ho => ?_) hw.2.2.2.2 g1 g2
  refine ⟨μ, trivial, ⟨hq, va_P_grow hw.1 ho⟩, Nat.le_trans hw.2.2.1 hz, fun q h1 h2 => ?_⟩
  rw [ho q (Nat.lt_of_lt_of_le h1 hw.2.2.1)]
  exact hw.2.2.2.1 q h1 h2
theorem X_throwW {cls text : String} {ik is ic : Nat} (hx : p.tables.exec = Jvm.exec) (hb : c.code = cc) (hst : l.stackTraces = false) (hml : ls.size = c.maxLocals) (hown : s.vm.findClass "Leastreader" = some m.cls) (hcls : Bundle.fit cls = true) (hk : (Cond.classLink RX9 ik cls).before args s = true) (hini : (Cond.initialized cls).before args s = true) (hstr : ∃ sa : Nat, vk_R "Leastreader" is text sa s) (hat : ∀ w ∈ vx_atS RX9 ic cls nmsX, w.before args s = true)
    (hgood : ∀ w ∈ Cond.classLink RX9 ik cls :: Cond.initialized cls :: vx_atS RX9 ic cls nmsX, vx_ot w = true) (hX : SX ad s) (hw : TW D ad cI cM s μ H locs) (hout : ∀ x ∈ c.exceptionTable.toList, False) (hlocks : meth.locks = false)
    (d0 : decode cc pc = .ok (.new ik, 3)) (d3 : decode cc (pc + 3) = .ok (.dup, 1)) (d4 : decode cc (pc + 4) = .ok (.ldc_w is, 3)) (d6 : decode cc (pc + 7) = .ok (.invokespecial ic, 3)) (d9 : decode cc (pc + 10) = .ok (.athrow, 1))
    (hR1 : 5 < R.frames) (hR2 : (rest.map fun v => v.category).sum + 82 ≤ R.locals) (hR3 : cells + 1 ≤ R.cells) (hR4 : slots + 6 ≤ R.slots) (g1 : cells + 1 ≤ fc) (g2 : slots + 6 ≤ fn) (hq : X cls μ) : W p l e R s m args below meth c H locs cells slots (vx_MQ below Qc (vx_X (fun _ : TMem => True) (TEX D ad cI cM X) (TA ad s.heap.size)) args s fc fn (TA ad s.heap.size)) (F0 m pc ls rest) := by
  obtain ⟨sa, hstr⟩ := hstr
  refine vx_throwSW hx hb hst hown hcls fit_nms hk hini hstr hat hgood hX.1 hX.2.1 hw.2.2 hml d0 d3 d4 d6 d9 (fun x hx => (hout x hx).elim) hR1 hR2 hR3 hR4 hlocks (fun t _ hz ho => ?_) hw.2.2.2.2 g1 g2
  refine ⟨μ, trivial, ⟨hq, va_P_grow hw.1 ho⟩, Nat.le_trans hw.2.2.1 hz, fun q h1 h2 => ?_⟩
  rw [ho q (Nat.lt_of_lt_of_le h1 hw.2.2.1)]
  exact hw.2.2.2.1 q h1 h2
theorem X_meti {l : Launch} {y : MethodName} {bytes : ByteArray} {maxL : Nat} {ty : FieldType} {h fc fn : Nat} {as : List Value} {D : va_G} {ad : Nat → Nat} {cI cM : ClassId} {sz : Nat} {μ : TMem} {Q : Int32 → TMem → Prop} {X : String → TMem → Prop} (hy : plainName y.cls = true) (hsl : (lg_sl as).length ≤ maxL)
    (body : ∀ (p : Program) (e : Env) (s : State) (m : MethodId) (below : List Frame) (meth : Method) (c : Code) (Qc : Array Value → State → Outcome → State → Prop) (ls : Array Slot), p.tables.exec = Jvm.exec → c.code = bytes → c.maxLocals = maxL → s.vm.findClass y.cls = some m.cls → (∀ w ∈ W0, w.before as.toArray s = true) → NW s → TK D cI cM s → SX ad s → (∀ x ∈ c.exceptionTable.toList, False) → meth.locks = false → TW D ad cI cM s μ s.heap [] →
      (∀ (H : Heap) (locs : List Loc) (ls : Array Slot) (pc cells slots : Nat) (v : Int32) (μ1 : TMem), TW D ad cI cM s μ1 H locs → Q v μ1 → narrow ty (.int v) = .int v → cells ≤ fc → slots ≤ fn → decode bytes pc = .ok (.ireturn, 1) → W p l e (RX h fc fn) s m as.toArray below meth c H locs cells slots (vx_MQ below Qc (vx_X (fun _ : TMem => True) (TEX D ad cI cM X) (TA ad s.heap.size)) as.toArray s fc fn (TA ad s.heap.size)) (F0 m pc ls [.int v])) → lv_has ls maxL (lv_args 0 as) →
      W p l e (RX h fc fn) s m as.toArray below meth c s.heap [] 0 0 (vx_MQ below Qc (vx_X (fun _ : TMem => True) (TEX D ad cI cM X) (TA ad s.heap.size)) as.toArray s fc fn (TA ad s.heap.size)) (F0 m 0 ls [])) : XMi l y (.code y bytes maxL (some ty)) h fc fn as D ad cI cM sz μ Q X := by
  refine vx_ofW (cc := bytes) (maxL := maxL) (ret := (some ty)) hy rfl ?_
  intro p e s m args below meth c s₁ B hml htab hv
  obtain ⟨rfl, ⟨hsz, hP, hK, hI, hN⟩, hX⟩ := hv
  subst hsz
  have hts := atoms_spec B.pre
  have hlocks := B.notSynchronized
  rw [lg_entry_eq]
  refine body p e s m below meth c _ _ B.exec B.bytes hml (findClass_of_methodNamed B.named) (fun w hw => hts w (List.mem_cons_of_mem _ hw)) hN hK hX htab hlocks ⟨hP, hI, va_S.rf⟩ (fun H locs ls pc cells slots v μ1 hw hq hn hc hs hdg => ?_) (lv_entry as hsl)
  exact W.widen hc hs (vx_ret (W.zret B.exec B.bytes B.returns hn (fun t ht9 hW => ⟨⟨v, μ1, rfl, hq, by rw [TE, ht9]; exact hw.1⟩, hw.2.2.F ht9⟩) hw.2.2.2.2 hdg hlocks))
theorem X_metv {l : Launch} {y : MethodName} {bytes : ByteArray} {maxL : Nat} {h fc fn : Nat} {as : List Value} {D : va_G} {ad : Nat → Nat} {cI cM : ClassId} {sz : Nat} {μ : TMem} {Q : TMem → Prop} {X : String → TMem → Prop} (hy : plainName y.cls = true) (hsl : (lg_sl as).length ≤ maxL)
    (body : ∀ (p : Program) (e : Env) (s : State) (m : MethodId) (below : List Frame) (meth : Method) (c : Code) (Qc : Array Value → State → Outcome → State → Prop) (ls : Array Slot), p.tables.exec = Jvm.exec → c.code = bytes → c.maxLocals = maxL → s.vm.findClass y.cls = some m.cls → (∀ w ∈ W0, w.before as.toArray s = true) → NW s → TK D cI cM s → SX ad s → (∀ x ∈ c.exceptionTable.toList, False) → meth.locks = false → TW D ad cI cM s μ s.heap [] →
      (∀ (H : Heap) (locs : List Loc) (ls : Array Slot) (pc cells slots : Nat) (μ1 : TMem), TW D ad cI cM s μ1 H locs → Q μ1 → cells ≤ fc → slots ≤ fn → decode bytes pc = .ok (.return_, 1) → W p l e (RX h fc fn) s m as.toArray below meth c H locs cells slots (vx_MQ below Qc (vx_X (fun _ : TMem => True) (TEX D ad cI cM X) (TA ad s.heap.size)) as.toArray s fc fn (TA ad s.heap.size)) (F0 m pc ls [])) → lv_has ls maxL (lv_args 0 as) →
      W p l e (RX h fc fn) s m as.toArray below meth c s.heap [] 0 0 (vx_MQ below Qc (vx_X (fun _ : TMem => True) (TEX D ad cI cM X) (TA ad s.heap.size)) as.toArray s fc fn (TA ad s.heap.size)) (F0 m 0 ls [])) : XMv l y (.code y bytes maxL none) h fc fn as D ad cI cM sz μ Q X := by
  refine vx_ofW (cc := bytes) (maxL := maxL) (ret := none) hy rfl ?_
  intro p e s m args below meth c s₁ B hml htab hv
  obtain ⟨rfl, ⟨hsz, hP, hK, hI, hN⟩, hX⟩ := hv
  subst hsz
  have hts := atoms_spec B.pre
  have hlocks := B.notSynchronized
  rw [lg_entry_eq]
  refine body p e s m below meth c _ _ B.exec B.bytes hml (findClass_of_methodNamed B.named) (fun w hw => hts w (List.mem_cons_of_mem _ hw)) hN hK hX htab hlocks ⟨hP, hI, va_S.rf⟩ (fun H locs ls pc cells slots μ1 hw hq hc hs hdg => ?_) (lv_entry as hsl)
  exact W.widen hc hs (vx_ret (W.vret B.exec B.bytes B.returns (fun t ht9 hW => ⟨⟨μ1, rfl, hq, by rw [TE, ht9]; exact hw.1⟩, hw.2.2.F ht9⟩) hw.2.2.2.2 hdg hlocks))
theorem X_metl {l : Launch} {y : MethodName} {bytes : ByteArray} {maxL : Nat} {h fc fn : Nat} {as : List Value} {D : va_G} {ad : Nat → Nat} {cI cM : ClassId} {sz : Nat} {μ : TMem} {Q : Int64 → TMem → Prop} {X : String → TMem → Prop} (hy : plainName y.cls = true) (hsl : (lg_sl as).length ≤ maxL)
    (body : ∀ (p : Program) (e : Env) (s : State) (m : MethodId) (below : List Frame) (meth : Method) (c : Code) (Qc : Array Value → State → Outcome → State → Prop) (ls : Array Slot), p.tables.exec = Jvm.exec → c.code = bytes → c.maxLocals = maxL → s.vm.findClass y.cls = some m.cls → (∀ w ∈ W0, w.before as.toArray s = true) → NW s → TK D cI cM s → SX ad s → (∀ x ∈ c.exceptionTable.toList, False) → meth.locks = false → TW D ad cI cM s μ s.heap [] →
      (∀ (H : Heap) (locs : List Loc) (ls : Array Slot) (pc cells slots : Nat) (v : Int64) (μ1 : TMem), TW D ad cI cM s μ1 H locs → Q v μ1 → cells ≤ fc → slots ≤ fn → decode bytes pc = .ok (.lreturn, 1) → W p l e (RX h fc fn) s m as.toArray below meth c H locs cells slots (vx_MQ below Qc (vx_X (fun _ : TMem => True) (TEX D ad cI cM X) (TA ad s.heap.size)) as.toArray s fc fn (TA ad s.heap.size)) (F0 m pc ls [.long v])) → lv_has ls maxL (lv_args 0 as) →
      W p l e (RX h fc fn) s m as.toArray below meth c s.heap [] 0 0 (vx_MQ below Qc (vx_X (fun _ : TMem => True) (TEX D ad cI cM X) (TA ad s.heap.size)) as.toArray s fc fn (TA ad s.heap.size)) (F0 m 0 ls [])) : XMl l y (.code y bytes maxL (some .long)) h fc fn as D ad cI cM sz μ Q X := by
  refine vx_ofW (cc := bytes) (maxL := maxL) (ret := (some .long)) hy rfl ?_
  intro p e s m args below meth c s₁ B hml htab hv
  obtain ⟨rfl, ⟨hsz, hP, hK, hI, hN⟩, hX⟩ := hv
  subst hsz
  have hts := atoms_spec B.pre
  have hlocks := B.notSynchronized
  rw [lg_entry_eq]
  refine body p e s m below meth c _ _ B.exec B.bytes hml (findClass_of_methodNamed B.named) (fun w hw => hts w (List.mem_cons_of_mem _ hw)) hN hK hX htab hlocks ⟨hP, hI, va_S.rf⟩ (fun H locs ls pc cells slots v μ1 hw hq hc hs hdg => ?_) (lv_entry as hsl)
  exact W.widen hc hs (vx_ret (W.lret B.exec B.bytes B.returns (fun t ht9 hW => ⟨⟨v, μ1, rfl, hq, by rw [TE, ht9]; exact hw.1⟩, hw.2.2.F ht9⟩) hw.2.2.2.2 hdg hlocks))
theorem X_meto {l : Launch} {y : MethodName} {bytes : ByteArray} {maxL : Nat} {cn : String} {h fc fn : Nat} {as : List Value} {D : va_G} {ad : Nat → Nat} {cI cM : ClassId} {sz : Nat} {μ : TMem} {Q : Nat → TMem → Prop} {X : String → TMem → Prop} (hy : plainName y.cls = true) (hsl : (lg_sl as).length ≤ maxL)
    (body : ∀ (p : Program) (e : Env) (s : State) (m : MethodId) (below : List Frame) (meth : Method) (c : Code) (Qc : Array Value → State → Outcome → State → Prop) (ls : Array Slot), p.tables.exec = Jvm.exec → c.code = bytes → c.maxLocals = maxL → s.vm.findClass y.cls = some m.cls → (∀ w ∈ W0, w.before as.toArray s = true) → NW s → TK D cI cM s → SX ad s → (∀ x ∈ c.exceptionTable.toList, False) → meth.locks = false → TW D ad cI cM s μ s.heap [] →
      (∀ (H : Heap) (locs : List Loc) (ls : Array Slot) (pc cells slots : Nat) (k : Nat) (μ1 : TMem), TW D ad cI cM s μ1 H locs → Q k μ1 → kd k = 2 → cells ≤ fc → slots ≤ fn → decode bytes pc = .ok (.areturn, 1) → W p l e (RX h fc fn) s m as.toArray below meth c H locs cells slots (vx_MQ below Qc (vx_X (fun _ : TMem => True) (TEX D ad cI cM X) (TA ad s.heap.size)) as.toArray s fc fn (TA ad s.heap.size)) (F0 m pc ls [.ref (ad k)])) → lv_has ls maxL (lv_args 0 as) →
      W p l e (RX h fc fn) s m as.toArray below meth c s.heap [] 0 0 (vx_MQ below Qc (vx_X (fun _ : TMem => True) (TEX D ad cI cM X) (TA ad s.heap.size)) as.toArray s fc fn (TA ad s.heap.size)) (F0 m 0 ls [])) : XMo l y (.code y bytes maxL (some (.object cn))) h fc fn as D ad cI cM sz μ Q X := by
  refine vx_ofW (cc := bytes) (maxL := maxL) (ret := (some (.object cn))) hy rfl ?_
  intro p e s m args below meth c s₁ B hml htab hv
  obtain ⟨rfl, ⟨hsz, hP, hK, hI, hN⟩, hX⟩ := hv
  subst hsz
  have hts := atoms_spec B.pre
  have hlocks := B.notSynchronized
  rw [lg_entry_eq]
  refine body p e s m below meth c _ _ B.exec B.bytes hml (findClass_of_methodNamed B.named) (fun w hw => hts w (List.mem_cons_of_mem _ hw)) hN hK hX htab hlocks ⟨hP, hI, va_S.rf⟩ (fun H locs ls pc cells slots k μ1 hw hq hn hc hs hdg => ?_) (lv_entry as hsl)
  exact W.widen hc hs (vx_ret (W.aret B.exec B.bytes B.returns (Or.inl ⟨_, rfl⟩) (Or.inr ⟨_, rfl⟩) (fun t ht9 hW => ⟨⟨some (ad k), (k, μ1), rfl, ⟨rfl, hn, hq⟩, by show va_P D CL (TRX ad cI cM μ1) t.heap; rw [ht9]; exact hw.1⟩, hw.2.2.F ht9⟩) hw.2.2.2.2 hdg hlocks))
theorem X_mets {l : Launch} {y : MethodName} {bytes : ByteArray} {maxL : Nat} {cn : String} {h fc fn : Nat} {as : List Value} {D : va_G} {ad : Nat → Nat} {cI cM : ClassId} {sz : Nat} {μ : TMem} {Q : TMem → Prop} {X : String → TMem → Prop} (hy : plainName y.cls = true) (hsl : (lg_sl as).length ≤ maxL)
    (body : ∀ (p : Program) (e : Env) (s : State) (m : MethodId) (below : List Frame) (meth : Method) (c : Code) (Qc : Array Value → State → Outcome → State → Prop) (ls : Array Slot), p.tables.exec = Jvm.exec → c.code = bytes → c.maxLocals = maxL → s.vm.findClass y.cls = some m.cls → (∀ w ∈ W0, w.before as.toArray s = true) → NW s → TK D cI cM s → SX ad s → (∀ x ∈ c.exceptionTable.toList, False) → meth.locks = false → TW D ad cI cM s μ s.heap [] →
      (∀ (H : Heap) (locs : List Loc) (ls : Array Slot) (pc cells slots : Nat) (r : Option Nat) (μ1 : TMem), TW D ad cI cM s μ1 H locs → Q μ1 → cells ≤ fc → slots ≤ fn → decode bytes pc = .ok (.areturn, 1) → W p l e (RX h fc fn) s m as.toArray below meth c H locs cells slots (vx_MQ below Qc (vx_X (fun _ : TMem => True) (TEX D ad cI cM X) (TA ad s.heap.size)) as.toArray s fc fn (TA ad s.heap.size)) (F0 m pc ls [va_rf r])) → lv_has ls maxL (lv_args 0 as) →
      W p l e (RX h fc fn) s m as.toArray below meth c s.heap [] 0 0 (vx_MQ below Qc (vx_X (fun _ : TMem => True) (TEX D ad cI cM X) (TA ad s.heap.size)) as.toArray s fc fn (TA ad s.heap.size)) (F0 m 0 ls [])) : XMs l y (.code y bytes maxL (some (.object cn))) h fc fn as D ad cI cM sz μ Q X := by
  refine vx_ofW (cc := bytes) (maxL := maxL) (ret := (some (.object cn))) hy rfl ?_
  intro p e s m args below meth c s₁ B hml htab hv
  obtain ⟨rfl, ⟨hsz, hP, hK, hI, hN⟩, hX⟩ := hv
  subst hsz
  have hts := atoms_spec B.pre
  have hlocks := B.notSynchronized
  rw [lg_entry_eq]
  refine body p e s m below meth c _ _ B.exec B.bytes hml (findClass_of_methodNamed B.named) (fun w hw => hts w (List.mem_cons_of_mem _ hw)) hN hK hX htab hlocks ⟨hP, hI, va_S.rf⟩ (fun H locs ls pc cells slots r μ1 hw hq hc hs hdg => ?_) (lv_entry as hsl)
  exact W.widen hc hs (vx_ret (W.aret B.exec B.bytes B.returns (Or.inl ⟨_, rfl⟩) (by cases r; exact Or.inl rfl; exact Or.inr ⟨_, rfl⟩) (fun t ht9 hW => ⟨⟨r, μ1, rfl, hq, by rw [TE, ht9]; exact hw.1⟩, hw.2.2.F ht9⟩) hw.2.2.2.2 hdg hlocks))
end XLB
end
/-! part 10.hd -/
section
theorem hd_53 : (yX9_machineAt : MethodName).cls ≠ "java/lang/invoke/MethodHandle" ∧ (yX9_machineAt : MethodName).cls ≠ "java/lang/invoke/VarHandle" ∧ (parseMethodDescriptor (yX9_machineAt : MethodName).desc).map (fun d => d.parameters.length) = some 1 := by decide +kernel
theorem hd_54 : (yX9_checkRange : MethodName).cls ≠ "java/lang/invoke/MethodHandle" ∧ (yX9_checkRange : MethodName).cls ≠ "java/lang/invoke/VarHandle" ∧ (parseMethodDescriptor (yX9_checkRange : MethodName).desc).map (fun d => d.parameters.length) = some 3 := by decide +kernel
theorem hd_55 : (yX2_clear : MethodName).cls ≠ "java/lang/invoke/MethodHandle" ∧ (yX2_clear : MethodName).cls ≠ "java/lang/invoke/VarHandle" ∧ (parseMethodDescriptor (yX2_clear : MethodName).desc).map (fun d => d.parameters.length) = some 1 := by decide +kernel
theorem hd_56 : (yX9_checkState : MethodName).cls ≠ "java/lang/invoke/MethodHandle" ∧ (yX9_checkState : MethodName).cls ≠ "java/lang/invoke/VarHandle" ∧ (parseMethodDescriptor (yX9_checkState : MethodName).desc).map (fun d => d.parameters.length) = some 2 := by decide +kernel
theorem hd_57 : (yX9_checkSign : MethodName).cls ≠ "java/lang/invoke/MethodHandle" ∧ (yX9_checkSign : MethodName).cls ≠ "java/lang/invoke/VarHandle" ∧ (parseMethodDescriptor (yX9_checkSign : MethodName).desc).map (fun d => d.parameters.length) = some 1 := by decide +kernel
theorem hd_58 : (yX0_restart : MethodName).cls ≠ "java/lang/invoke/MethodHandle" ∧ (yX0_restart : MethodName).cls ≠ "java/lang/invoke/VarHandle" ∧ (parseMethodDescriptor (yX0_restart : MethodName).desc).map (fun d => d.parameters.length) = some 1 := by decide +kernel
theorem hd_59 : (yX2_sowArrows : MethodName).cls ≠ "java/lang/invoke/MethodHandle" ∧ (yX2_sowArrows : MethodName).cls ≠ "java/lang/invoke/VarHandle" ∧ (parseMethodDescriptor (yX2_sowArrows : MethodName).desc).map (fun d => d.parameters.length) = some 2 := by decide +kernel
theorem hd_60 : (yX2_sowGoals : MethodName).cls ≠ "java/lang/invoke/MethodHandle" ∧ (yX2_sowGoals : MethodName).cls ≠ "java/lang/invoke/VarHandle" ∧ (parseMethodDescriptor (yX2_sowGoals : MethodName).desc).map (fun d => d.parameters.length) = some 1 := by decide +kernel
theorem hd_61 : (yX2_isSameAs : MethodName).cls ≠ "java/lang/invoke/MethodHandle" ∧ (yX2_isSameAs : MethodName).cls ≠ "java/lang/invoke/VarHandle" ∧ (parseMethodDescriptor (yX2_isSameAs : MethodName).desc).map (fun d => d.parameters.length) = some 1 := by decide +kernel
theorem hd_62 : (yX2_become : MethodName).cls ≠ "java/lang/invoke/MethodHandle" ∧ (yX2_become : MethodName).cls ≠ "java/lang/invoke/VarHandle" ∧ (parseMethodDescriptor (yX2_become : MethodName).desc).map (fun d => d.parameters.length) = some 1 := by decide +kernel
theorem hd_63 : (yX2_allStates : MethodName).cls ≠ "java/lang/invoke/MethodHandle" ∧ (yX2_allStates : MethodName).cls ≠ "java/lang/invoke/VarHandle" ∧ (parseMethodDescriptor (yX2_allStates : MethodName).desc).map (fun d => d.parameters.length) = some 0 := by decide +kernel
theorem hd_64 : (yX2_removeState : MethodName).cls ≠ "java/lang/invoke/MethodHandle" ∧ (yX2_removeState : MethodName).cls ≠ "java/lang/invoke/VarHandle" ∧ (parseMethodDescriptor (yX2_removeState : MethodName).desc).map (fun d => d.parameters.length) = some 1 := by decide +kernel
theorem hd_65 : (yX3_makeBy : MethodName).cls ≠ "java/lang/invoke/MethodHandle" ∧ (yX3_makeBy : MethodName).cls ≠ "java/lang/invoke/VarHandle" ∧ (parseMethodDescriptor (yX3_makeBy : MethodName).desc).map (fun d => d.parameters.length) = some 3 := by decide +kernel
theorem hd_66 : (yX9_becomeMade : MethodName).cls ≠ "java/lang/invoke/MethodHandle" ∧ (yX9_becomeMade : MethodName).cls ≠ "java/lang/invoke/VarHandle" ∧ (parseMethodDescriptor (yX9_becomeMade : MethodName).desc).map (fun d => d.parameters.length) = some 1 := by decide +kernel
theorem hd_67 : (yX9_putTogether : MethodName).cls ≠ "java/lang/invoke/MethodHandle" ∧ (yX9_putTogether : MethodName).cls ≠ "java/lang/invoke/VarHandle" ∧ (parseMethodDescriptor (yX9_putTogether : MethodName).desc).map (fun d => d.parameters.length) = some 3 := by decide +kernel
theorem hd_68 : (yX9_checkWord : MethodName).cls ≠ "java/lang/invoke/MethodHandle" ∧ (yX9_checkWord : MethodName).cls ≠ "java/lang/invoke/VarHandle" ∧ (parseMethodDescriptor (yX9_checkWord : MethodName).desc).map (fun d => d.parameters.length) = some 2 := by decide +kernel
theorem hd_69 : (yX9_makeOrThrow : MethodName).cls ≠ "java/lang/invoke/MethodHandle" ∧ (yX9_makeOrThrow : MethodName).cls ≠ "java/lang/invoke/VarHandle" ∧ (parseMethodDescriptor (yX9_makeOrThrow : MethodName).desc).map (fun d => d.parameters.length) = some 3 := by decide +kernel
theorem hd_70 : (yX5_isTakingLongOnes : MethodName).cls ≠ "java/lang/invoke/MethodHandle" ∧ (yX5_isTakingLongOnes : MethodName).cls ≠ "java/lang/invoke/VarHandle" ∧ (parseMethodDescriptor (yX5_isTakingLongOnes : MethodName).desc).map (fun d => d.parameters.length) = some 0 := by decide +kernel
theorem hd_71 : (yX8_count : MethodName).cls ≠ "java/lang/invoke/MethodHandle" ∧ (yX8_count : MethodName).cls ≠ "java/lang/invoke/VarHandle" ∧ (parseMethodDescriptor (yX8_count : MethodName).desc).map (fun d => d.parameters.length) = some 1 := by decide +kernel
theorem hd_72 : (yX2_countOneByOne : MethodName).cls ≠ "java/lang/invoke/MethodHandle" ∧ (yX2_countOneByOne : MethodName).cls ≠ "java/lang/invoke/VarHandle" ∧ (parseMethodDescriptor (yX2_countOneByOne : MethodName).desc).map (fun d => d.parameters.length) = some 1 := by decide +kernel
theorem hd_73 : (yX5_isSameAs : MethodName).cls ≠ "java/lang/invoke/MethodHandle" ∧ (yX5_isSameAs : MethodName).cls ≠ "java/lang/invoke/VarHandle" ∧ (parseMethodDescriptor (yX5_isSameAs : MethodName).desc).map (fun d => d.parameters.length) = some 1 := by decide +kernel
theorem hd_74 : (yX9_meetOrThrow : MethodName).cls ≠ "java/lang/invoke/MethodHandle" ∧ (yX9_meetOrThrow : MethodName).cls ≠ "java/lang/invoke/VarHandle" ∧ (parseMethodDescriptor (yX9_meetOrThrow : MethodName).desc).map (fun d => d.parameters.length) = some 2 := by decide +kernel
theorem hd_75 : (yX9_isTakingTheSame : MethodName).cls ≠ "java/lang/invoke/MethodHandle" ∧ (yX9_isTakingTheSame : MethodName).cls ≠ "java/lang/invoke/VarHandle" ∧ (parseMethodDescriptor (yX9_isTakingTheSame : MethodName).desc).map (fun d => d.parameters.length) = some 1 := by decide +kernel
theorem hd_76 : (yX9_addMachine : MethodName).cls ≠ "java/lang/invoke/MethodHandle" ∧ (yX9_addMachine : MethodName).cls ≠ "java/lang/invoke/VarHandle" ∧ (parseMethodDescriptor (yX9_addMachine : MethodName).desc).map (fun d => d.parameters.length) = some 2 := by decide +kernel
theorem hd_77 : (yX9_isSound : MethodName).cls ≠ "java/lang/invoke/MethodHandle" ∧ (yX9_isSound : MethodName).cls ≠ "java/lang/invoke/VarHandle" ∧ (parseMethodDescriptor (yX9_isSound : MethodName).desc).map (fun d => d.parameters.length) = some 0 := by decide +kernel
end
/-! part 11.dec2 -/
section
set_option maxRecDepth 100000 in
theorem db_cX9_machineAt_dX9_machineAt_0_0 : zw [(0, .iload_n 1, 1), (1, .ifCond .lt 12, 3), (4, .iload_n 1, 1), (5, .aload_n 0, 1), (6, .getfield 11, 3), (9, .arraylength, 1), (10, .if_icmp .lt 14, 3), (13, .new 272, 3), (16, .dup, 1), (17, .ldc_w 274, 3), (20, .invokespecial 276, 3), (23, .athrow, 1), (24, .aload_n 0, 1), (25, .getfield 11, 3), (28, .iload_n 1, 1), (29, .aaload, 1)] (cX9_machineAt.data.toList.drop 0) 0 = true := by decide +kernel
def dc_cX9_machineAt_dX9_machineAt_0_0 := zw_16 db_cX9_machineAt_dX9_machineAt_0_0
def dX9_machineAt_0 := dc_cX9_machineAt_dX9_machineAt_0_0.1
def dX9_machineAt_1 := dc_cX9_machineAt_dX9_machineAt_0_0.2.1
def dX9_machineAt_4 := dc_cX9_machineAt_dX9_machineAt_0_0.2.2.1
def dX9_machineAt_5 := dc_cX9_machineAt_dX9_machineAt_0_0.2.2.2.1
def dX9_machineAt_6 := dc_cX9_machineAt_dX9_machineAt_0_0.2.2.2.2.1
def dX9_machineAt_9 := dc_cX9_machineAt_dX9_machineAt_0_0.2.2.2.2.2.1
def dX9_machineAt_10 := dc_cX9_machineAt_dX9_machineAt_0_0.2.2.2.2.2.2.1
def dX9_machineAt_13 := dc_cX9_machineAt_dX9_machineAt_0_0.2.2.2.2.2.2.2.1
def dX9_machineAt_16 := dc_cX9_machineAt_dX9_machineAt_0_0.2.2.2.2.2.2.2.2.1
def dX9_machineAt_17 := dc_cX9_machineAt_dX9_machineAt_0_0.2.2.2.2.2.2.2.2.2.1
def dX9_machineAt_20 := dc_cX9_machineAt_dX9_machineAt_0_0.2.2.2.2.2.2.2.2.2.2.1
def dX9_machineAt_23 := dc_cX9_machineAt_dX9_machineAt_0_0.2.2.2.2.2.2.2.2.2.2.2.1
def dX9_machineAt_24 := dc_cX9_machineAt_dX9_machineAt_0_0.2.2.2.2.2.2.2.2.2.2.2.2.1
def dX9_machineAt_25 := dc_cX9_machineAt_dX9_machineAt_0_0.2.2.2.2.2.2.2.2.2.2.2.2.2.1
def dX9_machineAt_28 := dc_cX9_machineAt_dX9_machineAt_0_0.2.2.2.2.2.2.2.2.2.2.2.2.2.2.1
def dX9_machineAt_29 := dc_cX9_machineAt_dX9_machineAt_0_0.2.2.2.2.2.2.2.2.2.2.2.2.2.2.2
set_option maxRecDepth 100000 in
theorem db_cX9_machineAt_dX9_machineAt_30_1 : zw [(30, .areturn, 1)] (cX9_machineAt.data.toList.drop 30) 30 = true := by decide +kernel
def dX9_machineAt_30 := zw_1 db_cX9_machineAt_dX9_machineAt_30_1
set_option maxRecDepth 100000 in
theorem db_cX9_checkRange_dX9_checkRange_0_0 : zw [(0, .iload_n 0, 1), (1, .iload_n 1, 1), (2, .if_icmp .lt 8, 3), (5, .iload_n 0, 1), (6, .iload_n 2, 1), (7, .if_icmp .le 14, 3), (10, .new 212, 3), (13, .dup, 1), (14, .ldc_w 282, 3), (17, .invokespecial 216, 3), (20, .athrow, 1), (21, .return_, 1)] (cX9_checkRange.data.toList.drop 0) 0 = true := by decide +kernel
def dc_cX9_checkRange_dX9_checkRange_0_0 := zw_12 db_cX9_checkRange_dX9_checkRange_0_0
def dX9_checkRange_0 := dc_cX9_checkRange_dX9_checkRange_0_0.1
def dX9_checkRange_1 := dc_cX9_checkRange_dX9_checkRange_0_0.2.1
def dX9_checkRange_2 := dc_cX9_checkRange_dX9_checkRange_0_0.2.2.1
def dX9_checkRange_5 := dc_cX9_checkRange_dX9_checkRange_0_0.2.2.2.1
def dX9_checkRange_6 := dc_cX9_checkRange_dX9_checkRange_0_0.2.2.2.2.1
def dX9_checkRange_7 := dc_cX9_checkRange_dX9_checkRange_0_0.2.2.2.2.2.1
def dX9_checkRange_10 := dc_cX9_checkRange_dX9_checkRange_0_0.2.2.2.2.2.2.1
def dX9_checkRange_13 := dc_cX9_checkRange_dX9_checkRange_0_0.2.2.2.2.2.2.2.1
def dX9_checkRange_14 := dc_cX9_checkRange_dX9_checkRange_0_0.2.2.2.2.2.2.2.2.1
def dX9_checkRange_17 := dc_cX9_checkRange_dX9_checkRange_0_0.2.2.2.2.2.2.2.2.2.1
def dX9_checkRange_20 := dc_cX9_checkRange_dX9_checkRange_0_0.2.2.2.2.2.2.2.2.2.2.1
def dX9_checkRange_21 := dc_cX9_checkRange_dX9_checkRange_0_0.2.2.2.2.2.2.2.2.2.2.2
set_option maxRecDepth 100000 in
theorem db_cX9_begin_dX9_begin_0_0 : zw [(0, .aload_n 0, 1), (1, .iload_n 1, 1), (2, .invokevirtual 69, 3), (5, .astore_n 3, 1), (6, .iload_n 2, 1), (7, .iconst 1, 1), (8, .bipush 7, 2), (10, .invokestatic 73, 3), (13, .aload_n 3, 1), (14, .invokevirtual 77, 3), (17, .istore 4, 2), (19, .aload_n 3, 1), (20, .iload_n 2, 1), (21, .invokevirtual 81, 3), (24, .aload_n 0, 1), (25, .iload 4, 2)] (cX9_begin.data.toList.drop 0) 0 = true := by decide +kernel
def dc_cX9_begin_dX9_begin_0_0 := zw_16 db_cX9_begin_dX9_begin_0_0
def dX9_begin_0 := dc_cX9_begin_dX9_begin_0_0.1
def dX9_begin_1 := dc_cX9_begin_dX9_begin_0_0.2.1
def dX9_begin_2 := dc_cX9_begin_dX9_begin_0_0.2.2.1
def dX9_begin_5 := dc_cX9_begin_dX9_begin_0_0.2.2.2.1
def dX9_begin_6 := dc_cX9_begin_dX9_begin_0_0.2.2.2.2.1
def dX9_begin_7 := dc_cX9_begin_dX9_begin_0_0.2.2.2.2.2.1
def dX9_begin_8 := dc_cX9_begin_dX9_begin_0_0.2.2.2.2.2.2.1
def dX9_begin_10 := dc_cX9_begin_dX9_begin_0_0.2.2.2.2.2.2.2.1
def dX9_begin_13 := dc_cX9_begin_dX9_begin_0_0.2.2.2.2.2.2.2.2.1
def dX9_begin_14 := dc_cX9_begin_dX9_begin_0_0.2.2.2.2.2.2.2.2.2.1
def dX9_begin_17 := dc_cX9_begin_dX9_begin_0_0.2.2.2.2.2.2.2.2.2.2.1
def dX9_begin_19 := dc_cX9_begin_dX9_begin_0_0.2.2.2.2.2.2.2.2.2.2.2.1
def dX9_begin_20 := dc_cX9_begin_dX9_begin_0_0.2.2.2.2.2.2.2.2.2.2.2.2.1
def dX9_begin_21 := dc_cX9_begin_dX9_begin_0_0.2.2.2.2.2.2.2.2.2.2.2.2.2.1
def dX9_begin_24 := dc_cX9_begin_dX9_begin_0_0.2.2.2.2.2.2.2.2.2.2.2.2.2.2.1
def dX9_begin_25 := dc_cX9_begin_dX9_begin_0_0.2.2.2.2.2.2.2.2.2.2.2.2.2.2.2
set_option maxRecDepth 100000 in
theorem db_cX9_begin_dX9_begin_27_1 : zw [(27, .invokevirtual 84, 3), (30, .ireturn, 1)] (cX9_begin.data.toList.drop 27) 27 = true := by decide +kernel
def dc_cX9_begin_dX9_begin_27_1 := zw_2 db_cX9_begin_dX9_begin_27_1
def dX9_begin_27 := dc_cX9_begin_dX9_begin_27_1.1
def dX9_begin_30 := dc_cX9_begin_dX9_begin_27_1.2
set_option maxRecDepth 100000 in
theorem db_cX9_checkState_dX9_checkState_0_0 : zw [(0, .iload_n 1, 1), (1, .ifCond .lt 11, 3), (4, .iload_n 1, 1), (5, .aload_n 0, 1), (6, .getfield 151, 3), (9, .if_icmp .lt 14, 3), (12, .new 272, 3), (15, .dup, 1), (16, .ldc_w 277, 3), (19, .invokespecial 276, 3), (22, .athrow, 1), (23, .return_, 1)] (cX9_checkState.data.toList.drop 0) 0 = true := by decide +kernel
def dc_cX9_checkState_dX9_checkState_0_0 := zw_12 db_cX9_checkState_dX9_checkState_0_0
def dX9_checkState_0 := dc_cX9_checkState_dX9_checkState_0_0.1
def dX9_checkState_1 := dc_cX9_checkState_dX9_checkState_0_0.2.1
def dX9_checkState_4 := dc_cX9_checkState_dX9_checkState_0_0.2.2.1
def dX9_checkState_5 := dc_cX9_checkState_dX9_checkState_0_0.2.2.2.1
def dX9_checkState_6 := dc_cX9_checkState_dX9_checkState_0_0.2.2.2.2.1
def dX9_checkState_9 := dc_cX9_checkState_dX9_checkState_0_0.2.2.2.2.2.1
def dX9_checkState_12 := dc_cX9_checkState_dX9_checkState_0_0.2.2.2.2.2.2.1
def dX9_checkState_15 := dc_cX9_checkState_dX9_checkState_0_0.2.2.2.2.2.2.2.1
def dX9_checkState_16 := dc_cX9_checkState_dX9_checkState_0_0.2.2.2.2.2.2.2.2.1
def dX9_checkState_19 := dc_cX9_checkState_dX9_checkState_0_0.2.2.2.2.2.2.2.2.2.1
def dX9_checkState_22 := dc_cX9_checkState_dX9_checkState_0_0.2.2.2.2.2.2.2.2.2.2.1
def dX9_checkState_23 := dc_cX9_checkState_dX9_checkState_0_0.2.2.2.2.2.2.2.2.2.2.2
set_option maxRecDepth 100000 in
theorem db_cX9_checkSign_dX9_checkSign_0_0 : zw [(0, .iload_n 0, 1), (1, .iconst 0, 1), (2, .iconst 2, 1), (3, .invokestatic 73, 3), (6, .return_, 1)] (cX9_checkSign.data.toList.drop 0) 0 = true := by decide +kernel
def dc_cX9_checkSign_dX9_checkSign_0_0 := zw_5 db_cX9_checkSign_dX9_checkSign_0_0
def dX9_checkSign_0 := dc_cX9_checkSign_dX9_checkSign_0_0.1
def dX9_checkSign_1 := dc_cX9_checkSign_dX9_checkSign_0_0.2.1
def dX9_checkSign_2 := dc_cX9_checkSign_dX9_checkSign_0_0.2.2.1
def dX9_checkSign_3 := dc_cX9_checkSign_dX9_checkSign_0_0.2.2.2.1
def dX9_checkSign_6 := dc_cX9_checkSign_dX9_checkSign_0_0.2.2.2.2
set_option maxRecDepth 100000 in
theorem db_cX9_arrow_dX9_arrow_0_0 : zw [(0, .aload_n 0, 1), (1, .iload_n 1, 1), (2, .invokevirtual 69, 3), (5, .astore 6, 2), (7, .aload 6, 2), (9, .iload_n 2, 1), (10, .invokestatic 88, 3), (13, .aload 6, 2), (15, .iload 4, 2), (17, .invokestatic 88, 3), (20, .iload_n 3, 1), (21, .invokestatic 92, 3), (24, .aload 6, 2), (26, .iload_n 2, 1), (27, .iload_n 3, 1), (28, .invokevirtual 95, 3)] (cX9_arrow.data.toList.drop 0) 0 = true := by decide +kernel
def dc_cX9_arrow_dX9_arrow_0_0 := zw_16 db_cX9_arrow_dX9_arrow_0_0
def dX9_arrow_0 := dc_cX9_arrow_dX9_arrow_0_0.1
def dX9_arrow_1 := dc_cX9_arrow_dX9_arrow_0_0.2.1
def dX9_arrow_2 := dc_cX9_arrow_dX9_arrow_0_0.2.2.1
def dX9_arrow_5 := dc_cX9_arrow_dX9_arrow_0_0.2.2.2.1
def dX9_arrow_7 := dc_cX9_arrow_dX9_arrow_0_0.2.2.2.2.1
def dX9_arrow_9 := dc_cX9_arrow_dX9_arrow_0_0.2.2.2.2.2.1
def dX9_arrow_10 := dc_cX9_arrow_dX9_arrow_0_0.2.2.2.2.2.2.1
def dX9_arrow_13 := dc_cX9_arrow_dX9_arrow_0_0.2.2.2.2.2.2.2.1
def dX9_arrow_15 := dc_cX9_arrow_dX9_arrow_0_0.2.2.2.2.2.2.2.2.1
def dX9_arrow_17 := dc_cX9_arrow_dX9_arrow_0_0.2.2.2.2.2.2.2.2.2.1
def dX9_arrow_20 := dc_cX9_arrow_dX9_arrow_0_0.2.2.2.2.2.2.2.2.2.2.1
def dX9_arrow_21 := dc_cX9_arrow_dX9_arrow_0_0.2.2.2.2.2.2.2.2.2.2.2.1
def dX9_arrow_24 := dc_cX9_arrow_dX9_arrow_0_0.2.2.2.2.2.2.2.2.2.2.2.2.1
def dX9_arrow_26 := dc_cX9_arrow_dX9_arrow_0_0.2.2.2.2.2.2.2.2.2.2.2.2.2.1
def dX9_arrow_27 := dc_cX9_arrow_dX9_arrow_0_0.2.2.2.2.2.2.2.2.2.2.2.2.2.2.1
def dX9_arrow_28 := dc_cX9_arrow_dX9_arrow_0_0.2.2.2.2.2.2.2.2.2.2.2.2.2.2.2
set_option maxRecDepth 100000 in
theorem db_cX9_arrow_dX9_arrow_31_1 : zw [(31, .istore 7, 2), (33, .iload 7, 2), (35, .iload 4, 2), (37, .iload 5, 2), (39, .invokestatic 99, 3), (42, .istore 8, 2), (44, .aload 6, 2), (46, .iload_n 2, 1), (47, .iload_n 3, 1), (48, .iload 8, 2), (50, .invokevirtual 103, 3), (53, .aload_n 0, 1), (54, .iload 8, 2), (56, .iload 7, 2), (58, .if_icmp .eq 7, 3), (61, .iconst 1, 1)] (cX9_arrow.data.toList.drop 31) 31 = true := by decide +kernel
def dc_cX9_arrow_dX9_arrow_31_1 := zw_16 db_cX9_arrow_dX9_arrow_31_1
def dX9_arrow_31 := dc_cX9_arrow_dX9_arrow_31_1.1
def dX9_arrow_33 := dc_cX9_arrow_dX9_arrow_31_1.2.1
def dX9_arrow_35 := dc_cX9_arrow_dX9_arrow_31_1.2.2.1
def dX9_arrow_37 := dc_cX9_arrow_dX9_arrow_31_1.2.2.2.1
def dX9_arrow_39 := dc_cX9_arrow_dX9_arrow_31_1.2.2.2.2.1
def dX9_arrow_42 := dc_cX9_arrow_dX9_arrow_31_1.2.2.2.2.2.1
def dX9_arrow_44 := dc_cX9_arrow_dX9_arrow_31_1.2.2.2.2.2.2.1
def dX9_arrow_46 := dc_cX9_arrow_dX9_arrow_31_1.2.2.2.2.2.2.2.1
def dX9_arrow_47 := dc_cX9_arrow_dX9_arrow_31_1.2.2.2.2.2.2.2.2.1
def dX9_arrow_48 := dc_cX9_arrow_dX9_arrow_31_1.2.2.2.2.2.2.2.2.2.1
def dX9_arrow_50 := dc_cX9_arrow_dX9_arrow_31_1.2.2.2.2.2.2.2.2.2.2.1
def dX9_arrow_53 := dc_cX9_arrow_dX9_arrow_31_1.2.2.2.2.2.2.2.2.2.2.2.1
def dX9_arrow_54 := dc_cX9_arrow_dX9_arrow_31_1.2.2.2.2.2.2.2.2.2.2.2.2.1
def dX9_arrow_56 := dc_cX9_arrow_dX9_arrow_31_1.2.2.2.2.2.2.2.2.2.2.2.2.2.1
def dX9_arrow_58 := dc_cX9_arrow_dX9_arrow_31_1.2.2.2.2.2.2.2.2.2.2.2.2.2.2.1
def dX9_arrow_61 := dc_cX9_arrow_dX9_arrow_31_1.2.2.2.2.2.2.2.2.2.2.2.2.2.2.2
set_option maxRecDepth 100000 in
theorem db_cX9_arrow_dX9_arrow_62_2 : zw [(62, .goto 4, 3), (65, .iconst 0, 1), (66, .invokevirtual 84, 3), (69, .ireturn, 1)] (cX9_arrow.data.toList.drop 62) 62 = true := by decide +kernel
def dc_cX9_arrow_dX9_arrow_62_2 := zw_4 db_cX9_arrow_dX9_arrow_62_2
def dX9_arrow_62 := dc_cX9_arrow_dX9_arrow_62_2.1
def dX9_arrow_65 := dc_cX9_arrow_dX9_arrow_62_2.2.1
def dX9_arrow_66 := dc_cX9_arrow_dX9_arrow_62_2.2.2.1
def dX9_arrow_69 := dc_cX9_arrow_dX9_arrow_62_2.2.2.2
set_option maxRecDepth 100000 in
theorem db_cX9_lead_dX9_lead_0_0 : zw [(0, .aload_n 0, 1), (1, .iload_n 1, 1), (2, .invokevirtual 69, 3), (5, .astore 5, 2), (7, .aload 5, 2), (9, .iload_n 2, 1), (10, .invokestatic 88, 3), (13, .aload 5, 2), (15, .iload 4, 2), (17, .invokestatic 88, 3), (20, .iload_n 3, 1), (21, .invokestatic 92, 3), (24, .aload 5, 2), (26, .iload_n 2, 1), (27, .iload_n 3, 1), (28, .invokevirtual 95, 3)] (cX9_lead.data.toList.drop 0) 0 = true := by decide +kernel
def dc_cX9_lead_dX9_lead_0_0 := zw_16 db_cX9_lead_dX9_lead_0_0
def dX9_lead_0 := dc_cX9_lead_dX9_lead_0_0.1
def dX9_lead_1 := dc_cX9_lead_dX9_lead_0_0.2.1
def dX9_lead_2 := dc_cX9_lead_dX9_lead_0_0.2.2.1
def dX9_lead_5 := dc_cX9_lead_dX9_lead_0_0.2.2.2.1
def dX9_lead_7 := dc_cX9_lead_dX9_lead_0_0.2.2.2.2.1
def dX9_lead_9 := dc_cX9_lead_dX9_lead_0_0.2.2.2.2.2.1
def dX9_lead_10 := dc_cX9_lead_dX9_lead_0_0.2.2.2.2.2.2.1
def dX9_lead_13 := dc_cX9_lead_dX9_lead_0_0.2.2.2.2.2.2.2.1
def dX9_lead_15 := dc_cX9_lead_dX9_lead_0_0.2.2.2.2.2.2.2.2.1
def dX9_lead_17 := dc_cX9_lead_dX9_lead_0_0.2.2.2.2.2.2.2.2.2.1
def dX9_lead_20 := dc_cX9_lead_dX9_lead_0_0.2.2.2.2.2.2.2.2.2.2.1
def dX9_lead_21 := dc_cX9_lead_dX9_lead_0_0.2.2.2.2.2.2.2.2.2.2.2.1
def dX9_lead_24 := dc_cX9_lead_dX9_lead_0_0.2.2.2.2.2.2.2.2.2.2.2.2.1
def dX9_lead_26 := dc_cX9_lead_dX9_lead_0_0.2.2.2.2.2.2.2.2.2.2.2.2.2.1
def dX9_lead_27 := dc_cX9_lead_dX9_lead_0_0.2.2.2.2.2.2.2.2.2.2.2.2.2.2.1
def dX9_lead_28 := dc_cX9_lead_dX9_lead_0_0.2.2.2.2.2.2.2.2.2.2.2.2.2.2.2
set_option maxRecDepth 100000 in
theorem db_cX9_lead_dX9_lead_31_1 : zw [(31, .istore 6, 2), (33, .aload 5, 2), (35, .iload_n 2, 1), (36, .iload_n 3, 1), (37, .iconst 1, 1), (38, .iload 4, 2), (40, .ishl, 1), (41, .invokevirtual 103, 3), (44, .aload_n 0, 1), (45, .iload 6, 2), (47, .invokestatic 106, 3), (50, .invokevirtual 84, 3), (53, .ireturn, 1)] (cX9_lead.data.toList.drop 31) 31 = true := by decide +kernel
def dc_cX9_lead_dX9_lead_31_1 := zw_13 db_cX9_lead_dX9_lead_31_1
def dX9_lead_31 := dc_cX9_lead_dX9_lead_31_1.1
def dX9_lead_33 := dc_cX9_lead_dX9_lead_31_1.2.1
def dX9_lead_35 := dc_cX9_lead_dX9_lead_31_1.2.2.1
def dX9_lead_36 := dc_cX9_lead_dX9_lead_31_1.2.2.2.1
def dX9_lead_37 := dc_cX9_lead_dX9_lead_31_1.2.2.2.2.1
def dX9_lead_38 := dc_cX9_lead_dX9_lead_31_1.2.2.2.2.2.1
def dX9_lead_40 := dc_cX9_lead_dX9_lead_31_1.2.2.2.2.2.2.1
def dX9_lead_41 := dc_cX9_lead_dX9_lead_31_1.2.2.2.2.2.2.2.1
def dX9_lead_44 := dc_cX9_lead_dX9_lead_31_1.2.2.2.2.2.2.2.2.1
def dX9_lead_45 := dc_cX9_lead_dX9_lead_31_1.2.2.2.2.2.2.2.2.2.1
def dX9_lead_47 := dc_cX9_lead_dX9_lead_31_1.2.2.2.2.2.2.2.2.2.2.1
def dX9_lead_50 := dc_cX9_lead_dX9_lead_31_1.2.2.2.2.2.2.2.2.2.2.2.1
def dX9_lead_53 := dc_cX9_lead_dX9_lead_31_1.2.2.2.2.2.2.2.2.2.2.2.2
set_option maxRecDepth 100000 in
theorem db_cX9_mark_dX9_mark_0_0 : zw [(0, .aload_n 0, 1), (1, .iload_n 1, 1), (2, .invokevirtual 69, 3), (5, .astore 5, 2), (7, .aload 5, 2), (9, .iload_n 2, 1), (10, .invokestatic 88, 3), (13, .iload_n 3, 1), (14, .ifCond .eq 11, 3), (17, .aload 5, 2), (19, .getfield 111, 3), (22, .goto 8, 3), (25, .aload 5, 2), (27, .getfield 115, 3), (30, .istore 6, 2), (32, .iload 6, 2)] (cX9_mark.data.toList.drop 0) 0 = true := by decide +kernel
def dc_cX9_mark_dX9_mark_0_0 := zw_16 db_cX9_mark_dX9_mark_0_0
def dX9_mark_0 := dc_cX9_mark_dX9_mark_0_0.1
def dX9_mark_1 := dc_cX9_mark_dX9_mark_0_0.2.1
def dX9_mark_2 := dc_cX9_mark_dX9_mark_0_0.2.2.1
def dX9_mark_5 := dc_cX9_mark_dX9_mark_0_0.2.2.2.1
def dX9_mark_7 := dc_cX9_mark_dX9_mark_0_0.2.2.2.2.1
def dX9_mark_9 := dc_cX9_mark_dX9_mark_0_0.2.2.2.2.2.1
def dX9_mark_10 := dc_cX9_mark_dX9_mark_0_0.2.2.2.2.2.2.1
def dX9_mark_13 := dc_cX9_mark_dX9_mark_0_0.2.2.2.2.2.2.2.1
def dX9_mark_14 := dc_cX9_mark_dX9_mark_0_0.2.2.2.2.2.2.2.2.1
def dX9_mark_17 := dc_cX9_mark_dX9_mark_0_0.2.2.2.2.2.2.2.2.2.1
def dX9_mark_19 := dc_cX9_mark_dX9_mark_0_0.2.2.2.2.2.2.2.2.2.2.1
def dX9_mark_22 := dc_cX9_mark_dX9_mark_0_0.2.2.2.2.2.2.2.2.2.2.2.1
def dX9_mark_25 := dc_cX9_mark_dX9_mark_0_0.2.2.2.2.2.2.2.2.2.2.2.2.1
def dX9_mark_27 := dc_cX9_mark_dX9_mark_0_0.2.2.2.2.2.2.2.2.2.2.2.2.2.1
def dX9_mark_30 := dc_cX9_mark_dX9_mark_0_0.2.2.2.2.2.2.2.2.2.2.2.2.2.2.1
def dX9_mark_32 := dc_cX9_mark_dX9_mark_0_0.2.2.2.2.2.2.2.2.2.2.2.2.2.2.2
set_option maxRecDepth 100000 in
theorem db_cX9_mark_dX9_mark_34_1 : zw [(34, .iload_n 2, 1), (35, .iload 4, 2), (37, .invokestatic 99, 3), (40, .istore 7, 2), (42, .iload_n 3, 1), (43, .ifCond .eq 13, 3), (46, .aload 5, 2), (48, .iload 7, 2), (50, .putfield 111, 3), (53, .goto 10, 3), (56, .aload 5, 2), (58, .iload 7, 2), (60, .putfield 115, 3), (63, .aload_n 0, 1), (64, .iload 7, 2), (66, .iload 6, 2)] (cX9_mark.data.toList.drop 34) 34 = true := by decide +kernel
def dc_cX9_mark_dX9_mark_34_1 := zw_16 db_cX9_mark_dX9_mark_34_1
def dX9_mark_34 := dc_cX9_mark_dX9_mark_34_1.1
def dX9_mark_35 := dc_cX9_mark_dX9_mark_34_1.2.1
def dX9_mark_37 := dc_cX9_mark_dX9_mark_34_1.2.2.1
def dX9_mark_40 := dc_cX9_mark_dX9_mark_34_1.2.2.2.1
def dX9_mark_42 := dc_cX9_mark_dX9_mark_34_1.2.2.2.2.1
def dX9_mark_43 := dc_cX9_mark_dX9_mark_34_1.2.2.2.2.2.1
def dX9_mark_46 := dc_cX9_mark_dX9_mark_34_1.2.2.2.2.2.2.1
def dX9_mark_48 := dc_cX9_mark_dX9_mark_34_1.2.2.2.2.2.2.2.1
def dX9_mark_50 := dc_cX9_mark_dX9_mark_34_1.2.2.2.2.2.2.2.2.1
def dX9_mark_53 := dc_cX9_mark_dX9_mark_34_1.2.2.2.2.2.2.2.2.2.1
def dX9_mark_56 := dc_cX9_mark_dX9_mark_34_1.2.2.2.2.2.2.2.2.2.2.1
def dX9_mark_58 := dc_cX9_mark_dX9_mark_34_1.2.2.2.2.2.2.2.2.2.2.2.1
def dX9_mark_60 := dc_cX9_mark_dX9_mark_34_1.2.2.2.2.2.2.2.2.2.2.2.2.1
def dX9_mark_63 := dc_cX9_mark_dX9_mark_34_1.2.2.2.2.2.2.2.2.2.2.2.2.2.1
def dX9_mark_64 := dc_cX9_mark_dX9_mark_34_1.2.2.2.2.2.2.2.2.2.2.2.2.2.2.1
def dX9_mark_66 := dc_cX9_mark_dX9_mark_34_1.2.2.2.2.2.2.2.2.2.2.2.2.2.2.2
set_option maxRecDepth 100000 in
theorem db_cX9_mark_dX9_mark_68_2 : zw [(68, .if_icmp .eq 7, 3), (71, .iconst 1, 1), (72, .goto 4, 3), (75, .iconst 0, 1), (76, .invokevirtual 84, 3), (79, .ireturn, 1)] (cX9_mark.data.toList.drop 68) 68 = true := by decide +kernel
def dc_cX9_mark_dX9_mark_68_2 := zw_6 db_cX9_mark_dX9_mark_68_2
def dX9_mark_68 := dc_cX9_mark_dX9_mark_68_2.1
def dX9_mark_71 := dc_cX9_mark_dX9_mark_68_2.2.1
def dX9_mark_72 := dc_cX9_mark_dX9_mark_68_2.2.2.1
def dX9_mark_75 := dc_cX9_mark_dX9_mark_68_2.2.2.2.1
def dX9_mark_76 := dc_cX9_mark_dX9_mark_68_2.2.2.2.2.1
def dX9_mark_79 := dc_cX9_mark_dX9_mark_68_2.2.2.2.2.2
set_option maxRecDepth 100000 in
theorem db_cX9_sow_dX9_sow_0_0 : zw [(0, .aload_n 0, 1), (1, .iload_n 1, 1), (2, .invokevirtual 69, 3), (5, .astore 5, 2), (7, .iload_n 2, 1), (8, .iconst 0, 1), (9, .ldc 118, 2), (11, .invokestatic 73, 3), (14, .iload_n 3, 1), (15, .iconst 1, 1), (16, .bipush 7, 2), (18, .invokestatic 73, 3), (21, .iload 4, 2), (23, .iconst 0, 1), (24, .bipush 6, 2), (26, .invokestatic 73, 3)] (cX9_sow.data.toList.drop 0) 0 = true := by decide +kernel
def dc_cX9_sow_dX9_sow_0_0 := zw_16 db_cX9_sow_dX9_sow_0_0
def dX9_sow_0 := dc_cX9_sow_dX9_sow_0_0.1
def dX9_sow_1 := dc_cX9_sow_dX9_sow_0_0.2.1
def dX9_sow_2 := dc_cX9_sow_dX9_sow_0_0.2.2.1
def dX9_sow_5 := dc_cX9_sow_dX9_sow_0_0.2.2.2.1
def dX9_sow_7 := dc_cX9_sow_dX9_sow_0_0.2.2.2.2.1
def dX9_sow_8 := dc_cX9_sow_dX9_sow_0_0.2.2.2.2.2.1
def dX9_sow_9 := dc_cX9_sow_dX9_sow_0_0.2.2.2.2.2.2.1
def dX9_sow_11 := dc_cX9_sow_dX9_sow_0_0.2.2.2.2.2.2.2.1
def dX9_sow_14 := dc_cX9_sow_dX9_sow_0_0.2.2.2.2.2.2.2.2.1
def dX9_sow_15 := dc_cX9_sow_dX9_sow_0_0.2.2.2.2.2.2.2.2.2.1
def dX9_sow_16 := dc_cX9_sow_dX9_sow_0_0.2.2.2.2.2.2.2.2.2.2.1
def dX9_sow_18 := dc_cX9_sow_dX9_sow_0_0.2.2.2.2.2.2.2.2.2.2.2.1
def dX9_sow_21 := dc_cX9_sow_dX9_sow_0_0.2.2.2.2.2.2.2.2.2.2.2.2.1
def dX9_sow_23 := dc_cX9_sow_dX9_sow_0_0.2.2.2.2.2.2.2.2.2.2.2.2.2.1
def dX9_sow_24 := dc_cX9_sow_dX9_sow_0_0.2.2.2.2.2.2.2.2.2.2.2.2.2.2.1
def dX9_sow_26 := dc_cX9_sow_dX9_sow_0_0.2.2.2.2.2.2.2.2.2.2.2.2.2.2.2
set_option maxRecDepth 100000 in
theorem db_cX9_sow_dX9_sow_29_1 : zw [(29, .aload_n 0, 1), (30, .getfield 28, 3), (33, .iload_n 2, 1), (34, .invokevirtual 119, 3), (37, .aload 5, 2), (39, .iload_n 3, 1), (40, .invokevirtual 81, 3), (43, .aload 5, 2), (45, .aload_n 0, 1), (46, .getfield 28, 3), (49, .iload 4, 2), (51, .invokevirtual 122, 3), (54, .aload 5, 2), (56, .aload_n 0, 1), (57, .getfield 28, 3), (60, .invokevirtual 126, 3)] (cX9_sow.data.toList.drop 29) 29 = true := by decide +kernel
def dc_cX9_sow_dX9_sow_29_1 := zw_16 db_cX9_sow_dX9_sow_29_1
def dX9_sow_29 := dc_cX9_sow_dX9_sow_29_1.1
def dX9_sow_30 := dc_cX9_sow_dX9_sow_29_1.2.1
def dX9_sow_33 := dc_cX9_sow_dX9_sow_29_1.2.2.1
def dX9_sow_34 := dc_cX9_sow_dX9_sow_29_1.2.2.2.1
def dX9_sow_37 := dc_cX9_sow_dX9_sow_29_1.2.2.2.2.1
def dX9_sow_39 := dc_cX9_sow_dX9_sow_29_1.2.2.2.2.2.1
def dX9_sow_40 := dc_cX9_sow_dX9_sow_29_1.2.2.2.2.2.2.1
def dX9_sow_43 := dc_cX9_sow_dX9_sow_29_1.2.2.2.2.2.2.2.1
def dX9_sow_45 := dc_cX9_sow_dX9_sow_29_1.2.2.2.2.2.2.2.2.1
def dX9_sow_46 := dc_cX9_sow_dX9_sow_29_1.2.2.2.2.2.2.2.2.2.1
def dX9_sow_49 := dc_cX9_sow_dX9_sow_29_1.2.2.2.2.2.2.2.2.2.2.1
def dX9_sow_51 := dc_cX9_sow_dX9_sow_29_1.2.2.2.2.2.2.2.2.2.2.2.1
def dX9_sow_54 := dc_cX9_sow_dX9_sow_29_1.2.2.2.2.2.2.2.2.2.2.2.2.1
def dX9_sow_56 := dc_cX9_sow_dX9_sow_29_1.2.2.2.2.2.2.2.2.2.2.2.2.2.1
def dX9_sow_57 := dc_cX9_sow_dX9_sow_29_1.2.2.2.2.2.2.2.2.2.2.2.2.2.2.1
def dX9_sow_60 := dc_cX9_sow_dX9_sow_29_1.2.2.2.2.2.2.2.2.2.2.2.2.2.2.2
set_option maxRecDepth 100000 in
theorem db_cX9_sow_dX9_sow_63_2 : zw [(63, .aload_n 0, 1), (64, .aload 5, 2), (66, .invokevirtual 77, 3), (69, .invokevirtual 84, 3), (72, .ireturn, 1)] (cX9_sow.data.toList.drop 63) 63 = true := by decide +kernel
def dc_cX9_sow_dX9_sow_63_2 := zw_5 db_cX9_sow_dX9_sow_63_2
def dX9_sow_63 := dc_cX9_sow_dX9_sow_63_2.1
def dX9_sow_64 := dc_cX9_sow_dX9_sow_63_2.2.1
def dX9_sow_66 := dc_cX9_sow_dX9_sow_63_2.2.2.1
def dX9_sow_69 := dc_cX9_sow_dX9_sow_63_2.2.2.2.1
def dX9_sow_72 := dc_cX9_sow_dX9_sow_63_2.2.2.2.2
set_option maxRecDepth 100000 in
theorem db_cX9_copy_dX9_copy_0_0 : zw [(0, .aload_n 0, 1), (1, .iload_n 1, 1), (2, .invokevirtual 69, 3), (5, .astore_n 3, 1), (6, .aload_n 0, 1), (7, .iload_n 2, 1), (8, .invokevirtual 69, 3), (11, .astore 4, 2), (13, .aload 4, 2), (15, .aload_n 3, 1), (16, .invokevirtual 130, 3), (19, .istore 5, 2), (21, .aload 4, 2), (23, .aload_n 3, 1), (24, .invokevirtual 134, 3), (27, .aload_n 0, 1)] (cX9_copy.data.toList.drop 0) 0 = true := by decide +kernel
def dc_cX9_copy_dX9_copy_0_0 := zw_16 db_cX9_copy_dX9_copy_0_0
def dX9_copy_0 := dc_cX9_copy_dX9_copy_0_0.1
def dX9_copy_1 := dc_cX9_copy_dX9_copy_0_0.2.1
def dX9_copy_2 := dc_cX9_copy_dX9_copy_0_0.2.2.1
def dX9_copy_5 := dc_cX9_copy_dX9_copy_0_0.2.2.2.1
def dX9_copy_6 := dc_cX9_copy_dX9_copy_0_0.2.2.2.2.1
def dX9_copy_7 := dc_cX9_copy_dX9_copy_0_0.2.2.2.2.2.1
def dX9_copy_8 := dc_cX9_copy_dX9_copy_0_0.2.2.2.2.2.2.1
def dX9_copy_11 := dc_cX9_copy_dX9_copy_0_0.2.2.2.2.2.2.2.1
def dX9_copy_13 := dc_cX9_copy_dX9_copy_0_0.2.2.2.2.2.2.2.2.1
def dX9_copy_15 := dc_cX9_copy_dX9_copy_0_0.2.2.2.2.2.2.2.2.2.1
def dX9_copy_16 := dc_cX9_copy_dX9_copy_0_0.2.2.2.2.2.2.2.2.2.2.1
def dX9_copy_19 := dc_cX9_copy_dX9_copy_0_0.2.2.2.2.2.2.2.2.2.2.2.1
def dX9_copy_21 := dc_cX9_copy_dX9_copy_0_0.2.2.2.2.2.2.2.2.2.2.2.2.1
def dX9_copy_23 := dc_cX9_copy_dX9_copy_0_0.2.2.2.2.2.2.2.2.2.2.2.2.2.1
def dX9_copy_24 := dc_cX9_copy_dX9_copy_0_0.2.2.2.2.2.2.2.2.2.2.2.2.2.2.1
def dX9_copy_27 := dc_cX9_copy_dX9_copy_0_0.2.2.2.2.2.2.2.2.2.2.2.2.2.2.2
set_option maxRecDepth 100000 in
theorem db_cX9_copy_dX9_copy_28_1 : zw [(28, .iload 5, 2), (30, .ifCond .eq 7, 3), (33, .iconst 0, 1), (34, .goto 4, 3), (37, .iconst 1, 1), (38, .invokevirtual 84, 3), (41, .ireturn, 1)] (cX9_copy.data.toList.drop 28) 28 = true := by decide +kernel
def dc_cX9_copy_dX9_copy_28_1 := zw_7 db_cX9_copy_dX9_copy_28_1
def dX9_copy_28 := dc_cX9_copy_dX9_copy_28_1.1
def dX9_copy_30 := dc_cX9_copy_dX9_copy_28_1.2.1
def dX9_copy_33 := dc_cX9_copy_dX9_copy_28_1.2.2.1
def dX9_copy_34 := dc_cX9_copy_dX9_copy_28_1.2.2.2.1
def dX9_copy_37 := dc_cX9_copy_dX9_copy_28_1.2.2.2.2.1
def dX9_copy_38 := dc_cX9_copy_dX9_copy_28_1.2.2.2.2.2.1
def dX9_copy_41 := dc_cX9_copy_dX9_copy_28_1.2.2.2.2.2.2
set_option maxRecDepth 100000 in
theorem db_cX9_swap_dX9_swap_0_0 : zw [(0, .aload_n 0, 1), (1, .iload_n 1, 1), (2, .invokevirtual 69, 3), (5, .astore_n 3, 1), (6, .aload_n 0, 1), (7, .iload_n 2, 1), (8, .invokevirtual 69, 3), (11, .astore 4, 2), (13, .aload_n 3, 1), (14, .aload 4, 2), (16, .invokevirtual 130, 3), (19, .istore 5, 2), (21, .aload_n 0, 1), (22, .getfield 18, 3), (25, .aload_n 3, 1), (26, .invokevirtual 134, 3)] (cX9_swap.data.toList.drop 0) 0 = true := by decide +kernel
def dc_cX9_swap_dX9_swap_0_0 := zw_16 db_cX9_swap_dX9_swap_0_0
def dX9_swap_0 := dc_cX9_swap_dX9_swap_0_0.1
def dX9_swap_1 := dc_cX9_swap_dX9_swap_0_0.2.1
def dX9_swap_2 := dc_cX9_swap_dX9_swap_0_0.2.2.1
def dX9_swap_5 := dc_cX9_swap_dX9_swap_0_0.2.2.2.1
def dX9_swap_6 := dc_cX9_swap_dX9_swap_0_0.2.2.2.2.1
def dX9_swap_7 := dc_cX9_swap_dX9_swap_0_0.2.2.2.2.2.1
def dX9_swap_8 := dc_cX9_swap_dX9_swap_0_0.2.2.2.2.2.2.1
def dX9_swap_11 := dc_cX9_swap_dX9_swap_0_0.2.2.2.2.2.2.2.1
def dX9_swap_13 := dc_cX9_swap_dX9_swap_0_0.2.2.2.2.2.2.2.2.1
def dX9_swap_14 := dc_cX9_swap_dX9_swap_0_0.2.2.2.2.2.2.2.2.2.1
def dX9_swap_16 := dc_cX9_swap_dX9_swap_0_0.2.2.2.2.2.2.2.2.2.2.1
def dX9_swap_19 := dc_cX9_swap_dX9_swap_0_0.2.2.2.2.2.2.2.2.2.2.2.1
def dX9_swap_21 := dc_cX9_swap_dX9_swap_0_0.2.2.2.2.2.2.2.2.2.2.2.2.1
def dX9_swap_22 := dc_cX9_swap_dX9_swap_0_0.2.2.2.2.2.2.2.2.2.2.2.2.2.1
def dX9_swap_25 := dc_cX9_swap_dX9_swap_0_0.2.2.2.2.2.2.2.2.2.2.2.2.2.2.1
def dX9_swap_26 := dc_cX9_swap_dX9_swap_0_0.2.2.2.2.2.2.2.2.2.2.2.2.2.2.2
set_option maxRecDepth 100000 in
theorem db_cX9_swap_dX9_swap_29_1 : zw [(29, .aload_n 3, 1), (30, .aload 4, 2), (32, .invokevirtual 134, 3), (35, .aload 4, 2), (37, .aload_n 0, 1), (38, .getfield 18, 3), (41, .invokevirtual 134, 3), (44, .aload_n 0, 1), (45, .iload 5, 2), (47, .ifCond .eq 7, 3), (50, .iconst 0, 1), (51, .goto 4, 3), (54, .iconst 1, 1), (55, .invokevirtual 84, 3), (58, .ireturn, 1)] (cX9_swap.data.toList.drop 29) 29 = true := by decide +kernel
def dc_cX9_swap_dX9_swap_29_1 := zw_15 db_cX9_swap_dX9_swap_29_1
def dX9_swap_29 := dc_cX9_swap_dX9_swap_29_1.1
def dX9_swap_30 := dc_cX9_swap_dX9_swap_29_1.2.1
def dX9_swap_32 := dc_cX9_swap_dX9_swap_29_1.2.2.1
def dX9_swap_35 := dc_cX9_swap_dX9_swap_29_1.2.2.2.1
def dX9_swap_37 := dc_cX9_swap_dX9_swap_29_1.2.2.2.2.1
def dX9_swap_38 := dc_cX9_swap_dX9_swap_29_1.2.2.2.2.2.1
def dX9_swap_41 := dc_cX9_swap_dX9_swap_29_1.2.2.2.2.2.2.1
def dX9_swap_44 := dc_cX9_swap_dX9_swap_29_1.2.2.2.2.2.2.2.1
def dX9_swap_45 := dc_cX9_swap_dX9_swap_29_1.2.2.2.2.2.2.2.2.1
def dX9_swap_47 := dc_cX9_swap_dX9_swap_29_1.2.2.2.2.2.2.2.2.2.1
def dX9_swap_50 := dc_cX9_swap_dX9_swap_29_1.2.2.2.2.2.2.2.2.2.2.1
def dX9_swap_51 := dc_cX9_swap_dX9_swap_29_1.2.2.2.2.2.2.2.2.2.2.2.1
def dX9_swap_54 := dc_cX9_swap_dX9_swap_29_1.2.2.2.2.2.2.2.2.2.2.2.2.1
def dX9_swap_55 := dc_cX9_swap_dX9_swap_29_1.2.2.2.2.2.2.2.2.2.2.2.2.2.1
def dX9_swap_58 := dc_cX9_swap_dX9_swap_29_1.2.2.2.2.2.2.2.2.2.2.2.2.2.2
set_option maxRecDepth 100000 in
theorem db_cX9_turn_dX9_turn_0_0 : zw [(0, .aload_n 0, 1), (1, .iload_n 1, 1), (2, .invokevirtual 69, 3), (5, .astore_n 2, 1), (6, .aload_n 0, 1), (7, .getfield 18, 3), (10, .aload_n 2, 1), (11, .invokevirtual 134, 3), (14, .aload_n 2, 1), (15, .aload_n 0, 1), (16, .getfield 18, 3), (19, .invokevirtual 138, 3), (22, .aload_n 0, 1), (23, .aload_n 2, 1), (24, .invokevirtual 77, 3), (27, .invokevirtual 84, 3)] (cX9_turn.data.toList.drop 0) 0 = true := by decide +kernel
def dc_cX9_turn_dX9_turn_0_0 := zw_16 db_cX9_turn_dX9_turn_0_0
def dX9_turn_0 := dc_cX9_turn_dX9_turn_0_0.1
def dX9_turn_1 := dc_cX9_turn_dX9_turn_0_0.2.1
def dX9_turn_2 := dc_cX9_turn_dX9_turn_0_0.2.2.1
def dX9_turn_5 := dc_cX9_turn_dX9_turn_0_0.2.2.2.1
def dX9_turn_6 := dc_cX9_turn_dX9_turn_0_0.2.2.2.2.1
def dX9_turn_7 := dc_cX9_turn_dX9_turn_0_0.2.2.2.2.2.1
def dX9_turn_10 := dc_cX9_turn_dX9_turn_0_0.2.2.2.2.2.2.1
def dX9_turn_11 := dc_cX9_turn_dX9_turn_0_0.2.2.2.2.2.2.2.1
def dX9_turn_14 := dc_cX9_turn_dX9_turn_0_0.2.2.2.2.2.2.2.2.1
def dX9_turn_15 := dc_cX9_turn_dX9_turn_0_0.2.2.2.2.2.2.2.2.2.1
def dX9_turn_16 := dc_cX9_turn_dX9_turn_0_0.2.2.2.2.2.2.2.2.2.2.1
def dX9_turn_19 := dc_cX9_turn_dX9_turn_0_0.2.2.2.2.2.2.2.2.2.2.2.1
def dX9_turn_22 := dc_cX9_turn_dX9_turn_0_0.2.2.2.2.2.2.2.2.2.2.2.2.1
def dX9_turn_23 := dc_cX9_turn_dX9_turn_0_0.2.2.2.2.2.2.2.2.2.2.2.2.2.1
def dX9_turn_24 := dc_cX9_turn_dX9_turn_0_0.2.2.2.2.2.2.2.2.2.2.2.2.2.2.1
def dX9_turn_27 := dc_cX9_turn_dX9_turn_0_0.2.2.2.2.2.2.2.2.2.2.2.2.2.2.2
set_option maxRecDepth 100000 in
theorem db_cX9_turn_dX9_turn_30_1 : zw [(30, .ireturn, 1)] (cX9_turn.data.toList.drop 30) 30 = true := by decide +kernel
def dX9_turn_30 := zw_1 db_cX9_turn_dX9_turn_30_1
set_option maxRecDepth 100000 in
theorem db_cX9_other_dX9_other_0_0 : zw [(0, .aload_n 0, 1), (1, .iload_n 1, 1), (2, .invokevirtual 69, 3), (5, .astore_n 2, 1), (6, .aload_n 2, 1), (7, .invokevirtual 141, 3), (10, .ifCond .ne 8, 3), (13, .aload_n 0, 1), (14, .invokevirtual 145, 3), (17, .ireturn, 1), (18, .aload_n 2, 1), (19, .aload_n 2, 1), (20, .invokevirtual 148, 3), (23, .aload_n 2, 1), (24, .getfield 111, 3), (27, .iconst (-1), 1)] (cX9_other.data.toList.drop 0) 0 = true := by decide +kernel
def dc_cX9_other_dX9_other_0_0 := zw_16 db_cX9_other_dX9_other_0_0
def dX9_other_0 := dc_cX9_other_dX9_other_0_0.1
def dX9_other_1 := dc_cX9_other_dX9_other_0_0.2.1
def dX9_other_2 := dc_cX9_other_dX9_other_0_0.2.2.1
def dX9_other_5 := dc_cX9_other_dX9_other_0_0.2.2.2.1
def dX9_other_6 := dc_cX9_other_dX9_other_0_0.2.2.2.2.1
def dX9_other_7 := dc_cX9_other_dX9_other_0_0.2.2.2.2.2.1
def dX9_other_10 := dc_cX9_other_dX9_other_0_0.2.2.2.2.2.2.1
def dX9_other_13 := dc_cX9_other_dX9_other_0_0.2.2.2.2.2.2.2.1
def dX9_other_14 := dc_cX9_other_dX9_other_0_0.2.2.2.2.2.2.2.2.1
def dX9_other_17 := dc_cX9_other_dX9_other_0_0.2.2.2.2.2.2.2.2.2.1
def dX9_other_18 := dc_cX9_other_dX9_other_0_0.2.2.2.2.2.2.2.2.2.2.1
def dX9_other_19 := dc_cX9_other_dX9_other_0_0.2.2.2.2.2.2.2.2.2.2.2.1
def dX9_other_20 := dc_cX9_other_dX9_other_0_0.2.2.2.2.2.2.2.2.2.2.2.2.1
def dX9_other_23 := dc_cX9_other_dX9_other_0_0.2.2.2.2.2.2.2.2.2.2.2.2.2.1
def dX9_other_24 := dc_cX9_other_dX9_other_0_0.2.2.2.2.2.2.2.2.2.2.2.2.2.2.1
def dX9_other_27 := dc_cX9_other_dX9_other_0_0.2.2.2.2.2.2.2.2.2.2.2.2.2.2.2
set_option maxRecDepth 100000 in
theorem db_cX9_other_dX9_other_28_1 : zw [(28, .ixor, 1), (29, .iand, 1), (30, .putfield 111, 3), (33, .aload_n 0, 1), (34, .aload_n 2, 1), (35, .getfield 111, 3), (38, .invokestatic 106, 3), (41, .invokevirtual 84, 3), (44, .ireturn, 1)] (cX9_other.data.toList.drop 28) 28 = true := by decide +kernel
def dc_cX9_other_dX9_other_28_1 := zw_9 db_cX9_other_dX9_other_28_1
def dX9_other_28 := dc_cX9_other_dX9_other_28_1.1
def dX9_other_29 := dc_cX9_other_dX9_other_28_1.2.1
def dX9_other_30 := dc_cX9_other_dX9_other_28_1.2.2.1
def dX9_other_33 := dc_cX9_other_dX9_other_28_1.2.2.2.1
def dX9_other_34 := dc_cX9_other_dX9_other_28_1.2.2.2.2.1
def dX9_other_35 := dc_cX9_other_dX9_other_28_1.2.2.2.2.2.1
def dX9_other_38 := dc_cX9_other_dX9_other_28_1.2.2.2.2.2.2.1
def dX9_other_41 := dc_cX9_other_dX9_other_28_1.2.2.2.2.2.2.2.1
def dX9_other_44 := dc_cX9_other_dX9_other_28_1.2.2.2.2.2.2.2.2
set_option maxRecDepth 100000 in
theorem db_cX9_grow_dX9_grow_0_0 : zw [(0, .aload_n 0, 1), (1, .iload_n 1, 1), (2, .invokevirtual 69, 3), (5, .astore_n 2, 1), (6, .aload_n 2, 1), (7, .getfield 151, 3), (10, .bipush 7, 2), (12, .if_icmp .lt 8, 3), (15, .aload_n 0, 1), (16, .invokevirtual 145, 3), (19, .ireturn, 1), (20, .aload_n 2, 1), (21, .invokevirtual 154, 3), (24, .aload_n 0, 1), (25, .aload_n 2, 1), (26, .getfield 151, 3)] (cX9_grow.data.toList.drop 0) 0 = true := by decide +kernel
def dc_cX9_grow_dX9_grow_0_0 := zw_16 db_cX9_grow_dX9_grow_0_0
def dX9_grow_0 := dc_cX9_grow_dX9_grow_0_0.1
def dX9_grow_1 := dc_cX9_grow_dX9_grow_0_0.2.1
def dX9_grow_2 := dc_cX9_grow_dX9_grow_0_0.2.2.1
def dX9_grow_5 := dc_cX9_grow_dX9_grow_0_0.2.2.2.1
def dX9_grow_6 := dc_cX9_grow_dX9_grow_0_0.2.2.2.2.1
def dX9_grow_7 := dc_cX9_grow_dX9_grow_0_0.2.2.2.2.2.1
def dX9_grow_10 := dc_cX9_grow_dX9_grow_0_0.2.2.2.2.2.2.1
def dX9_grow_12 := dc_cX9_grow_dX9_grow_0_0.2.2.2.2.2.2.2.1
def dX9_grow_15 := dc_cX9_grow_dX9_grow_0_0.2.2.2.2.2.2.2.2.1
def dX9_grow_16 := dc_cX9_grow_dX9_grow_0_0.2.2.2.2.2.2.2.2.2.1
def dX9_grow_19 := dc_cX9_grow_dX9_grow_0_0.2.2.2.2.2.2.2.2.2.2.1
def dX9_grow_20 := dc_cX9_grow_dX9_grow_0_0.2.2.2.2.2.2.2.2.2.2.2.1
def dX9_grow_21 := dc_cX9_grow_dX9_grow_0_0.2.2.2.2.2.2.2.2.2.2.2.2.1
def dX9_grow_24 := dc_cX9_grow_dX9_grow_0_0.2.2.2.2.2.2.2.2.2.2.2.2.2.1
def dX9_grow_25 := dc_cX9_grow_dX9_grow_0_0.2.2.2.2.2.2.2.2.2.2.2.2.2.2.1
def dX9_grow_26 := dc_cX9_grow_dX9_grow_0_0.2.2.2.2.2.2.2.2.2.2.2.2.2.2.2
set_option maxRecDepth 100000 in
theorem db_cX9_grow_dX9_grow_29_1 : zw [(29, .iconst 1, 1), (30, .isub, 1), (31, .invokevirtual 84, 3), (34, .ireturn, 1)] (cX9_grow.data.toList.drop 29) 29 = true := by decide +kernel
def dc_cX9_grow_dX9_grow_29_1 := zw_4 db_cX9_grow_dX9_grow_29_1
def dX9_grow_29 := dc_cX9_grow_dX9_grow_29_1.1
def dX9_grow_30 := dc_cX9_grow_dX9_grow_29_1.2.1
def dX9_grow_31 := dc_cX9_grow_dX9_grow_29_1.2.2.1
def dX9_grow_34 := dc_cX9_grow_dX9_grow_29_1.2.2.2
set_option maxRecDepth 100000 in
theorem db_cX9_drop_dX9_drop_0_0 : zw [(0, .aload_n 0, 1), (1, .iload_n 1, 1), (2, .invokevirtual 69, 3), (5, .astore_n 3, 1), (6, .aload_n 3, 1), (7, .iload_n 2, 1), (8, .invokestatic 88, 3), (11, .aload_n 3, 1), (12, .getfield 151, 3), (15, .iconst 1, 1), (16, .if_icmp .ne 8, 3), (19, .aload_n 0, 1), (20, .invokevirtual 145, 3), (23, .ireturn, 1), (24, .aload_n 3, 1), (25, .invokevirtual 77, 3)] (cX9_drop.data.toList.drop 0) 0 = true := by decide +kernel
def dc_cX9_drop_dX9_drop_0_0 := zw_16 db_cX9_drop_dX9_drop_0_0
def dX9_drop_0 := dc_cX9_drop_dX9_drop_0_0.1
def dX9_drop_1 := dc_cX9_drop_dX9_drop_0_0.2.1
def dX9_drop_2 := dc_cX9_drop_dX9_drop_0_0.2.2.1
def dX9_drop_5 := dc_cX9_drop_dX9_drop_0_0.2.2.2.1
def dX9_drop_6 := dc_cX9_drop_dX9_drop_0_0.2.2.2.2.1
def dX9_drop_7 := dc_cX9_drop_dX9_drop_0_0.2.2.2.2.2.1
def dX9_drop_8 := dc_cX9_drop_dX9_drop_0_0.2.2.2.2.2.2.1
def dX9_drop_11 := dc_cX9_drop_dX9_drop_0_0.2.2.2.2.2.2.2.1
def dX9_drop_12 := dc_cX9_drop_dX9_drop_0_0.2.2.2.2.2.2.2.2.1
def dX9_drop_15 := dc_cX9_drop_dX9_drop_0_0.2.2.2.2.2.2.2.2.2.1
def dX9_drop_16 := dc_cX9_drop_dX9_drop_0_0.2.2.2.2.2.2.2.2.2.2.1
def dX9_drop_19 := dc_cX9_drop_dX9_drop_0_0.2.2.2.2.2.2.2.2.2.2.2.1
def dX9_drop_20 := dc_cX9_drop_dX9_drop_0_0.2.2.2.2.2.2.2.2.2.2.2.2.1
def dX9_drop_23 := dc_cX9_drop_dX9_drop_0_0.2.2.2.2.2.2.2.2.2.2.2.2.2.1
def dX9_drop_24 := dc_cX9_drop_dX9_drop_0_0.2.2.2.2.2.2.2.2.2.2.2.2.2.2.1
def dX9_drop_25 := dc_cX9_drop_dX9_drop_0_0.2.2.2.2.2.2.2.2.2.2.2.2.2.2.2
set_option maxRecDepth 100000 in
theorem db_cX9_drop_dX9_drop_28_1 : zw [(28, .istore 4, 2), (30, .aload_n 3, 1), (31, .iload_n 2, 1), (32, .invokevirtual 157, 3), (35, .aload_n 0, 1), (36, .iload 4, 2), (38, .aload_n 3, 1), (39, .invokevirtual 77, 3), (42, .isub, 1), (43, .invokevirtual 84, 3), (46, .ireturn, 1)] (cX9_drop.data.toList.drop 28) 28 = true := by decide +kernel
def dc_cX9_drop_dX9_drop_28_1 := zw_11 db_cX9_drop_dX9_drop_28_1
def dX9_drop_28 := dc_cX9_drop_dX9_drop_28_1.1
def dX9_drop_30 := dc_cX9_drop_dX9_drop_28_1.2.1
def dX9_drop_31 := dc_cX9_drop_dX9_drop_28_1.2.2.1
def dX9_drop_32 := dc_cX9_drop_dX9_drop_28_1.2.2.2.1
def dX9_drop_35 := dc_cX9_drop_dX9_drop_28_1.2.2.2.2.1
def dX9_drop_36 := dc_cX9_drop_dX9_drop_28_1.2.2.2.2.2.1
def dX9_drop_38 := dc_cX9_drop_dX9_drop_28_1.2.2.2.2.2.2.1
def dX9_drop_39 := dc_cX9_drop_dX9_drop_28_1.2.2.2.2.2.2.2.1
def dX9_drop_42 := dc_cX9_drop_dX9_drop_28_1.2.2.2.2.2.2.2.2.1
def dX9_drop_43 := dc_cX9_drop_dX9_drop_28_1.2.2.2.2.2.2.2.2.2.1
def dX9_drop_46 := dc_cX9_drop_dX9_drop_28_1.2.2.2.2.2.2.2.2.2.2
set_option maxRecDepth 100000 in
theorem db_cX9_make_dX9_make_0_0 : zw [(0, .aload_n 0, 1), (1, .iload_n 1, 1), (2, .invokevirtual 69, 3), (5, .astore 4, 2), (7, .aload_n 0, 1), (8, .iload_n 3, 1), (9, .invokevirtual 69, 3), (12, .astore 5, 2), (14, .aload_n 0, 1), (15, .getfield 35, 3), (18, .iload_n 2, 1), (19, .ifCond .eq 7, 3), (22, .iconst 0, 1), (23, .goto 4, 3), (26, .iconst 3, 1), (27, .aload 4, 2)] (cX9_make.data.toList.drop 0) 0 = true := by decide +kernel
def dc_cX9_make_dX9_make_0_0 := zw_16 db_cX9_make_dX9_make_0_0
def dX9_make_0 := dc_cX9_make_dX9_make_0_0.1
def dX9_make_1 := dc_cX9_make_dX9_make_0_0.2.1
def dX9_make_2 := dc_cX9_make_dX9_make_0_0.2.2.1
def dX9_make_5 := dc_cX9_make_dX9_make_0_0.2.2.2.1
def dX9_make_7 := dc_cX9_make_dX9_make_0_0.2.2.2.2.1
def dX9_make_8 := dc_cX9_make_dX9_make_0_0.2.2.2.2.2.1
def dX9_make_9 := dc_cX9_make_dX9_make_0_0.2.2.2.2.2.2.1
def dX9_make_12 := dc_cX9_make_dX9_make_0_0.2.2.2.2.2.2.2.1
def dX9_make_14 := dc_cX9_make_dX9_make_0_0.2.2.2.2.2.2.2.2.1
def dX9_make_15 := dc_cX9_make_dX9_make_0_0.2.2.2.2.2.2.2.2.2.1
def dX9_make_18 := dc_cX9_make_dX9_make_0_0.2.2.2.2.2.2.2.2.2.2.1
def dX9_make_19 := dc_cX9_make_dX9_make_0_0.2.2.2.2.2.2.2.2.2.2.2.1
def dX9_make_22 := dc_cX9_make_dX9_make_0_0.2.2.2.2.2.2.2.2.2.2.2.2.1
def dX9_make_23 := dc_cX9_make_dX9_make_0_0.2.2.2.2.2.2.2.2.2.2.2.2.2.1
def dX9_make_26 := dc_cX9_make_dX9_make_0_0.2.2.2.2.2.2.2.2.2.2.2.2.2.2.1
def dX9_make_27 := dc_cX9_make_dX9_make_0_0.2.2.2.2.2.2.2.2.2.2.2.2.2.2.2
set_option maxRecDepth 100000 in
theorem db_cX9_make_dX9_make_29_1 : zw [(29, .aload_n 0, 1), (30, .getfield 66, 3), (33, .invokevirtual 160, 3), (36, .ifCond .ne 8, 3), (39, .aload_n 0, 1), (40, .invokevirtual 145, 3), (43, .ireturn, 1), (44, .aload_n 0, 1), (45, .aload 5, 2), (47, .invokevirtual 164, 3), (50, .ireturn, 1)] (cX9_make.data.toList.drop 29) 29 = true := by decide +kernel
def dc_cX9_make_dX9_make_29_1 := zw_11 db_cX9_make_dX9_make_29_1
def dX9_make_29 := dc_cX9_make_dX9_make_29_1.1
def dX9_make_30 := dc_cX9_make_dX9_make_29_1.2.1
def dX9_make_33 := dc_cX9_make_dX9_make_29_1.2.2.1
def dX9_make_36 := dc_cX9_make_dX9_make_29_1.2.2.2.1
def dX9_make_39 := dc_cX9_make_dX9_make_29_1.2.2.2.2.1
def dX9_make_40 := dc_cX9_make_dX9_make_29_1.2.2.2.2.2.1
def dX9_make_43 := dc_cX9_make_dX9_make_29_1.2.2.2.2.2.2.1
def dX9_make_44 := dc_cX9_make_dX9_make_29_1.2.2.2.2.2.2.2.1
def dX9_make_45 := dc_cX9_make_dX9_make_29_1.2.2.2.2.2.2.2.2.1
def dX9_make_47 := dc_cX9_make_dX9_make_29_1.2.2.2.2.2.2.2.2.2.1
def dX9_make_50 := dc_cX9_make_dX9_make_29_1.2.2.2.2.2.2.2.2.2.2
set_option maxRecDepth 100000 in
theorem db_cX9_combine_dX9_combine_0_0 : zw [(0, .aload_n 0, 1), (1, .iload_n 1, 1), (2, .invokevirtual 69, 3), (5, .astore 5, 2), (7, .aload_n 0, 1), (8, .iload_n 2, 1), (9, .invokevirtual 69, 3), (12, .astore 6, 2), (14, .aload_n 0, 1), (15, .iload 4, 2), (17, .invokevirtual 69, 3), (20, .astore 7, 2), (22, .iload_n 3, 1), (23, .iconst 0, 1), (24, .iconst 3, 1), (25, .invokestatic 73, 3)] (cX9_combine.data.toList.drop 0) 0 = true := by decide +kernel
def dc_cX9_combine_dX9_combine_0_0 := zw_16 db_cX9_combine_dX9_combine_0_0
def dX9_combine_0 := dc_cX9_combine_dX9_combine_0_0.1
def dX9_combine_1 := dc_cX9_combine_dX9_combine_0_0.2.1
def dX9_combine_2 := dc_cX9_combine_dX9_combine_0_0.2.2.1
def dX9_combine_5 := dc_cX9_combine_dX9_combine_0_0.2.2.2.1
def dX9_combine_7 := dc_cX9_combine_dX9_combine_0_0.2.2.2.2.1
def dX9_combine_8 := dc_cX9_combine_dX9_combine_0_0.2.2.2.2.2.1
def dX9_combine_9 := dc_cX9_combine_dX9_combine_0_0.2.2.2.2.2.2.1
def dX9_combine_12 := dc_cX9_combine_dX9_combine_0_0.2.2.2.2.2.2.2.1
def dX9_combine_14 := dc_cX9_combine_dX9_combine_0_0.2.2.2.2.2.2.2.2.1
def dX9_combine_15 := dc_cX9_combine_dX9_combine_0_0.2.2.2.2.2.2.2.2.2.1
def dX9_combine_17 := dc_cX9_combine_dX9_combine_0_0.2.2.2.2.2.2.2.2.2.2.1
def dX9_combine_20 := dc_cX9_combine_dX9_combine_0_0.2.2.2.2.2.2.2.2.2.2.2.1
def dX9_combine_22 := dc_cX9_combine_dX9_combine_0_0.2.2.2.2.2.2.2.2.2.2.2.2.1
def dX9_combine_23 := dc_cX9_combine_dX9_combine_0_0.2.2.2.2.2.2.2.2.2.2.2.2.2.1
def dX9_combine_24 := dc_cX9_combine_dX9_combine_0_0.2.2.2.2.2.2.2.2.2.2.2.2.2.2.1
def dX9_combine_25 := dc_cX9_combine_dX9_combine_0_0.2.2.2.2.2.2.2.2.2.2.2.2.2.2.2
set_option maxRecDepth 100000 in
theorem db_cX9_combine_dX9_combine_28_1 : zw [(28, .aload_n 0, 1), (29, .aload 5, 2), (31, .aload 6, 2), (33, .iload_n 3, 1), (34, .invokevirtual 168, 3), (37, .ifCond .ne 8, 3), (40, .aload_n 0, 1), (41, .invokevirtual 145, 3), (44, .ireturn, 1), (45, .aload_n 0, 1), (46, .aload 7, 2), (48, .invokevirtual 164, 3), (51, .ireturn, 1)] (cX9_combine.data.toList.drop 28) 28 = true := by decide +kernel
def dc_cX9_combine_dX9_combine_28_1 := zw_13 db_cX9_combine_dX9_combine_28_1
def dX9_combine_28 := dc_cX9_combine_dX9_combine_28_1.1
def dX9_combine_29 := dc_cX9_combine_dX9_combine_28_1.2.1
def dX9_combine_31 := dc_cX9_combine_dX9_combine_28_1.2.2.1
def dX9_combine_33 := dc_cX9_combine_dX9_combine_28_1.2.2.2.1
def dX9_combine_34 := dc_cX9_combine_dX9_combine_28_1.2.2.2.2.1
def dX9_combine_37 := dc_cX9_combine_dX9_combine_28_1.2.2.2.2.2.1
def dX9_combine_40 := dc_cX9_combine_dX9_combine_28_1.2.2.2.2.2.2.1
def dX9_combine_41 := dc_cX9_combine_dX9_combine_28_1.2.2.2.2.2.2.2.1
def dX9_combine_44 := dc_cX9_combine_dX9_combine_28_1.2.2.2.2.2.2.2.2.1
def dX9_combine_45 := dc_cX9_combine_dX9_combine_28_1.2.2.2.2.2.2.2.2.2.1
def dX9_combine_46 := dc_cX9_combine_dX9_combine_28_1.2.2.2.2.2.2.2.2.2.2.1
def dX9_combine_48 := dc_cX9_combine_dX9_combine_28_1.2.2.2.2.2.2.2.2.2.2.2.1
def dX9_combine_51 := dc_cX9_combine_dX9_combine_28_1.2.2.2.2.2.2.2.2.2.2.2.2
set_option maxRecDepth 100000 in
theorem db_cX9_tell_dX9_tell_0_0 : zw [(0, .aload_n 0, 1), (1, .iload_n 1, 1), (2, .invokevirtual 69, 3), (5, .astore_n 3, 1), (6, .iload_n 2, 1), (7, .iconst 0, 1), (8, .iconst 4, 1), (9, .invokestatic 73, 3), (12, .iload_n 2, 1)] (cX9_tell.data.toList.drop 0) 0 = true := by decide +kernel
def dc_cX9_tell_dX9_tell_0_0 := zw_9 db_cX9_tell_dX9_tell_0_0
def dX9_tell_0 := dc_cX9_tell_dX9_tell_0_0.1
def dX9_tell_1 := dc_cX9_tell_dX9_tell_0_0.2.1
def dX9_tell_2 := dc_cX9_tell_dX9_tell_0_0.2.2.1
def dX9_tell_5 := dc_cX9_tell_dX9_tell_0_0.2.2.2.1
def dX9_tell_6 := dc_cX9_tell_dX9_tell_0_0.2.2.2.2.1
def dX9_tell_7 := dc_cX9_tell_dX9_tell_0_0.2.2.2.2.2.1
def dX9_tell_8 := dc_cX9_tell_dX9_tell_0_0.2.2.2.2.2.2.1
def dX9_tell_9 := dc_cX9_tell_dX9_tell_0_0.2.2.2.2.2.2.2.1
def dX9_tell_12 := dc_cX9_tell_dX9_tell_0_0.2.2.2.2.2.2.2.2
theorem dX9_tell_13 : decode cX9_tell 13 = .ok (.tableswitch 51 0 3 #[31, 36, 41, 46], 31) := by decide +kernel
set_option maxRecDepth 100000 in
theorem db_cX9_tell_dX9_tell_44_1 : zw [(44, .aload_n 3, 1), (45, .getfield 151, 3), (48, .ireturn, 1), (49, .aload_n 3, 1), (50, .invokevirtual 77, 3), (53, .ireturn, 1), (54, .aload_n 3, 1), (55, .getfield 115, 3), (58, .ireturn, 1), (59, .aload_n 3, 1), (60, .getfield 111, 3), (63, .ireturn, 1), (64, .aload_n 3, 1), (65, .invokevirtual 141, 3), (68, .ifCond .eq 7, 3), (71, .iconst 1, 1)] (cX9_tell.data.toList.drop 44) 44 = true := by decide +kernel
def dc_cX9_tell_dX9_tell_44_1 := zw_16 db_cX9_tell_dX9_tell_44_1
def dX9_tell_44 := dc_cX9_tell_dX9_tell_44_1.1
def dX9_tell_45 := dc_cX9_tell_dX9_tell_44_1.2.1
def dX9_tell_48 := dc_cX9_tell_dX9_tell_44_1.2.2.1
def dX9_tell_49 := dc_cX9_tell_dX9_tell_44_1.2.2.2.1
def dX9_tell_50 := dc_cX9_tell_dX9_tell_44_1.2.2.2.2.1
def dX9_tell_53 := dc_cX9_tell_dX9_tell_44_1.2.2.2.2.2.1
def dX9_tell_54 := dc_cX9_tell_dX9_tell_44_1.2.2.2.2.2.2.1
def dX9_tell_55 := dc_cX9_tell_dX9_tell_44_1.2.2.2.2.2.2.2.1
def dX9_tell_58 := dc_cX9_tell_dX9_tell_44_1.2.2.2.2.2.2.2.2.1
def dX9_tell_59 := dc_cX9_tell_dX9_tell_44_1.2.2.2.2.2.2.2.2.2.1
def dX9_tell_60 := dc_cX9_tell_dX9_tell_44_1.2.2.2.2.2.2.2.2.2.2.1
def dX9_tell_63 := dc_cX9_tell_dX9_tell_44_1.2.2.2.2.2.2.2.2.2.2.2.1
def dX9_tell_64 := dc_cX9_tell_dX9_tell_44_1.2.2.2.2.2.2.2.2.2.2.2.2.1
def dX9_tell_65 := dc_cX9_tell_dX9_tell_44_1.2.2.2.2.2.2.2.2.2.2.2.2.2.1
def dX9_tell_68 := dc_cX9_tell_dX9_tell_44_1.2.2.2.2.2.2.2.2.2.2.2.2.2.2.1
def dX9_tell_71 := dc_cX9_tell_dX9_tell_44_1.2.2.2.2.2.2.2.2.2.2.2.2.2.2.2
set_option maxRecDepth 100000 in
theorem db_cX9_tell_dX9_tell_72_2 : zw [(72, .goto 4, 3), (75, .iconst 0, 1), (76, .ireturn, 1)] (cX9_tell.data.toList.drop 72) 72 = true := by decide +kernel
def dc_cX9_tell_dX9_tell_72_2 := zw_3 db_cX9_tell_dX9_tell_72_2
def dX9_tell_72 := dc_cX9_tell_dX9_tell_72_2.1
def dX9_tell_75 := dc_cX9_tell_dX9_tell_72_2.2.1
def dX9_tell_76 := dc_cX9_tell_dX9_tell_72_2.2.2
set_option maxRecDepth 100000 in
theorem db_cX9_arrows_dX9_arrows_0_0 : zw [(0, .aload_n 0, 1), (1, .iload_n 1, 1), (2, .invokevirtual 69, 3), (5, .astore 4, 2), (7, .aload 4, 2), (9, .iload_n 2, 1), (10, .invokestatic 88, 3), (13, .iload_n 3, 1), (14, .invokestatic 92, 3), (17, .aload 4, 2), (19, .iload_n 2, 1), (20, .iload_n 3, 1), (21, .invokevirtual 95, 3), (24, .ireturn, 1)] (cX9_arrows.data.toList.drop 0) 0 = true := by decide +kernel
def dc_cX9_arrows_dX9_arrows_0_0 := zw_14 db_cX9_arrows_dX9_arrows_0_0
def dX9_arrows_0 := dc_cX9_arrows_dX9_arrows_0_0.1
def dX9_arrows_1 := dc_cX9_arrows_dX9_arrows_0_0.2.1
def dX9_arrows_2 := dc_cX9_arrows_dX9_arrows_0_0.2.2.1
def dX9_arrows_5 := dc_cX9_arrows_dX9_arrows_0_0.2.2.2.1
def dX9_arrows_7 := dc_cX9_arrows_dX9_arrows_0_0.2.2.2.2.1
def dX9_arrows_9 := dc_cX9_arrows_dX9_arrows_0_0.2.2.2.2.2.1
def dX9_arrows_10 := dc_cX9_arrows_dX9_arrows_0_0.2.2.2.2.2.2.1
def dX9_arrows_13 := dc_cX9_arrows_dX9_arrows_0_0.2.2.2.2.2.2.2.1
def dX9_arrows_14 := dc_cX9_arrows_dX9_arrows_0_0.2.2.2.2.2.2.2.2.1
def dX9_arrows_17 := dc_cX9_arrows_dX9_arrows_0_0.2.2.2.2.2.2.2.2.2.1
def dX9_arrows_19 := dc_cX9_arrows_dX9_arrows_0_0.2.2.2.2.2.2.2.2.2.2.1
def dX9_arrows_20 := dc_cX9_arrows_dX9_arrows_0_0.2.2.2.2.2.2.2.2.2.2.2.1
def dX9_arrows_21 := dc_cX9_arrows_dX9_arrows_0_0.2.2.2.2.2.2.2.2.2.2.2.2.1
def dX9_arrows_24 := dc_cX9_arrows_dX9_arrows_0_0.2.2.2.2.2.2.2.2.2.2.2.2.2
set_option maxRecDepth 100000 in
theorem db_cX9_checkWord_dX9_checkWord_0_0 : zw [(0, .iload_n 0, 1), (1, .iconst 0, 1), (2, .bipush 12, 2), (4, .invokestatic 73, 3), (7, .iload_n 1, 1), (8, .iconst 0, 1), (9, .iload_n 0, 1), (10, .invokestatic 279, 3), (13, .iconst 1, 1), (14, .isub, 1), (15, .invokestatic 73, 3), (18, .return_, 1)] (cX9_checkWord.data.toList.drop 0) 0 = true := by decide +kernel
def dc_cX9_checkWord_dX9_checkWord_0_0 := zw_12 db_cX9_checkWord_dX9_checkWord_0_0
def dX9_checkWord_0 := dc_cX9_checkWord_dX9_checkWord_0_0.1
def dX9_checkWord_1 := dc_cX9_checkWord_dX9_checkWord_0_0.2.1
def dX9_checkWord_2 := dc_cX9_checkWord_dX9_checkWord_0_0.2.2.1
def dX9_checkWord_4 := dc_cX9_checkWord_dX9_checkWord_0_0.2.2.2.1
def dX9_checkWord_7 := dc_cX9_checkWord_dX9_checkWord_0_0.2.2.2.2.1
def dX9_checkWord_8 := dc_cX9_checkWord_dX9_checkWord_0_0.2.2.2.2.2.1
def dX9_checkWord_9 := dc_cX9_checkWord_dX9_checkWord_0_0.2.2.2.2.2.2.1
def dX9_checkWord_10 := dc_cX9_checkWord_dX9_checkWord_0_0.2.2.2.2.2.2.2.1
def dX9_checkWord_13 := dc_cX9_checkWord_dX9_checkWord_0_0.2.2.2.2.2.2.2.2.1
def dX9_checkWord_14 := dc_cX9_checkWord_dX9_checkWord_0_0.2.2.2.2.2.2.2.2.2.1
def dX9_checkWord_15 := dc_cX9_checkWord_dX9_checkWord_0_0.2.2.2.2.2.2.2.2.2.2.1
def dX9_checkWord_18 := dc_cX9_checkWord_dX9_checkWord_0_0.2.2.2.2.2.2.2.2.2.2.2
set_option maxRecDepth 100000 in
theorem db_cX9_takes_dX9_takes_0_0 : zw [(0, .aload_n 0, 1), (1, .iload_n 1, 1), (2, .invokevirtual 69, 3), (5, .astore 4, 2), (7, .iload_n 2, 1), (8, .iload_n 3, 1), (9, .invokestatic 172, 3), (12, .aload 4, 2), (14, .iload_n 2, 1), (15, .iload_n 3, 1), (16, .invokevirtual 176, 3), (19, .ireturn, 1)] (cX9_takes.data.toList.drop 0) 0 = true := by decide +kernel
def dc_cX9_takes_dX9_takes_0_0 := zw_12 db_cX9_takes_dX9_takes_0_0
def dX9_takes_0 := dc_cX9_takes_dX9_takes_0_0.1
def dX9_takes_1 := dc_cX9_takes_dX9_takes_0_0.2.1
def dX9_takes_2 := dc_cX9_takes_dX9_takes_0_0.2.2.1
def dX9_takes_5 := dc_cX9_takes_dX9_takes_0_0.2.2.2.1
def dX9_takes_7 := dc_cX9_takes_dX9_takes_0_0.2.2.2.2.1
def dX9_takes_8 := dc_cX9_takes_dX9_takes_0_0.2.2.2.2.2.1
def dX9_takes_9 := dc_cX9_takes_dX9_takes_0_0.2.2.2.2.2.2.1
def dX9_takes_12 := dc_cX9_takes_dX9_takes_0_0.2.2.2.2.2.2.2.1
def dX9_takes_14 := dc_cX9_takes_dX9_takes_0_0.2.2.2.2.2.2.2.2.1
def dX9_takes_15 := dc_cX9_takes_dX9_takes_0_0.2.2.2.2.2.2.2.2.2.1
def dX9_takes_16 := dc_cX9_takes_dX9_takes_0_0.2.2.2.2.2.2.2.2.2.2.1
def dX9_takes_19 := dc_cX9_takes_dX9_takes_0_0.2.2.2.2.2.2.2.2.2.2.2
set_option maxRecDepth 100000 in
theorem db_cX9_makeOrThrow_dX9_makeOrThrow_0_0 : zw [(0, .aload_n 0, 1), (1, .getfield 35, 3), (4, .iload_n 1, 1), (5, .aload_n 2, 1), (6, .aload_n 3, 1), (7, .invokevirtual 160, 3), (10, .ifCond .ne 13, 3), (13, .new 241, 3), (16, .dup, 1), (17, .ldc 243, 2), (19, .invokespecial 245, 3), (22, .athrow, 1), (23, .return_, 1)] (cX9_makeOrThrow.data.toList.drop 0) 0 = true := by decide +kernel
def dc_cX9_makeOrThrow_dX9_makeOrThrow_0_0 := zw_13 db_cX9_makeOrThrow_dX9_makeOrThrow_0_0
def dX9_makeOrThrow_0 := dc_cX9_makeOrThrow_dX9_makeOrThrow_0_0.1
def dX9_makeOrThrow_1 := dc_cX9_makeOrThrow_dX9_makeOrThrow_0_0.2.1
def dX9_makeOrThrow_4 := dc_cX9_makeOrThrow_dX9_makeOrThrow_0_0.2.2.1
def dX9_makeOrThrow_5 := dc_cX9_makeOrThrow_dX9_makeOrThrow_0_0.2.2.2.1
def dX9_makeOrThrow_6 := dc_cX9_makeOrThrow_dX9_makeOrThrow_0_0.2.2.2.2.1
def dX9_makeOrThrow_7 := dc_cX9_makeOrThrow_dX9_makeOrThrow_0_0.2.2.2.2.2.1
def dX9_makeOrThrow_10 := dc_cX9_makeOrThrow_dX9_makeOrThrow_0_0.2.2.2.2.2.2.1
def dX9_makeOrThrow_13 := dc_cX9_makeOrThrow_dX9_makeOrThrow_0_0.2.2.2.2.2.2.2.1
def dX9_makeOrThrow_16 := dc_cX9_makeOrThrow_dX9_makeOrThrow_0_0.2.2.2.2.2.2.2.2.1
def dX9_makeOrThrow_17 := dc_cX9_makeOrThrow_dX9_makeOrThrow_0_0.2.2.2.2.2.2.2.2.2.1
def dX9_makeOrThrow_19 := dc_cX9_makeOrThrow_dX9_makeOrThrow_0_0.2.2.2.2.2.2.2.2.2.2.1
def dX9_makeOrThrow_22 := dc_cX9_makeOrThrow_dX9_makeOrThrow_0_0.2.2.2.2.2.2.2.2.2.2.2.1
def dX9_makeOrThrow_23 := dc_cX9_makeOrThrow_dX9_makeOrThrow_0_0.2.2.2.2.2.2.2.2.2.2.2.2
set_option maxRecDepth 100000 in
theorem db_cX9_after_dX9_after_0_0 : zw [(0, .aload_n 0, 1), (1, .iload_n 1, 1), (2, .invokevirtual 69, 3), (5, .astore 5, 2), (7, .iload_n 2, 1), (8, .iload_n 3, 1), (9, .invokestatic 172, 3), (12, .iload 4, 2), (14, .iconst 0, 1), (15, .iconst 2, 1), (16, .invokestatic 73, 3), (19, .iload 4, 2), (21, .ifCond .ne 11, 3), (24, .aload 5, 2), (26, .iload_n 2, 1), (27, .iload_n 3, 1)] (cX9_after.data.toList.drop 0) 0 = true := by decide +kernel
def dc_cX9_after_dX9_after_0_0 := zw_16 db_cX9_after_dX9_after_0_0
def dX9_after_0 := dc_cX9_after_dX9_after_0_0.1
def dX9_after_1 := dc_cX9_after_dX9_after_0_0.2.1
def dX9_after_2 := dc_cX9_after_dX9_after_0_0.2.2.1
def dX9_after_5 := dc_cX9_after_dX9_after_0_0.2.2.2.1
def dX9_after_7 := dc_cX9_after_dX9_after_0_0.2.2.2.2.1
def dX9_after_8 := dc_cX9_after_dX9_after_0_0.2.2.2.2.2.1
def dX9_after_9 := dc_cX9_after_dX9_after_0_0.2.2.2.2.2.2.1
def dX9_after_12 := dc_cX9_after_dX9_after_0_0.2.2.2.2.2.2.2.1
def dX9_after_14 := dc_cX9_after_dX9_after_0_0.2.2.2.2.2.2.2.2.1
def dX9_after_15 := dc_cX9_after_dX9_after_0_0.2.2.2.2.2.2.2.2.2.1
def dX9_after_16 := dc_cX9_after_dX9_after_0_0.2.2.2.2.2.2.2.2.2.2.1
def dX9_after_19 := dc_cX9_after_dX9_after_0_0.2.2.2.2.2.2.2.2.2.2.2.1
def dX9_after_21 := dc_cX9_after_dX9_after_0_0.2.2.2.2.2.2.2.2.2.2.2.2.1
def dX9_after_24 := dc_cX9_after_dX9_after_0_0.2.2.2.2.2.2.2.2.2.2.2.2.2.1
def dX9_after_26 := dc_cX9_after_dX9_after_0_0.2.2.2.2.2.2.2.2.2.2.2.2.2.2.1
def dX9_after_27 := dc_cX9_after_dX9_after_0_0.2.2.2.2.2.2.2.2.2.2.2.2.2.2.2
set_option maxRecDepth 100000 in
theorem db_cX9_after_dX9_after_28_1 : zw [(28, .invokevirtual 180, 3), (31, .ireturn, 1), (32, .aload_n 0, 1), (33, .iload 4, 2), (35, .iconst 1, 1), (36, .if_icmp .ne 7, 3), (39, .iconst 3, 1), (40, .goto 4, 3), (43, .iconst 0, 1), (44, .aload 5, 2), (46, .aload_n 0, 1), (47, .getfield 66, 3), (50, .invokevirtual 183, 3), (53, .aload_n 0, 1), (54, .getfield 66, 3), (57, .iload_n 2, 1)] (cX9_after.data.toList.drop 28) 28 = true := by decide +kernel
def dc_cX9_after_dX9_after_28_1 := zw_16 db_cX9_after_dX9_after_28_1
def dX9_after_28 := dc_cX9_after_dX9_after_28_1.1
def dX9_after_31 := dc_cX9_after_dX9_after_28_1.2.1
def dX9_after_32 := dc_cX9_after_dX9_after_28_1.2.2.1
def dX9_after_33 := dc_cX9_after_dX9_after_28_1.2.2.2.1
def dX9_after_35 := dc_cX9_after_dX9_after_28_1.2.2.2.2.1
def dX9_after_36 := dc_cX9_after_dX9_after_28_1.2.2.2.2.2.1
def dX9_after_39 := dc_cX9_after_dX9_after_28_1.2.2.2.2.2.2.1
def dX9_after_40 := dc_cX9_after_dX9_after_28_1.2.2.2.2.2.2.2.1
def dX9_after_43 := dc_cX9_after_dX9_after_28_1.2.2.2.2.2.2.2.2.1
def dX9_after_44 := dc_cX9_after_dX9_after_28_1.2.2.2.2.2.2.2.2.2.1
def dX9_after_46 := dc_cX9_after_dX9_after_28_1.2.2.2.2.2.2.2.2.2.2.1
def dX9_after_47 := dc_cX9_after_dX9_after_28_1.2.2.2.2.2.2.2.2.2.2.2.1
def dX9_after_50 := dc_cX9_after_dX9_after_28_1.2.2.2.2.2.2.2.2.2.2.2.2.1
def dX9_after_53 := dc_cX9_after_dX9_after_28_1.2.2.2.2.2.2.2.2.2.2.2.2.2.1
def dX9_after_54 := dc_cX9_after_dX9_after_28_1.2.2.2.2.2.2.2.2.2.2.2.2.2.2.1
def dX9_after_57 := dc_cX9_after_dX9_after_28_1.2.2.2.2.2.2.2.2.2.2.2.2.2.2.2
set_option maxRecDepth 100000 in
theorem db_cX9_after_dX9_after_58_2 : zw [(58, .iload_n 3, 1), (59, .invokevirtual 187, 3), (62, .ireturn, 1)] (cX9_after.data.toList.drop 58) 58 = true := by decide +kernel
def dc_cX9_after_dX9_after_58_2 := zw_3 db_cX9_after_dX9_after_58_2
def dX9_after_58 := dc_cX9_after_dX9_after_58_2.1
def dX9_after_59 := dc_cX9_after_dX9_after_58_2.2.1
def dX9_after_62 := dc_cX9_after_dX9_after_58_2.2.2
set_option maxRecDepth 100000 in
theorem db_cX9_size_dX9_size_0_0 : zw [(0, .aload_n 0, 1), (1, .iload_n 1, 1), (2, .invokevirtual 69, 3), (5, .astore_n 3, 1), (6, .iload_n 2, 1), (7, .iconst 0, 1), (8, .iconst 3, 1), (9, .invokestatic 73, 3), (12, .aload_n 0, 1), (13, .iload_n 2, 1), (14, .aload_n 3, 1), (15, .aload_n 0, 1), (16, .getfield 66, 3), (19, .invokevirtual 183, 3), (22, .aload_n 0, 1), (23, .getfield 66, 3)] (cX9_size.data.toList.drop 0) 0 = true := by decide +kernel
def dc_cX9_size_dX9_size_0_0 := zw_16 db_cX9_size_dX9_size_0_0
def dX9_size_0 := dc_cX9_size_dX9_size_0_0.1
def dX9_size_1 := dc_cX9_size_dX9_size_0_0.2.1
def dX9_size_2 := dc_cX9_size_dX9_size_0_0.2.2.1
def dX9_size_5 := dc_cX9_size_dX9_size_0_0.2.2.2.1
def dX9_size_6 := dc_cX9_size_dX9_size_0_0.2.2.2.2.1
def dX9_size_7 := dc_cX9_size_dX9_size_0_0.2.2.2.2.2.1
def dX9_size_8 := dc_cX9_size_dX9_size_0_0.2.2.2.2.2.2.1
def dX9_size_9 := dc_cX9_size_dX9_size_0_0.2.2.2.2.2.2.2.1
def dX9_size_12 := dc_cX9_size_dX9_size_0_0.2.2.2.2.2.2.2.2.1
def dX9_size_13 := dc_cX9_size_dX9_size_0_0.2.2.2.2.2.2.2.2.2.1
def dX9_size_14 := dc_cX9_size_dX9_size_0_0.2.2.2.2.2.2.2.2.2.2.1
def dX9_size_15 := dc_cX9_size_dX9_size_0_0.2.2.2.2.2.2.2.2.2.2.2.1
def dX9_size_16 := dc_cX9_size_dX9_size_0_0.2.2.2.2.2.2.2.2.2.2.2.2.1
def dX9_size_19 := dc_cX9_size_dX9_size_0_0.2.2.2.2.2.2.2.2.2.2.2.2.2.1
def dX9_size_22 := dc_cX9_size_dX9_size_0_0.2.2.2.2.2.2.2.2.2.2.2.2.2.2.1
def dX9_size_23 := dc_cX9_size_dX9_size_0_0.2.2.2.2.2.2.2.2.2.2.2.2.2.2.2
set_option maxRecDepth 100000 in
theorem db_cX9_size_dX9_size_26_1 : zw [(26, .getfield 190, 3), (29, .ireturn, 1)] (cX9_size.data.toList.drop 26) 26 = true := by decide +kernel
def dc_cX9_size_dX9_size_26_1 := zw_2 db_cX9_size_dX9_size_26_1
def dX9_size_26 := dc_cX9_size_dX9_size_26_1.1
def dX9_size_29 := dc_cX9_size_dX9_size_26_1.2
set_option maxRecDepth 100000 in
theorem db_cX9_kind_dX9_kind_0_0 : zw [(0, .aload_n 0, 1), (1, .iconst 0, 1), (2, .aload_n 0, 1), (3, .iload_n 1, 1), (4, .invokevirtual 69, 3), (7, .aload_n 0, 1), (8, .getfield 66, 3), (11, .invokevirtual 183, 3), (14, .aload_n 0, 1), (15, .getfield 66, 3), (18, .getfield 190, 3), (21, .iconst 1, 1), (22, .if_icmp .ne 20, 3), (25, .aload_n 0, 1), (26, .getfield 66, 3), (29, .iconst 0, 1)] (cX9_kind.data.toList.drop 0) 0 = true := by decide +kernel
def dc_cX9_kind_dX9_kind_0_0 := zw_16 db_cX9_kind_dX9_kind_0_0
def dX9_kind_0 := dc_cX9_kind_dX9_kind_0_0.1
def dX9_kind_1 := dc_cX9_kind_dX9_kind_0_0.2.1
def dX9_kind_2 := dc_cX9_kind_dX9_kind_0_0.2.2.1
def dX9_kind_3 := dc_cX9_kind_dX9_kind_0_0.2.2.2.1
def dX9_kind_4 := dc_cX9_kind_dX9_kind_0_0.2.2.2.2.1
def dX9_kind_7 := dc_cX9_kind_dX9_kind_0_0.2.2.2.2.2.1
def dX9_kind_8 := dc_cX9_kind_dX9_kind_0_0.2.2.2.2.2.2.1
def dX9_kind_11 := dc_cX9_kind_dX9_kind_0_0.2.2.2.2.2.2.2.1
def dX9_kind_14 := dc_cX9_kind_dX9_kind_0_0.2.2.2.2.2.2.2.2.1
def dX9_kind_15 := dc_cX9_kind_dX9_kind_0_0.2.2.2.2.2.2.2.2.2.1
def dX9_kind_18 := dc_cX9_kind_dX9_kind_0_0.2.2.2.2.2.2.2.2.2.2.1
def dX9_kind_21 := dc_cX9_kind_dX9_kind_0_0.2.2.2.2.2.2.2.2.2.2.2.1
def dX9_kind_22 := dc_cX9_kind_dX9_kind_0_0.2.2.2.2.2.2.2.2.2.2.2.2.1
def dX9_kind_25 := dc_cX9_kind_dX9_kind_0_0.2.2.2.2.2.2.2.2.2.2.2.2.2.1
def dX9_kind_26 := dc_cX9_kind_dX9_kind_0_0.2.2.2.2.2.2.2.2.2.2.2.2.2.2.1
def dX9_kind_29 := dc_cX9_kind_dX9_kind_0_0.2.2.2.2.2.2.2.2.2.2.2.2.2.2.2
set_option maxRecDepth 100000 in
theorem db_cX9_kind_dX9_kind_30_1 : zw [(30, .invokevirtual 195, 3), (33, .ifCond .eq 7, 3), (36, .iconst 1, 1), (37, .goto 4, 3), (40, .iconst 0, 1), (41, .ireturn, 1), (42, .aload_n 0, 1), (43, .getfield 66, 3), (46, .invokevirtual 199, 3), (49, .ifCond .eq 7, 3), (52, .iconst 3, 1), (53, .goto 4, 3), (56, .iconst 2, 1), (57, .ireturn, 1)] (cX9_kind.data.toList.drop 30) 30 = true := by decide +kernel
def dc_cX9_kind_dX9_kind_30_1 := zw_14 db_cX9_kind_dX9_kind_30_1
def dX9_kind_30 := dc_cX9_kind_dX9_kind_30_1.1
def dX9_kind_33 := dc_cX9_kind_dX9_kind_30_1.2.1
def dX9_kind_36 := dc_cX9_kind_dX9_kind_30_1.2.2.1
def dX9_kind_37 := dc_cX9_kind_dX9_kind_30_1.2.2.2.1
def dX9_kind_40 := dc_cX9_kind_dX9_kind_30_1.2.2.2.2.1
def dX9_kind_41 := dc_cX9_kind_dX9_kind_30_1.2.2.2.2.2.1
def dX9_kind_42 := dc_cX9_kind_dX9_kind_30_1.2.2.2.2.2.2.1
def dX9_kind_43 := dc_cX9_kind_dX9_kind_30_1.2.2.2.2.2.2.2.1
def dX9_kind_46 := dc_cX9_kind_dX9_kind_30_1.2.2.2.2.2.2.2.2.1
def dX9_kind_49 := dc_cX9_kind_dX9_kind_30_1.2.2.2.2.2.2.2.2.2.1
def dX9_kind_52 := dc_cX9_kind_dX9_kind_30_1.2.2.2.2.2.2.2.2.2.2.1
def dX9_kind_53 := dc_cX9_kind_dX9_kind_30_1.2.2.2.2.2.2.2.2.2.2.2.1
def dX9_kind_56 := dc_cX9_kind_dX9_kind_30_1.2.2.2.2.2.2.2.2.2.2.2.2.1
def dX9_kind_57 := dc_cX9_kind_dX9_kind_30_1.2.2.2.2.2.2.2.2.2.2.2.2.2
set_option maxRecDepth 100000 in
theorem db_cX9_many_dX9_many_0_0 : zw [(0, .aload_n 0, 1), (1, .iload_n 1, 1), (2, .invokevirtual 69, 3), (5, .astore 4, 2), (7, .iload_n 3, 1), (8, .iconst 0, 1), (9, .iconst 1, 1), (10, .invokestatic 73, 3), (13, .iload_n 2, 1), (14, .iconst 0, 1), (15, .iload_n 3, 1), (16, .iconst 1, 1), (17, .if_icmp .ne 7, 3), (20, .iconst 5, 1), (21, .goto 5, 3), (24, .bipush 12, 2)] (cX9_many.data.toList.drop 0) 0 = true := by decide +kernel
def dc_cX9_many_dX9_many_0_0 := zw_16 db_cX9_many_dX9_many_0_0
def dX9_many_0 := dc_cX9_many_dX9_many_0_0.1
def dX9_many_1 := dc_cX9_many_dX9_many_0_0.2.1
def dX9_many_2 := dc_cX9_many_dX9_many_0_0.2.2.1
def dX9_many_5 := dc_cX9_many_dX9_many_0_0.2.2.2.1
def dX9_many_7 := dc_cX9_many_dX9_many_0_0.2.2.2.2.1
def dX9_many_8 := dc_cX9_many_dX9_many_0_0.2.2.2.2.2.1
def dX9_many_9 := dc_cX9_many_dX9_many_0_0.2.2.2.2.2.2.1
def dX9_many_10 := dc_cX9_many_dX9_many_0_0.2.2.2.2.2.2.2.1
def dX9_many_13 := dc_cX9_many_dX9_many_0_0.2.2.2.2.2.2.2.2.1
def dX9_many_14 := dc_cX9_many_dX9_many_0_0.2.2.2.2.2.2.2.2.2.1
def dX9_many_15 := dc_cX9_many_dX9_many_0_0.2.2.2.2.2.2.2.2.2.2.1
def dX9_many_16 := dc_cX9_many_dX9_many_0_0.2.2.2.2.2.2.2.2.2.2.2.1
def dX9_many_17 := dc_cX9_many_dX9_many_0_0.2.2.2.2.2.2.2.2.2.2.2.2.1
def dX9_many_20 := dc_cX9_many_dX9_many_0_0.2.2.2.2.2.2.2.2.2.2.2.2.2.1
def dX9_many_21 := dc_cX9_many_dX9_many_0_0.2.2.2.2.2.2.2.2.2.2.2.2.2.2.1
def dX9_many_24 := dc_cX9_many_dX9_many_0_0.2.2.2.2.2.2.2.2.2.2.2.2.2.2.2
set_option maxRecDepth 100000 in
theorem db_cX9_many_dX9_many_26_1 : zw [(26, .invokestatic 73, 3), (29, .iload_n 3, 1), (30, .iconst 1, 1), (31, .if_icmp .ne 10, 3), (34, .aload 4, 2), (36, .iload_n 2, 1), (37, .invokevirtual 202, 3), (40, .ireturn, 1), (41, .aload_n 0, 1), (42, .iconst 0, 1), (43, .aload 4, 2), (45, .aload_n 0, 1), (46, .getfield 66, 3), (49, .invokevirtual 183, 3), (52, .aload_n 0, 1), (53, .getfield 49, 3)] (cX9_many.data.toList.drop 26) 26 = true := by decide +kernel
def dc_cX9_many_dX9_many_26_1 := zw_16 db_cX9_many_dX9_many_26_1
def dX9_many_26 := dc_cX9_many_dX9_many_26_1.1
def dX9_many_29 := dc_cX9_many_dX9_many_26_1.2.1
def dX9_many_30 := dc_cX9_many_dX9_many_26_1.2.2.1
def dX9_many_31 := dc_cX9_many_dX9_many_26_1.2.2.2.1
def dX9_many_34 := dc_cX9_many_dX9_many_26_1.2.2.2.2.1
def dX9_many_36 := dc_cX9_many_dX9_many_26_1.2.2.2.2.2.1
def dX9_many_37 := dc_cX9_many_dX9_many_26_1.2.2.2.2.2.2.1
def dX9_many_40 := dc_cX9_many_dX9_many_26_1.2.2.2.2.2.2.2.1
def dX9_many_41 := dc_cX9_many_dX9_many_26_1.2.2.2.2.2.2.2.2.1
def dX9_many_42 := dc_cX9_many_dX9_many_26_1.2.2.2.2.2.2.2.2.2.1
def dX9_many_43 := dc_cX9_many_dX9_many_26_1.2.2.2.2.2.2.2.2.2.2.1
def dX9_many_45 := dc_cX9_many_dX9_many_26_1.2.2.2.2.2.2.2.2.2.2.2.1
def dX9_many_46 := dc_cX9_many_dX9_many_26_1.2.2.2.2.2.2.2.2.2.2.2.2.1
def dX9_many_49 := dc_cX9_many_dX9_many_26_1.2.2.2.2.2.2.2.2.2.2.2.2.2.1
def dX9_many_52 := dc_cX9_many_dX9_many_26_1.2.2.2.2.2.2.2.2.2.2.2.2.2.2.1
def dX9_many_53 := dc_cX9_many_dX9_many_26_1.2.2.2.2.2.2.2.2.2.2.2.2.2.2.2
set_option maxRecDepth 100000 in
theorem db_cX9_many_dX9_many_56_2 : zw [(56, .aload_n 0, 1), (57, .getfield 66, 3), (60, .invokevirtual 205, 3), (63, .aload_n 0, 1), (64, .getfield 49, 3), (67, .iconst 0, 1), (68, .iload_n 2, 1), (69, .invokevirtual 209, 3), (72, .ireturn, 1)] (cX9_many.data.toList.drop 56) 56 = true := by decide +kernel
def dc_cX9_many_dX9_many_56_2 := zw_9 db_cX9_many_dX9_many_56_2
def dX9_many_56 := dc_cX9_many_dX9_many_56_2.1
def dX9_many_57 := dc_cX9_many_dX9_many_56_2.2.1
def dX9_many_60 := dc_cX9_many_dX9_many_56_2.2.2.1
def dX9_many_63 := dc_cX9_many_dX9_many_56_2.2.2.2.1
def dX9_many_64 := dc_cX9_many_dX9_many_56_2.2.2.2.2.1
def dX9_many_67 := dc_cX9_many_dX9_many_56_2.2.2.2.2.2.1
def dX9_many_68 := dc_cX9_many_dX9_many_56_2.2.2.2.2.2.2.1
def dX9_many_69 := dc_cX9_many_dX9_many_56_2.2.2.2.2.2.2.2.1
def dX9_many_72 := dc_cX9_many_dX9_many_56_2.2.2.2.2.2.2.2.2
set_option maxRecDepth 100000 in
theorem db_cX9_meetOrThrow_dX9_meetOrThrow_0_0 : zw [(0, .aload_n 0, 1), (1, .aload_n 1, 1), (2, .aload_n 2, 1), (3, .sipush 200, 3), (6, .iconst 0, 1), (7, .invokevirtual 284, 3), (10, .ifCond .ne 13, 3), (13, .new 241, 3), (16, .dup, 1), (17, .ldc 243, 2), (19, .invokespecial 245, 3), (22, .athrow, 1), (23, .return_, 1)] (cX9_meetOrThrow.data.toList.drop 0) 0 = true := by decide +kernel
def dc_cX9_meetOrThrow_dX9_meetOrThrow_0_0 := zw_13 db_cX9_meetOrThrow_dX9_meetOrThrow_0_0
def dX9_meetOrThrow_0 := dc_cX9_meetOrThrow_dX9_meetOrThrow_0_0.1
def dX9_meetOrThrow_1 := dc_cX9_meetOrThrow_dX9_meetOrThrow_0_0.2.1
def dX9_meetOrThrow_2 := dc_cX9_meetOrThrow_dX9_meetOrThrow_0_0.2.2.1
def dX9_meetOrThrow_3 := dc_cX9_meetOrThrow_dX9_meetOrThrow_0_0.2.2.2.1
def dX9_meetOrThrow_6 := dc_cX9_meetOrThrow_dX9_meetOrThrow_0_0.2.2.2.2.1
def dX9_meetOrThrow_7 := dc_cX9_meetOrThrow_dX9_meetOrThrow_0_0.2.2.2.2.2.1
def dX9_meetOrThrow_10 := dc_cX9_meetOrThrow_dX9_meetOrThrow_0_0.2.2.2.2.2.2.1
def dX9_meetOrThrow_13 := dc_cX9_meetOrThrow_dX9_meetOrThrow_0_0.2.2.2.2.2.2.2.1
def dX9_meetOrThrow_16 := dc_cX9_meetOrThrow_dX9_meetOrThrow_0_0.2.2.2.2.2.2.2.2.1
def dX9_meetOrThrow_17 := dc_cX9_meetOrThrow_dX9_meetOrThrow_0_0.2.2.2.2.2.2.2.2.2.1
def dX9_meetOrThrow_19 := dc_cX9_meetOrThrow_dX9_meetOrThrow_0_0.2.2.2.2.2.2.2.2.2.2.1
def dX9_meetOrThrow_22 := dc_cX9_meetOrThrow_dX9_meetOrThrow_0_0.2.2.2.2.2.2.2.2.2.2.2.1
def dX9_meetOrThrow_23 := dc_cX9_meetOrThrow_dX9_meetOrThrow_0_0.2.2.2.2.2.2.2.2.2.2.2.2
set_option maxRecDepth 100000 in
theorem db_cX9_isAlike_dX9_isAlike_0_0 : zw [(0, .aload_n 0, 1), (1, .iload_n 1, 1), (2, .invokevirtual 69, 3), (5, .astore 4, 2), (7, .aload_n 0, 1), (8, .iload_n 2, 1), (9, .invokevirtual 69, 3), (12, .astore 5, 2), (14, .iload_n 3, 1), (15, .iconst 0, 1), (16, .iconst 1, 1), (17, .invokestatic 73, 3), (20, .iload_n 3, 1), (21, .ifCond .ne 28, 3), (24, .aload_n 0, 1), (25, .aload 4, 2)] (cX9_isAlike.data.toList.drop 0) 0 = true := by decide +kernel
def dc_cX9_isAlike_dX9_isAlike_0_0 := zw_16 db_cX9_isAlike_dX9_isAlike_0_0
def dX9_isAlike_0 := dc_cX9_isAlike_dX9_isAlike_0_0.1
def dX9_isAlike_1 := dc_cX9_isAlike_dX9_isAlike_0_0.2.1
def dX9_isAlike_2 := dc_cX9_isAlike_dX9_isAlike_0_0.2.2.1
def dX9_isAlike_5 := dc_cX9_isAlike_dX9_isAlike_0_0.2.2.2.1
def dX9_isAlike_7 := dc_cX9_isAlike_dX9_isAlike_0_0.2.2.2.2.1
def dX9_isAlike_8 := dc_cX9_isAlike_dX9_isAlike_0_0.2.2.2.2.2.1
def dX9_isAlike_9 := dc_cX9_isAlike_dX9_isAlike_0_0.2.2.2.2.2.2.1
def dX9_isAlike_12 := dc_cX9_isAlike_dX9_isAlike_0_0.2.2.2.2.2.2.2.1
def dX9_isAlike_14 := dc_cX9_isAlike_dX9_isAlike_0_0.2.2.2.2.2.2.2.2.1
def dX9_isAlike_15 := dc_cX9_isAlike_dX9_isAlike_0_0.2.2.2.2.2.2.2.2.2.1
def dX9_isAlike_16 := dc_cX9_isAlike_dX9_isAlike_0_0.2.2.2.2.2.2.2.2.2.2.1
def dX9_isAlike_17 := dc_cX9_isAlike_dX9_isAlike_0_0.2.2.2.2.2.2.2.2.2.2.2.1
def dX9_isAlike_20 := dc_cX9_isAlike_dX9_isAlike_0_0.2.2.2.2.2.2.2.2.2.2.2.2.1
def dX9_isAlike_21 := dc_cX9_isAlike_dX9_isAlike_0_0.2.2.2.2.2.2.2.2.2.2.2.2.2.1
def dX9_isAlike_24 := dc_cX9_isAlike_dX9_isAlike_0_0.2.2.2.2.2.2.2.2.2.2.2.2.2.2.1
def dX9_isAlike_25 := dc_cX9_isAlike_dX9_isAlike_0_0.2.2.2.2.2.2.2.2.2.2.2.2.2.2.2
set_option maxRecDepth 100000 in
theorem db_cX9_isAlike_dX9_isAlike_27_1 : zw [(27, .aload 5, 2), (29, .invokevirtual 223, 3), (32, .aload_n 0, 1), (33, .getfield 42, 3), (36, .getfield 227, 3), (39, .iconst (-1), 1), (40, .if_icmp .ne 7, 3), (43, .iconst 1, 1), (44, .goto 4, 3), (47, .iconst 0, 1), (48, .ireturn, 1), (49, .aload_n 0, 1), (50, .iconst 0, 1), (51, .aload 4, 2), (53, .aload_n 0, 1), (54, .getfield 56, 3)] (cX9_isAlike.data.toList.drop 27) 27 = true := by decide +kernel
def dc_cX9_isAlike_dX9_isAlike_27_1 := zw_16 db_cX9_isAlike_dX9_isAlike_27_1
def dX9_isAlike_27 := dc_cX9_isAlike_dX9_isAlike_27_1.1
def dX9_isAlike_29 := dc_cX9_isAlike_dX9_isAlike_27_1.2.1
def dX9_isAlike_32 := dc_cX9_isAlike_dX9_isAlike_27_1.2.2.1
def dX9_isAlike_33 := dc_cX9_isAlike_dX9_isAlike_27_1.2.2.2.1
def dX9_isAlike_36 := dc_cX9_isAlike_dX9_isAlike_27_1.2.2.2.2.1
def dX9_isAlike_39 := dc_cX9_isAlike_dX9_isAlike_27_1.2.2.2.2.2.1
def dX9_isAlike_40 := dc_cX9_isAlike_dX9_isAlike_27_1.2.2.2.2.2.2.1
def dX9_isAlike_43 := dc_cX9_isAlike_dX9_isAlike_27_1.2.2.2.2.2.2.2.1
def dX9_isAlike_44 := dc_cX9_isAlike_dX9_isAlike_27_1.2.2.2.2.2.2.2.2.1
def dX9_isAlike_47 := dc_cX9_isAlike_dX9_isAlike_27_1.2.2.2.2.2.2.2.2.2.1
def dX9_isAlike_48 := dc_cX9_isAlike_dX9_isAlike_27_1.2.2.2.2.2.2.2.2.2.2.1
def dX9_isAlike_49 := dc_cX9_isAlike_dX9_isAlike_27_1.2.2.2.2.2.2.2.2.2.2.2.1
def dX9_isAlike_50 := dc_cX9_isAlike_dX9_isAlike_27_1.2.2.2.2.2.2.2.2.2.2.2.2.1
def dX9_isAlike_51 := dc_cX9_isAlike_dX9_isAlike_27_1.2.2.2.2.2.2.2.2.2.2.2.2.2.1
def dX9_isAlike_53 := dc_cX9_isAlike_dX9_isAlike_27_1.2.2.2.2.2.2.2.2.2.2.2.2.2.2.1
def dX9_isAlike_54 := dc_cX9_isAlike_dX9_isAlike_27_1.2.2.2.2.2.2.2.2.2.2.2.2.2.2.2
set_option maxRecDepth 100000 in
theorem db_cX9_isAlike_dX9_isAlike_57_2 : zw [(57, .invokevirtual 183, 3), (60, .aload_n 0, 1), (61, .iconst 0, 1), (62, .aload 5, 2), (64, .aload_n 0, 1), (65, .getfield 60, 3), (68, .invokevirtual 183, 3), (71, .aload_n 0, 1), (72, .getfield 56, 3), (75, .aload_n 0, 1), (76, .getfield 60, 3), (79, .invokevirtual 230, 3), (82, .ireturn, 1)] (cX9_isAlike.data.toList.drop 57) 57 = true := by decide +kernel
def dc_cX9_isAlike_dX9_isAlike_57_2 := zw_13 db_cX9_isAlike_dX9_isAlike_57_2
def dX9_isAlike_57 := dc_cX9_isAlike_dX9_isAlike_57_2.1
def dX9_isAlike_60 := dc_cX9_isAlike_dX9_isAlike_57_2.2.1
def dX9_isAlike_61 := dc_cX9_isAlike_dX9_isAlike_57_2.2.2.1
def dX9_isAlike_62 := dc_cX9_isAlike_dX9_isAlike_57_2.2.2.2.1
def dX9_isAlike_64 := dc_cX9_isAlike_dX9_isAlike_57_2.2.2.2.2.1
def dX9_isAlike_65 := dc_cX9_isAlike_dX9_isAlike_57_2.2.2.2.2.2.1
def dX9_isAlike_68 := dc_cX9_isAlike_dX9_isAlike_57_2.2.2.2.2.2.2.1
def dX9_isAlike_71 := dc_cX9_isAlike_dX9_isAlike_57_2.2.2.2.2.2.2.2.1
def dX9_isAlike_72 := dc_cX9_isAlike_dX9_isAlike_57_2.2.2.2.2.2.2.2.2.1
def dX9_isAlike_75 := dc_cX9_isAlike_dX9_isAlike_57_2.2.2.2.2.2.2.2.2.2.1
def dX9_isAlike_76 := dc_cX9_isAlike_dX9_isAlike_57_2.2.2.2.2.2.2.2.2.2.2.1
def dX9_isAlike_79 := dc_cX9_isAlike_dX9_isAlike_57_2.2.2.2.2.2.2.2.2.2.2.2.1
def dX9_isAlike_82 := dc_cX9_isAlike_dX9_isAlike_57_2.2.2.2.2.2.2.2.2.2.2.2.2
set_option maxRecDepth 100000 in
theorem db_cX9_pairs_dX9_pairs_0_0 : zw [(0, .aload_n 0, 1), (1, .iload_n 1, 1), (2, .invokevirtual 69, 3), (5, .astore_n 3, 1), (6, .aload_n 0, 1), (7, .iload_n 2, 1), (8, .invokevirtual 69, 3), (11, .astore 4, 2), (13, .aload_n 0, 1), (14, .aload_n 3, 1), (15, .aload 4, 2), (17, .invokevirtual 223, 3), (20, .aload_n 0, 1), (21, .getfield 42, 3), (24, .getfield 239, 3), (27, .ireturn, 1)] (cX9_pairs.data.toList.drop 0) 0 = true := by decide +kernel
def dc_cX9_pairs_dX9_pairs_0_0 := zw_16 db_cX9_pairs_dX9_pairs_0_0
def dX9_pairs_0 := dc_cX9_pairs_dX9_pairs_0_0.1
def dX9_pairs_1 := dc_cX9_pairs_dX9_pairs_0_0.2.1
def dX9_pairs_2 := dc_cX9_pairs_dX9_pairs_0_0.2.2.1
def dX9_pairs_5 := dc_cX9_pairs_dX9_pairs_0_0.2.2.2.1
def dX9_pairs_6 := dc_cX9_pairs_dX9_pairs_0_0.2.2.2.2.1
def dX9_pairs_7 := dc_cX9_pairs_dX9_pairs_0_0.2.2.2.2.2.1
def dX9_pairs_8 := dc_cX9_pairs_dX9_pairs_0_0.2.2.2.2.2.2.1
def dX9_pairs_11 := dc_cX9_pairs_dX9_pairs_0_0.2.2.2.2.2.2.2.1
def dX9_pairs_13 := dc_cX9_pairs_dX9_pairs_0_0.2.2.2.2.2.2.2.2.1
def dX9_pairs_14 := dc_cX9_pairs_dX9_pairs_0_0.2.2.2.2.2.2.2.2.2.1
def dX9_pairs_15 := dc_cX9_pairs_dX9_pairs_0_0.2.2.2.2.2.2.2.2.2.2.1
def dX9_pairs_17 := dc_cX9_pairs_dX9_pairs_0_0.2.2.2.2.2.2.2.2.2.2.2.1
def dX9_pairs_20 := dc_cX9_pairs_dX9_pairs_0_0.2.2.2.2.2.2.2.2.2.2.2.2.1
def dX9_pairs_21 := dc_cX9_pairs_dX9_pairs_0_0.2.2.2.2.2.2.2.2.2.2.2.2.2.1
def dX9_pairs_24 := dc_cX9_pairs_dX9_pairs_0_0.2.2.2.2.2.2.2.2.2.2.2.2.2.2.1
def dX9_pairs_27 := dc_cX9_pairs_dX9_pairs_0_0.2.2.2.2.2.2.2.2.2.2.2.2.2.2.2
set_option maxRecDepth 100000 in
theorem db_cX9_together_dX9_together_0_0 : zw [(0, .aload_n 0, 1), (1, .iload_n 1, 1), (2, .invokevirtual 69, 3), (5, .astore 5, 2), (7, .aload_n 0, 1), (8, .iload_n 2, 1), (9, .invokevirtual 69, 3), (12, .astore 6, 2), (14, .iload_n 3, 1), (15, .iconst 0, 1), (16, .iconst 3, 1), (17, .invokestatic 73, 3), (20, .iload 4, 2), (22, .iconst (-1), 1), (23, .bipush 12, 2), (25, .invokestatic 73, 3)] (cX9_together.data.toList.drop 0) 0 = true := by decide +kernel
def dc_cX9_together_dX9_together_0_0 := zw_16 db_cX9_together_dX9_together_0_0
def dX9_together_0 := dc_cX9_together_dX9_together_0_0.1
def dX9_together_1 := dc_cX9_together_dX9_together_0_0.2.1
def dX9_together_2 := dc_cX9_together_dX9_together_0_0.2.2.1
def dX9_together_5 := dc_cX9_together_dX9_together_0_0.2.2.2.1
def dX9_together_7 := dc_cX9_together_dX9_together_0_0.2.2.2.2.1
def dX9_together_8 := dc_cX9_together_dX9_together_0_0.2.2.2.2.2.1
def dX9_together_9 := dc_cX9_together_dX9_together_0_0.2.2.2.2.2.2.1
def dX9_together_12 := dc_cX9_together_dX9_together_0_0.2.2.2.2.2.2.2.1
def dX9_together_14 := dc_cX9_together_dX9_together_0_0.2.2.2.2.2.2.2.2.1
def dX9_together_15 := dc_cX9_together_dX9_together_0_0.2.2.2.2.2.2.2.2.2.1
def dX9_together_16 := dc_cX9_together_dX9_together_0_0.2.2.2.2.2.2.2.2.2.2.1
def dX9_together_17 := dc_cX9_together_dX9_together_0_0.2.2.2.2.2.2.2.2.2.2.2.1
def dX9_together_20 := dc_cX9_together_dX9_together_0_0.2.2.2.2.2.2.2.2.2.2.2.2.1
def dX9_together_22 := dc_cX9_together_dX9_together_0_0.2.2.2.2.2.2.2.2.2.2.2.2.2.1
def dX9_together_23 := dc_cX9_together_dX9_together_0_0.2.2.2.2.2.2.2.2.2.2.2.2.2.2.1
def dX9_together_25 := dc_cX9_together_dX9_together_0_0.2.2.2.2.2.2.2.2.2.2.2.2.2.2.2
set_option maxRecDepth 100000 in
theorem db_cX9_together_dX9_together_28_1 : zw [(28, .aload_n 0, 1), (29, .aload 5, 2), (31, .aload 6, 2), (33, .iload_n 3, 1), (34, .invokevirtual 168, 3), (37, .ifCond .ne 13, 3), (40, .new 241, 3), (43, .dup, 1), (44, .ldc 243, 2), (46, .invokespecial 245, 3), (49, .athrow, 1), (50, .iload 4, 2), (52, .iconst (-1), 1), (53, .if_icmp .ne 11, 3), (56, .aload_n 0, 1), (57, .getfield 66, 3)] (cX9_together.data.toList.drop 28) 28 = true := by decide +kernel
def dc_cX9_together_dX9_together_28_1 := zw_16 db_cX9_together_dX9_together_28_1
def dX9_together_28 := dc_cX9_together_dX9_together_28_1.1
def dX9_together_29 := dc_cX9_together_dX9_together_28_1.2.1
def dX9_together_31 := dc_cX9_together_dX9_together_28_1.2.2.1
def dX9_together_33 := dc_cX9_together_dX9_together_28_1.2.2.2.1
def dX9_together_34 := dc_cX9_together_dX9_together_28_1.2.2.2.2.1
def dX9_together_37 := dc_cX9_together_dX9_together_28_1.2.2.2.2.2.1
def dX9_together_40 := dc_cX9_together_dX9_together_28_1.2.2.2.2.2.2.1
def dX9_together_43 := dc_cX9_together_dX9_together_28_1.2.2.2.2.2.2.2.1
def dX9_together_44 := dc_cX9_together_dX9_together_28_1.2.2.2.2.2.2.2.2.1
def dX9_together_46 := dc_cX9_together_dX9_together_28_1.2.2.2.2.2.2.2.2.2.1
def dX9_together_49 := dc_cX9_together_dX9_together_28_1.2.2.2.2.2.2.2.2.2.2.1
def dX9_together_50 := dc_cX9_together_dX9_together_28_1.2.2.2.2.2.2.2.2.2.2.2.1
def dX9_together_52 := dc_cX9_together_dX9_together_28_1.2.2.2.2.2.2.2.2.2.2.2.2.1
def dX9_together_53 := dc_cX9_together_dX9_together_28_1.2.2.2.2.2.2.2.2.2.2.2.2.2.1
def dX9_together_56 := dc_cX9_together_dX9_together_28_1.2.2.2.2.2.2.2.2.2.2.2.2.2.2.1
def dX9_together_57 := dc_cX9_together_dX9_together_28_1.2.2.2.2.2.2.2.2.2.2.2.2.2.2.2
set_option maxRecDepth 100000 in
theorem db_cX9_together_dX9_together_60_2 : zw [(60, .getfield 190, 3), (63, .ireturn, 1), (64, .aload_n 0, 1), (65, .getfield 49, 3), (68, .aload_n 0, 1), (69, .getfield 66, 3), (72, .invokevirtual 205, 3), (75, .aload_n 0, 1), (76, .getfield 49, 3), (79, .iconst 0, 1), (80, .iload 4, 2), (82, .invokevirtual 209, 3), (85, .ireturn, 1)] (cX9_together.data.toList.drop 60) 60 = true := by decide +kernel
def dc_cX9_together_dX9_together_60_2 := zw_13 db_cX9_together_dX9_together_60_2
def dX9_together_60 := dc_cX9_together_dX9_together_60_2.1
def dX9_together_63 := dc_cX9_together_dX9_together_60_2.2.1
def dX9_together_64 := dc_cX9_together_dX9_together_60_2.2.2.1
def dX9_together_65 := dc_cX9_together_dX9_together_60_2.2.2.2.1
def dX9_together_68 := dc_cX9_together_dX9_together_60_2.2.2.2.2.1
def dX9_together_69 := dc_cX9_together_dX9_together_60_2.2.2.2.2.2.1
def dX9_together_72 := dc_cX9_together_dX9_together_60_2.2.2.2.2.2.2.1
def dX9_together_75 := dc_cX9_together_dX9_together_60_2.2.2.2.2.2.2.2.1
def dX9_together_76 := dc_cX9_together_dX9_together_60_2.2.2.2.2.2.2.2.2.1
def dX9_together_79 := dc_cX9_together_dX9_together_60_2.2.2.2.2.2.2.2.2.2.1
def dX9_together_80 := dc_cX9_together_dX9_together_60_2.2.2.2.2.2.2.2.2.2.2.1
def dX9_together_82 := dc_cX9_together_dX9_together_60_2.2.2.2.2.2.2.2.2.2.2.2.1
def dX9_together_85 := dc_cX9_together_dX9_together_60_2.2.2.2.2.2.2.2.2.2.2.2.2
set_option maxRecDepth 100000 in
theorem db_cX9_house_dX9_house_0_0 : zw [(0, .iload_n 1, 1), (1, .iconst 0, 1), (2, .iconst 2, 1), (3, .invokestatic 73, 3), (6, .iload_n 1, 1)] (cX9_house.data.toList.drop 0) 0 = true := by decide +kernel
def dc_cX9_house_dX9_house_0_0 := zw_5 db_cX9_house_dX9_house_0_0
def dX9_house_0 := dc_cX9_house_dX9_house_0_0.1
def dX9_house_1 := dc_cX9_house_dX9_house_0_0.2.1
def dX9_house_2 := dc_cX9_house_dX9_house_0_0.2.2.1
def dX9_house_3 := dc_cX9_house_dX9_house_0_0.2.2.2.1
def dX9_house_6 := dc_cX9_house_dX9_house_0_0.2.2.2.2
theorem dX9_house_7 : decode cX9_house 7 = .ok (.lookupswitch 35 #[(0, 25), (1, 30)], 25) := by decide +kernel
set_option maxRecDepth 100000 in
theorem db_cX9_house_dX9_house_32_1 : zw [(32, .aload_n 0, 1), (33, .getfield 246, 3), (36, .ireturn, 1), (37, .aload_n 0, 1), (38, .getfield 249, 3), (41, .ireturn, 1), (42, .aload_n 0, 1), (43, .getfield 252, 3), (46, .ireturn, 1)] (cX9_house.data.toList.drop 32) 32 = true := by decide +kernel
def dc_cX9_house_dX9_house_32_1 := zw_9 db_cX9_house_dX9_house_32_1
def dX9_house_32 := dc_cX9_house_dX9_house_32_1.1
def dX9_house_33 := dc_cX9_house_dX9_house_32_1.2.1
def dX9_house_36 := dc_cX9_house_dX9_house_32_1.2.2.1
def dX9_house_37 := dc_cX9_house_dX9_house_32_1.2.2.2.1
def dX9_house_38 := dc_cX9_house_dX9_house_32_1.2.2.2.2.1
def dX9_house_41 := dc_cX9_house_dX9_house_32_1.2.2.2.2.2.1
def dX9_house_42 := dc_cX9_house_dX9_house_32_1.2.2.2.2.2.2.1
def dX9_house_43 := dc_cX9_house_dX9_house_32_1.2.2.2.2.2.2.2.1
def dX9_house_46 := dc_cX9_house_dX9_house_32_1.2.2.2.2.2.2.2.2
set_option maxRecDepth 100000 in
theorem db_cX9_isSound_dX9_isSound_0_0 : zw [(0, .aload_n 0, 1), (1, .iconst 0, 1), (2, .invokevirtual 69, 3), (5, .astore_n 1, 1), (6, .aload_n 0, 1), (7, .getfield 35, 3), (10, .iconst 0, 1), (11, .aload_n 1, 1), (12, .aload_n 0, 1), (13, .getfield 66, 3), (16, .invokevirtual 160, 3), (19, .ifCond .ne 5, 3), (22, .iconst 1, 1), (23, .ireturn, 1), (24, .aload_n 0, 1), (25, .getfield 35, 3)] (cX9_isSound.data.toList.drop 0) 0 = true := by decide +kernel
def dc_cX9_isSound_dX9_isSound_0_0 := zw_16 db_cX9_isSound_dX9_isSound_0_0
def dX9_isSound_0 := dc_cX9_isSound_dX9_isSound_0_0.1
def dX9_isSound_1 := dc_cX9_isSound_dX9_isSound_0_0.2.1
def dX9_isSound_2 := dc_cX9_isSound_dX9_isSound_0_0.2.2.1
def dX9_isSound_5 := dc_cX9_isSound_dX9_isSound_0_0.2.2.2.1
def dX9_isSound_6 := dc_cX9_isSound_dX9_isSound_0_0.2.2.2.2.1
def dX9_isSound_7 := dc_cX9_isSound_dX9_isSound_0_0.2.2.2.2.2.1
def dX9_isSound_10 := dc_cX9_isSound_dX9_isSound_0_0.2.2.2.2.2.2.1
def dX9_isSound_11 := dc_cX9_isSound_dX9_isSound_0_0.2.2.2.2.2.2.2.1
def dX9_isSound_12 := dc_cX9_isSound_dX9_isSound_0_0.2.2.2.2.2.2.2.2.1
def dX9_isSound_13 := dc_cX9_isSound_dX9_isSound_0_0.2.2.2.2.2.2.2.2.2.1
def dX9_isSound_16 := dc_cX9_isSound_dX9_isSound_0_0.2.2.2.2.2.2.2.2.2.2.1
def dX9_isSound_19 := dc_cX9_isSound_dX9_isSound_0_0.2.2.2.2.2.2.2.2.2.2.2.1
def dX9_isSound_22 := dc_cX9_isSound_dX9_isSound_0_0.2.2.2.2.2.2.2.2.2.2.2.2.1
def dX9_isSound_23 := dc_cX9_isSound_dX9_isSound_0_0.2.2.2.2.2.2.2.2.2.2.2.2.2.1
def dX9_isSound_24 := dc_cX9_isSound_dX9_isSound_0_0.2.2.2.2.2.2.2.2.2.2.2.2.2.2.1
def dX9_isSound_25 := dc_cX9_isSound_dX9_isSound_0_0.2.2.2.2.2.2.2.2.2.2.2.2.2.2.2
set_option maxRecDepth 100000 in
theorem db_cX9_isSound_dX9_isSound_28_1 : zw [(28, .iconst 1, 1), (29, .aload_n 1, 1), (30, .aload_n 0, 1), (31, .getfield 56, 3), (34, .invokevirtual 160, 3), (37, .ifCond .eq 17, 3), (40, .aload_n 0, 1), (41, .getfield 56, 3), (44, .aload_n 0, 1), (45, .getfield 66, 3), (48, .invokevirtual 230, 3), (51, .ifCond .ne 5, 3), (54, .iconst 0, 1), (55, .ireturn, 1), (56, .aload_n 0, 1), (57, .getfield 35, 3)] (cX9_isSound.data.toList.drop 28) 28 = true := by decide +kernel
def dc_cX9_isSound_dX9_isSound_28_1 := zw_16 db_cX9_isSound_dX9_isSound_28_1
def dX9_isSound_28 := dc_cX9_isSound_dX9_isSound_28_1.1
def dX9_isSound_29 := dc_cX9_isSound_dX9_isSound_28_1.2.1
def dX9_isSound_30 := dc_cX9_isSound_dX9_isSound_28_1.2.2.1
def dX9_isSound_31 := dc_cX9_isSound_dX9_isSound_28_1.2.2.2.1
def dX9_isSound_34 := dc_cX9_isSound_dX9_isSound_28_1.2.2.2.2.1
def dX9_isSound_37 := dc_cX9_isSound_dX9_isSound_28_1.2.2.2.2.2.1
def dX9_isSound_40 := dc_cX9_isSound_dX9_isSound_28_1.2.2.2.2.2.2.1
def dX9_isSound_41 := dc_cX9_isSound_dX9_isSound_28_1.2.2.2.2.2.2.2.1
def dX9_isSound_44 := dc_cX9_isSound_dX9_isSound_28_1.2.2.2.2.2.2.2.2.1
def dX9_isSound_45 := dc_cX9_isSound_dX9_isSound_28_1.2.2.2.2.2.2.2.2.2.1
def dX9_isSound_48 := dc_cX9_isSound_dX9_isSound_28_1.2.2.2.2.2.2.2.2.2.2.1
def dX9_isSound_51 := dc_cX9_isSound_dX9_isSound_28_1.2.2.2.2.2.2.2.2.2.2.2.1
def dX9_isSound_54 := dc_cX9_isSound_dX9_isSound_28_1.2.2.2.2.2.2.2.2.2.2.2.2.1
def dX9_isSound_55 := dc_cX9_isSound_dX9_isSound_28_1.2.2.2.2.2.2.2.2.2.2.2.2.2.1
def dX9_isSound_56 := dc_cX9_isSound_dX9_isSound_28_1.2.2.2.2.2.2.2.2.2.2.2.2.2.2.1
def dX9_isSound_57 := dc_cX9_isSound_dX9_isSound_28_1.2.2.2.2.2.2.2.2.2.2.2.2.2.2.2
set_option maxRecDepth 100000 in
theorem db_cX9_isSound_dX9_isSound_60_2 : zw [(60, .iconst 2, 1), (61, .aload_n 1, 1), (62, .aload_n 0, 1), (63, .getfield 56, 3), (66, .invokevirtual 160, 3), (69, .ifCond .eq 19, 3), (72, .aload_n 0, 1), (73, .getfield 56, 3), (76, .aload_n 0, 1), (77, .getfield 66, 3), (80, .invokevirtual 230, 3), (83, .ifCond .ne 5, 3), (86, .iconst 0, 1), (87, .ireturn, 1), (88, .aload_n 0, 1), (89, .getfield 22, 3)] (cX9_isSound.data.toList.drop 60) 60 = true := by decide +kernel
def dc_cX9_isSound_dX9_isSound_60_2 := zw_16 db_cX9_isSound_dX9_isSound_60_2
def dX9_isSound_60 := dc_cX9_isSound_dX9_isSound_60_2.1
def dX9_isSound_61 := dc_cX9_isSound_dX9_isSound_60_2.2.1
def dX9_isSound_62 := dc_cX9_isSound_dX9_isSound_60_2.2.2.1
def dX9_isSound_63 := dc_cX9_isSound_dX9_isSound_60_2.2.2.2.1
def dX9_isSound_66 := dc_cX9_isSound_dX9_isSound_60_2.2.2.2.2.1
def dX9_isSound_69 := dc_cX9_isSound_dX9_isSound_60_2.2.2.2.2.2.1
def dX9_isSound_72 := dc_cX9_isSound_dX9_isSound_60_2.2.2.2.2.2.2.1
def dX9_isSound_73 := dc_cX9_isSound_dX9_isSound_60_2.2.2.2.2.2.2.2.1
def dX9_isSound_76 := dc_cX9_isSound_dX9_isSound_60_2.2.2.2.2.2.2.2.2.1
def dX9_isSound_77 := dc_cX9_isSound_dX9_isSound_60_2.2.2.2.2.2.2.2.2.2.1
def dX9_isSound_80 := dc_cX9_isSound_dX9_isSound_60_2.2.2.2.2.2.2.2.2.2.2.1
def dX9_isSound_83 := dc_cX9_isSound_dX9_isSound_60_2.2.2.2.2.2.2.2.2.2.2.2.1
def dX9_isSound_86 := dc_cX9_isSound_dX9_isSound_60_2.2.2.2.2.2.2.2.2.2.2.2.2.1
def dX9_isSound_87 := dc_cX9_isSound_dX9_isSound_60_2.2.2.2.2.2.2.2.2.2.2.2.2.2.1
def dX9_isSound_88 := dc_cX9_isSound_dX9_isSound_60_2.2.2.2.2.2.2.2.2.2.2.2.2.2.2.1
def dX9_isSound_89 := dc_cX9_isSound_dX9_isSound_60_2.2.2.2.2.2.2.2.2.2.2.2.2.2.2.2
set_option maxRecDepth 100000 in
theorem db_cX9_isSound_dX9_isSound_92_3 : zw [(92, .aload_n 0, 1), (93, .getfield 66, 3), (96, .invokevirtual 255, 3), (99, .aload_n 0, 1), (100, .getfield 35, 3), (103, .iconst 0, 1), (104, .aload_n 0, 1), (105, .getfield 22, 3), (108, .aload_n 0, 1), (109, .getfield 56, 3), (112, .invokevirtual 160, 3), (115, .ifCond .eq 17, 3), (118, .aload_n 0, 1), (119, .getfield 56, 3), (122, .aload_n 0, 1), (123, .getfield 66, 3)] (cX9_isSound.data.toList.drop 92) 92 = true := by decide +kernel
def dc_cX9_isSound_dX9_isSound_92_3 := zw_16 db_cX9_isSound_dX9_isSound_92_3
def dX9_isSound_92 := dc_cX9_isSound_dX9_isSound_92_3.1
def dX9_isSound_93 := dc_cX9_isSound_dX9_isSound_92_3.2.1
def dX9_isSound_96 := dc_cX9_isSound_dX9_isSound_92_3.2.2.1
def dX9_isSound_99 := dc_cX9_isSound_dX9_isSound_92_3.2.2.2.1
def dX9_isSound_100 := dc_cX9_isSound_dX9_isSound_92_3.2.2.2.2.1
def dX9_isSound_103 := dc_cX9_isSound_dX9_isSound_92_3.2.2.2.2.2.1
def dX9_isSound_104 := dc_cX9_isSound_dX9_isSound_92_3.2.2.2.2.2.2.1
def dX9_isSound_105 := dc_cX9_isSound_dX9_isSound_92_3.2.2.2.2.2.2.2.1
def dX9_isSound_108 := dc_cX9_isSound_dX9_isSound_92_3.2.2.2.2.2.2.2.2.1
def dX9_isSound_109 := dc_cX9_isSound_dX9_isSound_92_3.2.2.2.2.2.2.2.2.2.1
def dX9_isSound_112 := dc_cX9_isSound_dX9_isSound_92_3.2.2.2.2.2.2.2.2.2.2.1
def dX9_isSound_115 := dc_cX9_isSound_dX9_isSound_92_3.2.2.2.2.2.2.2.2.2.2.2.1
def dX9_isSound_118 := dc_cX9_isSound_dX9_isSound_92_3.2.2.2.2.2.2.2.2.2.2.2.2.1
def dX9_isSound_119 := dc_cX9_isSound_dX9_isSound_92_3.2.2.2.2.2.2.2.2.2.2.2.2.2.1
def dX9_isSound_122 := dc_cX9_isSound_dX9_isSound_92_3.2.2.2.2.2.2.2.2.2.2.2.2.2.2.1
def dX9_isSound_123 := dc_cX9_isSound_dX9_isSound_92_3.2.2.2.2.2.2.2.2.2.2.2.2.2.2.2
set_option maxRecDepth 100000 in
theorem db_cX9_isSound_dX9_isSound_126_4 : zw [(126, .invokevirtual 230, 3), (129, .ifCond .ne 5, 3), (132, .iconst 0, 1), (133, .ireturn, 1), (134, .aload_n 0, 1), (135, .aload_n 1, 1), (136, .invokevirtual 258, 3), (139, .ireturn, 1)] (cX9_isSound.data.toList.drop 126) 126 = true := by decide +kernel
def dc_cX9_isSound_dX9_isSound_126_4 := zw_8 db_cX9_isSound_dX9_isSound_126_4
def dX9_isSound_126 := dc_cX9_isSound_dX9_isSound_126_4.1
def dX9_isSound_129 := dc_cX9_isSound_dX9_isSound_126_4.2.1
def dX9_isSound_132 := dc_cX9_isSound_dX9_isSound_126_4.2.2.1
def dX9_isSound_133 := dc_cX9_isSound_dX9_isSound_126_4.2.2.2.1
def dX9_isSound_134 := dc_cX9_isSound_dX9_isSound_126_4.2.2.2.2.1
def dX9_isSound_135 := dc_cX9_isSound_dX9_isSound_126_4.2.2.2.2.2.1
def dX9_isSound_136 := dc_cX9_isSound_dX9_isSound_126_4.2.2.2.2.2.2.1
def dX9_isSound_139 := dc_cX9_isSound_dX9_isSound_126_4.2.2.2.2.2.2.2
set_option maxRecDepth 100000 in
theorem db_cX9_digest_dX9_digest_0_0 : zw [(0, .ldc2_w 261, 3), (3, .lstore_n 1, 1), (4, .iconst 0, 1), (5, .istore_n 3, 1), (6, .iload_n 3, 1), (7, .aload_n 0, 1), (8, .getfield 11, 3), (11, .arraylength, 1), (12, .if_icmp .ge 20, 3), (15, .lload_n 1, 1), (16, .aload_n 0, 1), (17, .getfield 11, 3), (20, .iload_n 3, 1), (21, .aaload, 1), (22, .invokestatic 263, 3), (25, .lstore_n 1, 1)] (cX9_digest.data.toList.drop 0) 0 = true := by decide +kernel
def dc_cX9_digest_dX9_digest_0_0 := zw_16 db_cX9_digest_dX9_digest_0_0
def dX9_digest_0 := dc_cX9_digest_dX9_digest_0_0.1
def dX9_digest_3 := dc_cX9_digest_dX9_digest_0_0.2.1
def dX9_digest_4 := dc_cX9_digest_dX9_digest_0_0.2.2.1
def dX9_digest_5 := dc_cX9_digest_dX9_digest_0_0.2.2.2.1
def dX9_digest_6 := dc_cX9_digest_dX9_digest_0_0.2.2.2.2.1
def dX9_digest_7 := dc_cX9_digest_dX9_digest_0_0.2.2.2.2.2.1
def dX9_digest_8 := dc_cX9_digest_dX9_digest_0_0.2.2.2.2.2.2.1
def dX9_digest_11 := dc_cX9_digest_dX9_digest_0_0.2.2.2.2.2.2.2.1
def dX9_digest_12 := dc_cX9_digest_dX9_digest_0_0.2.2.2.2.2.2.2.2.1
def dX9_digest_15 := dc_cX9_digest_dX9_digest_0_0.2.2.2.2.2.2.2.2.2.1
def dX9_digest_16 := dc_cX9_digest_dX9_digest_0_0.2.2.2.2.2.2.2.2.2.2.1
def dX9_digest_17 := dc_cX9_digest_dX9_digest_0_0.2.2.2.2.2.2.2.2.2.2.2.1
def dX9_digest_20 := dc_cX9_digest_dX9_digest_0_0.2.2.2.2.2.2.2.2.2.2.2.2.1
def dX9_digest_21 := dc_cX9_digest_dX9_digest_0_0.2.2.2.2.2.2.2.2.2.2.2.2.2.1
def dX9_digest_22 := dc_cX9_digest_dX9_digest_0_0.2.2.2.2.2.2.2.2.2.2.2.2.2.2.1
def dX9_digest_25 := dc_cX9_digest_dX9_digest_0_0.2.2.2.2.2.2.2.2.2.2.2.2.2.2.2
set_option maxRecDepth 100000 in
theorem db_cX9_digest_dX9_digest_26_1 : zw [(26, .iinc 3 1, 3), (29, .goto (-23), 3), (32, .lload_n 1, 1), (33, .ldc2_w 267, 3), (36, .lmul, 1), (37, .aload_n 0, 1), (38, .getfield 246, 3), (41, .i2l, 1), (42, .ladd, 1), (43, .lstore_n 1, 1), (44, .lload_n 1, 1), (45, .ldc2_w 267, 3), (48, .lmul, 1), (49, .aload_n 0, 1), (50, .getfield 249, 3), (53, .i2l, 1)] (cX9_digest.data.toList.drop 26) 26 = true := by decide +kernel
def dc_cX9_digest_dX9_digest_26_1 := zw_16 db_cX9_digest_dX9_digest_26_1
def dX9_digest_26 := dc_cX9_digest_dX9_digest_26_1.1
def dX9_digest_29 := dc_cX9_digest_dX9_digest_26_1.2.1
def dX9_digest_32 := dc_cX9_digest_dX9_digest_26_1.2.2.1
def dX9_digest_33 := dc_cX9_digest_dX9_digest_26_1.2.2.2.1
def dX9_digest_36 := dc_cX9_digest_dX9_digest_26_1.2.2.2.2.1
def dX9_digest_37 := dc_cX9_digest_dX9_digest_26_1.2.2.2.2.2.1
def dX9_digest_38 := dc_cX9_digest_dX9_digest_26_1.2.2.2.2.2.2.1
def dX9_digest_41 := dc_cX9_digest_dX9_digest_26_1.2.2.2.2.2.2.2.1
def dX9_digest_42 := dc_cX9_digest_dX9_digest_26_1.2.2.2.2.2.2.2.2.1
def dX9_digest_43 := dc_cX9_digest_dX9_digest_26_1.2.2.2.2.2.2.2.2.2.1
def dX9_digest_44 := dc_cX9_digest_dX9_digest_26_1.2.2.2.2.2.2.2.2.2.2.1
def dX9_digest_45 := dc_cX9_digest_dX9_digest_26_1.2.2.2.2.2.2.2.2.2.2.2.1
def dX9_digest_48 := dc_cX9_digest_dX9_digest_26_1.2.2.2.2.2.2.2.2.2.2.2.2.1
def dX9_digest_49 := dc_cX9_digest_dX9_digest_26_1.2.2.2.2.2.2.2.2.2.2.2.2.2.1
def dX9_digest_50 := dc_cX9_digest_dX9_digest_26_1.2.2.2.2.2.2.2.2.2.2.2.2.2.2.1
def dX9_digest_53 := dc_cX9_digest_dX9_digest_26_1.2.2.2.2.2.2.2.2.2.2.2.2.2.2.2
set_option maxRecDepth 100000 in
theorem db_cX9_digest_dX9_digest_54_2 : zw [(54, .ladd, 1), (55, .lstore_n 1, 1), (56, .lload_n 1, 1), (57, .ldc2_w 267, 3), (60, .lmul, 1), (61, .aload_n 0, 1), (62, .getfield 252, 3), (65, .i2l, 1), (66, .ladd, 1), (67, .lstore_n 1, 1), (68, .lload_n 1, 1), (69, .ldc2_w 267, 3), (72, .lmul, 1), (73, .aload_n 0, 1), (74, .invokevirtual 269, 3), (77, .ifCond .eq 7, 3)] (cX9_digest.data.toList.drop 54) 54 = true := by decide +kernel
def dc_cX9_digest_dX9_digest_54_2 := zw_16 db_cX9_digest_dX9_digest_54_2
def dX9_digest_54 := dc_cX9_digest_dX9_digest_54_2.1
def dX9_digest_55 := dc_cX9_digest_dX9_digest_54_2.2.1
def dX9_digest_56 := dc_cX9_digest_dX9_digest_54_2.2.2.1
def dX9_digest_57 := dc_cX9_digest_dX9_digest_54_2.2.2.2.1
def dX9_digest_60 := dc_cX9_digest_dX9_digest_54_2.2.2.2.2.1
def dX9_digest_61 := dc_cX9_digest_dX9_digest_54_2.2.2.2.2.2.1
def dX9_digest_62 := dc_cX9_digest_dX9_digest_54_2.2.2.2.2.2.2.1
def dX9_digest_65 := dc_cX9_digest_dX9_digest_54_2.2.2.2.2.2.2.2.1
def dX9_digest_66 := dc_cX9_digest_dX9_digest_54_2.2.2.2.2.2.2.2.2.1
def dX9_digest_67 := dc_cX9_digest_dX9_digest_54_2.2.2.2.2.2.2.2.2.2.1
def dX9_digest_68 := dc_cX9_digest_dX9_digest_54_2.2.2.2.2.2.2.2.2.2.2.1
def dX9_digest_69 := dc_cX9_digest_dX9_digest_54_2.2.2.2.2.2.2.2.2.2.2.2.1
def dX9_digest_72 := dc_cX9_digest_dX9_digest_54_2.2.2.2.2.2.2.2.2.2.2.2.2.1
def dX9_digest_73 := dc_cX9_digest_dX9_digest_54_2.2.2.2.2.2.2.2.2.2.2.2.2.2.1
def dX9_digest_74 := dc_cX9_digest_dX9_digest_54_2.2.2.2.2.2.2.2.2.2.2.2.2.2.2.1
def dX9_digest_77 := dc_cX9_digest_dX9_digest_54_2.2.2.2.2.2.2.2.2.2.2.2.2.2.2.2
set_option maxRecDepth 100000 in
theorem db_cX9_digest_dX9_digest_80_3 : zw [(80, .iconst 1, 1), (81, .goto 4, 3), (84, .iconst 0, 1), (85, .i2l, 1), (86, .ladd, 1), (87, .lreturn, 1)] (cX9_digest.data.toList.drop 80) 80 = true := by decide +kernel
def dc_cX9_digest_dX9_digest_80_3 := zw_6 db_cX9_digest_dX9_digest_80_3
def dX9_digest_80 := dc_cX9_digest_dX9_digest_80_3.1
def dX9_digest_81 := dc_cX9_digest_dX9_digest_80_3.2.1
def dX9_digest_84 := dc_cX9_digest_dX9_digest_80_3.2.2.1
def dX9_digest_85 := dc_cX9_digest_dX9_digest_80_3.2.2.2.1
def dX9_digest_86 := dc_cX9_digest_dX9_digest_80_3.2.2.2.2.1
def dX9_digest_87 := dc_cX9_digest_dX9_digest_80_3.2.2.2.2.2
end
