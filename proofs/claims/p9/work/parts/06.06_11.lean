/-! part 06.tlib -/
section
section TLB
abbrev TMem : Type := Nat → Nat → Int32
def tms (μ : TMem) (k i : Nat) (v : Int32) : TMem := fun j => if j = k then upd (μ k) i v else μ j
def tkl : List Nat := [8, 10, 2, 9, 2, 9, 2, 9, 2, 9, 2, 9, 2, 9, 0, 3, 6, 9, 6, 9, 6, 9, 1, 6, 9, 6, 9, 6, 9, 2, 9, 2, 9, 5, 9, 4, 6, 9, 6, 9, 6, 9, 6, 9, 6, 9, 6, 9, 7, 6, 9, 5, 9, 5, 9, 5, 9, 5, 9]
def kd (k : Nat) : Nat := tkl.getD k 99
def tll : List Nat := [0, 4, 0, 21, 0, 21, 0, 21, 0, 21, 0, 21, 0, 96, 0, 0, 0, 32, 0, 32, 0, 32, 0, 0, 32, 0, 32, 0, 32, 0, 96, 0, 96, 0, 96, 0, 0, 200, 0, 200, 0, 200, 0, 200, 0, 600, 0, 1024, 0, 0, 416, 0, 96, 0, 96, 0, 96, 0, 96]
def tl (k : Nat) : Nat := tll.getD k 0
def CL : List vw_C := [(RX0, TX0, 1), (RX1, TX1, 3), (RX2, TX2, 4), (RX3, TX3, 7), (RX4, TX4, 10), (RX5, TX5, 3), (RX6, TX6, 1), (RX8, TX8, 1), (RX9, TX9, 14), (RX10, TX10, 2), (RX11, TX11, 8), (RJ4, TJ4, 4), (RJ0, TJ0, 4)]
theorem cl_0 : CL[0]? = some (RX0, TX0, 1) := rfl
theorem in_0 : ∀ w ∈ u_ws RX0 TX0 1, w ∈ W0 := List.forall_mem_cons.mpr ⟨q_136, fun _ h => nomatch h⟩
theorem cl_1 : CL[1]? = some (RX1, TX1, 3) := rfl
theorem in_1 : ∀ w ∈ u_ws RX1 TX1 3, w ∈ W0 := List.forall_mem_cons.mpr ⟨q_166, List.forall_mem_cons.mpr ⟨q_168, List.forall_mem_cons.mpr ⟨q_170, fun _ h => nomatch h⟩⟩⟩
theorem cl_2 : CL[2]? = some (RX2, TX2, 4) := rfl
theorem in_2 : ∀ w ∈ u_ws RX2 TX2 4, w ∈ W0 := List.forall_mem_cons.mpr ⟨q_121, List.forall_mem_cons.mpr ⟨q_123, List.forall_mem_cons.mpr ⟨q_125, List.forall_mem_cons.mpr ⟨q_119, fun _ h => nomatch h⟩⟩⟩⟩
theorem cl_3 : CL[3]? = some (RX3, TX3, 7) := rfl
theorem in_3 : ∀ w ∈ u_ws RX3 TX3 7, w ∈ W0 := List.forall_mem_cons.mpr ⟨q_192, List.forall_mem_cons.mpr ⟨q_194, List.forall_mem_cons.mpr ⟨q_196, List.forall_mem_cons.mpr ⟨q_198, List.forall_mem_cons.mpr ⟨q_200, List.forall_mem_cons.mpr ⟨q_202, List.forall_mem_cons.mpr ⟨q_204, fun _ h => nomatch h⟩⟩⟩⟩⟩⟩⟩
theorem cl_4 : CL[4]? = some (RX4, TX4, 10) := rfl
theorem in_4 : ∀ w ∈ u_ws RX4 TX4 10, w ∈ W0 := List.forall_mem_cons.mpr ⟨q_228, List.forall_mem_cons.mpr ⟨q_230, List.forall_mem_cons.mpr ⟨q_232, List.forall_mem_cons.mpr ⟨q_234, List.forall_mem_cons.mpr ⟨q_236, List.forall_mem_cons.mpr ⟨q_238, List.forall_mem_cons.mpr ⟨q_240, List.forall_mem_cons.mpr ⟨q_242, List.forall_mem_cons.mpr ⟨q_244, List.forall_mem_cons.mpr ⟨q_246, fun _ h => nomatch h⟩⟩⟩⟩⟩⟩⟩⟩⟩⟩
theorem cl_5 : CL[5]? = some (RX5, TX5, 3) := rfl
theorem in_5 : ∀ w ∈ u_ws RX5 TX5 3, w ∈ W0 := List.forall_mem_cons.mpr ⟨q_181, List.forall_mem_cons.mpr ⟨q_182, List.forall_mem_cons.mpr ⟨q_183, fun _ h => nomatch h⟩⟩⟩
theorem cl_6 : CL[6]? = some (RX6, TX6, 1) := rfl
theorem in_6 : ∀ w ∈ u_ws RX6 TX6 1, w ∈ W0 := List.forall_mem_cons.mpr ⟨q_152, fun _ h => nomatch h⟩
theorem cl_7 : CL[7]? = some (RX8, TX8, 1) := rfl
theorem in_7 : ∀ w ∈ u_ws RX8 TX8 1, w ∈ W0 := List.forall_mem_cons.mpr ⟨q_258, fun _ h => nomatch h⟩
theorem cl_8 : CL[8]? = some (RX9, TX9, 14) := rfl
theorem in_8 : ∀ w ∈ u_ws RX9 TX9 14, w ∈ W0 := List.forall_mem_cons.mpr ⟨q_277, List.forall_mem_cons.mpr ⟨q_279, List.forall_mem_cons.mpr ⟨q_281, List.forall_mem_cons.mpr ⟨q_283, List.forall_mem_cons.mpr ⟨q_285, List.forall_mem_cons.mpr ⟨q_287, List.forall_mem_cons.mpr ⟨q_289, List.forall_mem_cons.mpr ⟨q_291, List.forall_mem_cons.mpr ⟨q_293, List.forall_mem_cons.mpr ⟨q_295, List.forall_mem_cons.mpr ⟨q_297, List.forall_mem_cons.mpr ⟨q_299, List.forall_mem_cons.mpr ⟨q_301, List.forall_mem_cons.mpr ⟨q_303, fun _ h => nomatch h⟩⟩⟩⟩⟩⟩⟩⟩⟩⟩⟩⟩⟩⟩
theorem cl_9 : CL[9]? = some (RX10, TX10, 2) := rfl
theorem in_9 : ∀ w ∈ u_ws RX10 TX10 2, w ∈ W0 := List.forall_mem_cons.mpr ⟨q_583, List.forall_mem_cons.mpr ⟨q_585, fun _ h => nomatch h⟩⟩
theorem cl_10 : CL[10]? = some (RX11, TX11, 8) := rfl
theorem in_10 : ∀ w ∈ u_ws RX11 TX11 8, w ∈ W0 := List.forall_mem_cons.mpr ⟨q_1321, List.forall_mem_cons.mpr ⟨q_1323, List.forall_mem_cons.mpr ⟨q_1325, List.forall_mem_cons.mpr ⟨q_1327, List.forall_mem_cons.mpr ⟨q_1329, List.forall_mem_cons.mpr ⟨q_1331, List.forall_mem_cons.mpr ⟨q_1333, List.forall_mem_cons.mpr ⟨q_1335, fun _ h => nomatch h⟩⟩⟩⟩⟩⟩⟩⟩
theorem cl_11 : CL[11]? = some (RJ4, TJ4, 4) := rfl
theorem in_11 : ∀ w ∈ u_ws RJ4 TJ4 4, w ∈ W0 := List.forall_mem_cons.mpr ⟨q_914, List.forall_mem_cons.mpr ⟨q_916, List.forall_mem_cons.mpr ⟨q_918, List.forall_mem_cons.mpr ⟨q_920, fun _ h => nomatch h⟩⟩⟩⟩
theorem cl_12 : CL[12]? = some (RJ0, TJ0, 4) := rfl
theorem in_12 : ∀ w ∈ u_ws RJ0 TJ0 4, w ∈ W0 := List.forall_mem_cons.mpr ⟨q_1149, List.forall_mem_cons.mpr ⟨q_1151, List.forall_mem_cons.mpr ⟨q_1153, List.forall_mem_cons.mpr ⟨q_1155, fun _ h => nomatch h⟩⟩⟩⟩
def ent (ad : Nat → Nat) (cI cM : ClassId) (f : Nat → Int32) (k : Nat) : va_E := match kd k with
  | 0 => .inr (0, [.int (f 0)])
  | 1 => .inr (1, [.ref (ad (k + 1)), .ref (ad (k + 3)), .ref (ad (k + 5))])
  | 2 => .inr (2, [.ref (ad (k + 1)), .int (f 1), .int (f 2), .int (f 3)])
  | 3 => .inr (3, [.ref (ad (k + 1)), .ref (ad (k + 3)), .ref (ad (k + 5)), .ref (ad (k + 7)), .ref (ad (k + 14)), .ref (ad (k + 16)), .ref (ad (k + 18))])
  | 4 => .inr (4, [.ref (ad (k + 1)), .ref (ad (k + 3)), .ref (ad (k + 5)), .ref (ad (k + 7)), .ref (ad (k + 9)), .ref (ad (k + 11)), .int (f 6), .int (f 7), .int (f 8), .int (f 9)])
  | 5 => .inr (5, [.ref (ad (k + 1)), .int (f 1), .int (f 2)])
  | 6 => .inr (6, [.ref (ad (k + 1))])
  | 7 => .inr (7, [.ref (ad (k + 1))])
  | 8 => .inr (8, [.ref (ad 1), .ref (ad 10), .ref (ad 12), .ref (ad 14), .ref (ad 15), .ref (ad 35), .ref (ad 48), .ref (ad 51), .ref (ad 53), .ref (ad 55), .ref (ad 57), .int (f 11), .int (f 12), .int (f 13)])
  | 9 => .inl (cI, tl k, .inl f)
  | _ => .inl (cM, 4, .inr (.inr (.inr (.inr (fun j => some (ad (2 + 2 * j)))))))
theorem ent_0 {ad : Nat → Nat} {cI cM : ClassId} {f : Nat → Int32} {k : Nat} (h : kd k = 0) : ent ad cI cM f k = .inr (0, [.int (f 0)]) := by unfold ent; rw [h]; rfl
theorem ent_1 {ad : Nat → Nat} {cI cM : ClassId} {f : Nat → Int32} {k : Nat} (h : kd k = 1) : ent ad cI cM f k = .inr (1, [.ref (ad (k + 1)), .ref (ad (k + 3)), .ref (ad (k + 5))]) := by unfold ent; rw [h]; rfl
theorem ent_2 {ad : Nat → Nat} {cI cM : ClassId} {f : Nat → Int32} {k : Nat} (h : kd k = 2) : ent ad cI cM f k = .inr (2, [.ref (ad (k + 1)), .int (f 1), .int (f 2), .int (f 3)]) := by unfold ent; rw [h]; rfl
theorem ent_3 {ad : Nat → Nat} {cI cM : ClassId} {f : Nat → Int32} {k : Nat} (h : kd k = 3) : ent ad cI cM f k = .inr (3, [.ref (ad (k + 1)), .ref (ad (k + 3)), .ref (ad (k + 5)), .ref (ad (k + 7)), .ref (ad (k + 14)), .ref (ad (k + 16)), .ref (ad (k + 18))]) := by unfold ent; rw [h]; rfl
theorem ent_4 {ad : Nat → Nat} {cI cM : ClassId} {f : Nat → Int32} {k : Nat} (h : kd k = 4) : ent ad cI cM f k = .inr (4, [.ref (ad (k + 1)), .ref (ad (k + 3)), .ref (ad (k + 5)), .ref (ad (k + 7)), .ref (ad (k + 9)), .ref (ad (k + 11)), .int (f 6), .int (f 7), .int (f 8), .int (f 9)]) := by unfold ent; rw [h]; rfl
theorem ent_5 {ad : Nat → Nat} {cI cM : ClassId} {f : Nat → Int32} {k : Nat} (h : kd k = 5) : ent ad cI cM f k = .inr (5, [.ref (ad (k + 1)), .int (f 1), .int (f 2)]) := by unfold ent; rw [h]; rfl
theorem ent_6 {ad : Nat → Nat} {cI cM : ClassId} {f : Nat → Int32} {k : Nat} (h : kd k = 6) : ent ad cI cM f k = .inr (6, [.ref (ad (k + 1))]) := by unfold ent; rw [h]; rfl
theorem ent_7 {ad : Nat → Nat} {cI cM : ClassId} {f : Nat → Int32} {k : Nat} (h : kd k = 7) : ent ad cI cM f k = .inr (7, [.ref (ad (k + 1))]) := by unfold ent; rw [h]; rfl
theorem ent_8 {ad : Nat → Nat} {cI cM : ClassId} {f : Nat → Int32} {k : Nat} (h : kd k = 8) : ent ad cI cM f k = .inr (8, [.ref (ad 1), .ref (ad 10), .ref (ad 12), .ref (ad 14), .ref (ad 15), .ref (ad 35), .ref (ad 48), .ref (ad 51), .ref (ad 53), .ref (ad 55), .ref (ad 57), .int (f 11), .int (f 12), .int (f 13)]) := by unfold ent; rw [h]; rfl
theorem ent_9 {ad : Nat → Nat} {cI cM : ClassId} {f : Nat → Int32} {k : Nat} (h : kd k = 9) : ent ad cI cM f k = .inl (cI, tl k, .inl f) := by unfold ent; rw [h]; rfl
theorem ent_10 {ad : Nat → Nat} {cI cM : ClassId} {f : Nat → Int32} {k : Nat} (h : kd k = 10) : ent ad cI cM f k = .inl (cM, 4, .inr (.inr (.inr (.inr (fun j => some (ad (2 + 2 * j))))))) := by unfold ent; rw [h]; rfl
theorem kd_lt {k : Nat} (h : kd k < 99) : k < 59 := by
  rcases Nat.lt_or_ge k 59 with q | q
  · exact q
  · have e : kd k = 99 := by unfold kd; rw [List.getD_eq_getElem?_getD, List.getElem?_eq_none (show tkl.length ≤ k from q)]; rfl
    omega
theorem kd_2a : ∀ k, k < 59 → kd k = 2 → kd (k + 1) = 9 := by decide +kernel
theorem kd_5a : ∀ k, k < 59 → kd k = 5 → kd (k + 1) = 9 := by decide +kernel
theorem kd_6a : ∀ k, k < 59 → kd k = 6 → kd (k + 1) = 9 := by decide +kernel
theorem kd_ma : ∀ j, j < 4 → kd (2 + 2 * j) = 2 := by decide +kernel
theorem ka_2 {k : Nat} (h : kd k = 2) : kd (k + 1) = 9 := kd_2a k (kd_lt (by omega)) h
theorem ka_5 {k : Nat} (h : kd k = 5) : kd (k + 1) = 9 := kd_5a k (kd_lt (by omega)) h
theorem ka_6 {k : Nat} (h : kd k = 6) : kd (k + 1) = 9 := kd_6a k (kd_lt (by omega)) h
theorem ka_25 {k : Nat} (h : kd k = 2 ∨ kd k = 5) : kd (k + 1) = 9 := h.elim ka_2 ka_5
def TRX (ad : Nat → Nat) (cI cM : ClassId) (μ : TMem) : va_W := (List.range 59).map fun k => (ad k, ent ad cI cM (μ k) k)
theorem TRX_at {ad : Nat → Nat} {cI cM : ClassId} {μ : TMem} {k : Nat} (hk : k < 59) : (TRX ad cI cM μ)[k]? = some (ad k, ent ad cI cM (μ k) k) := by
  simp [TRX, List.getElem?_map, List.getElem?_range hk]
theorem TRX_of {ad : Nat → Nat} {cI cM : ClassId} {μ : TMem} {k : Nat} {x : Nat × va_E} (h : (TRX ad cI cM μ)[k]? = some x) : k < 59 ∧ x = (ad k, ent ad cI cM (μ k) k) := by
  rcases Nat.lt_or_ge k 59 with q | q
  · rw [TRX_at q] at h
    exact ⟨q, (Option.some.inj h).symm⟩
  · rw [List.getElem?_eq_none (by simp [TRX]; exact q)] at h
    cases h
theorem TRX_set {ad : Nat → Nat} {cI cM : ClassId} {μ : TMem} {k i : Nat} {v : Int32} (hk : k < 59) : (TRX ad cI cM μ).set k (ad k, ent ad cI cM (upd (μ k) i v) k) = TRX ad cI cM (tms μ k i v) := by
  apply List.ext_getElem?
  intro j
  by_cases hj : j < 59
  · by_cases e : k = j
    · subst e
      rw [TRX_at hk, List.getElem?_set_self (by simp [TRX]; exact hk)]
      simp [tms]
    · rw [List.getElem?_set_ne e, TRX_at hj, TRX_at hj]
      simp [tms, Ne.symm e]
  · rw [List.getElem?_eq_none (by simp [TRX]; omega), List.getElem?_eq_none (by simp [TRX]; omega)]
def TK (D : va_G) (cI cM : ClassId) (U : State) : Prop := va_K D CL [(cI, .int), (cM, .object "Leastreader$Machine")] U
def TA (ad : Nat → Nat) (sz : Nat) : Nat → Prop := fun q => (∃ k : Nat, k < 59 ∧ q = ad k) ∨ sz ≤ q
def TI (ad : Nat → Nat) : Prop := ∀ i j : Nat, i < 59 → j < 59 → ad i = ad j → i = j
theorem TI.D {ad : Nat → Nat} {cI cM : ClassId} {μ : TMem} {sz : Nat} (h : TI ad) : va_D (TA ad sz) (TRX ad cI cM μ) := by
  refine ⟨fun i j x y hx hy e => ?_, fun k x hx => ?_⟩
  · obtain ⟨h1, rfl⟩ := TRX_of hx
    obtain ⟨h2, rfl⟩ := TRX_of hy
    exact h i j h1 h2 e
  · obtain ⟨h1, rfl⟩ := TRX_of hx
    exact Or.inl ⟨k, h1, rfl⟩
/-- the class's world in a walk: its cells, what changed since the entry -/
def TW (D : va_G) (ad : Nat → Nat) (cI cM : ClassId) (s : State) (μ : TMem) (H : Heap) (locs : List Loc) : Prop := va_P D CL (TRX ad cI cM μ) H ∧ TI ad ∧ va_S (TA ad s.heap.size) s.heap H locs
def TB (D : va_G) (ad : Nat → Nat) (cI cM : ClassId) (sz : Nat) (μ : TMem) : State → Prop := fun U => U.heap.size = sz ∧ va_P D CL (TRX ad cI cM μ) U.heap ∧ TK D cI cM U ∧ TI ad ∧ NW U
def TE (D : va_G) (ad : Nat → Nat) (cI cM : ClassId) : TMem → State → Prop := fun μ t => va_P D CL (TRX ad cI cM μ) t.heap
def isB (v : Int32) : Prop := v = 0 ∨ v = 1
theorem isB_n {v : Int32} (h : isB v) : narrow .boolean (.int v) = .int v := by rcases h with rfl | rfl <;> rfl
abbrev RM (h : Nat) : Room := { frames := h, cells := 0, slots := 0, locals := 40 * h }
variable {p : Program} {l : Launch} {e : Env} {R : Room} {s : State} {m : MethodId} {args : Array Value} {below : List Frame} {meth : Method} {c : Code} {H : Heap} {locs : List Loc} {cells slots : Nat} {Q : State → Prop}
variable {cc : ByteArray} {pc : Nat} {ls : Array Slot} {rest : List Value} {D : va_G} {ad : Nat → Nat} {cI cM : ClassId} {μ : TMem} {k : Nat}
theorem t_get (hexec : p.tables.exec = Jvm.exec) (hb : c.code = cc) (ht : ∀ w ∈ W0, w.before args s = true) {own ref C : String} {T : u_T} {N ci index i : Nat} (hin : ∀ w ∈ u_ws C T N, w ∈ W0) (hown : s.vm.findClass own = some m.cls) (hK : TK D cI cM s) (hw : TW D ad cI cM s μ H locs) (hk : k < 59) {fs : List Value} (he : ent ad cI cM (μ k) k = .inr (ci, fs)) (hc : CL[ci]? = some (C, T, N)) (hi : i < N) (hlink : (Cond.fieldLink own index ref (T i).2.1 (T i).2.2.1).before args s = true) (hsame : ∀ x, s.fieldFound? (T i).1 (T i).2.1 (T i).2.2.1 = some x → s.fieldFound? ref (T i).2.1 (T i).2.2.1 = some x) {v : Value} (hv : fs[i]? = some v) (hdg : decode cc pc = .ok (.getfield index, 3))
    (kk : W p l e R s m args below meth c H locs cells slots Q (F0 m (pc + 3) ls (v :: rest))) : W p l e R s m args below meth c H locs cells slots Q (F0 m pc ls (.ref (ad k) :: rest)) :=
  va_get hexec hb ht hin hown hK hw.1 k (by rw [TRX_at hk, he]) hc i hi hlink hsame hv hdg kk
theorem t_getN (hexec : p.tables.exec = Jvm.exec) (hb : c.code = cc) (ht : ∀ w ∈ W0, w.before args s = true) {own ref C host : String} {T : u_T} {N ci index i : Nat} (hin : ∀ w ∈ u_ws C T N, w ∈ W0) (hown : s.vm.findClass own = some m.cls) (hK : TK D cI cM s) (hw : TW D ad cI cM s μ H locs) (hk : k < 59) {fs : List Value} (he : ent ad cI cM (μ k) k = .inr (ci, fs)) (hc : CL[ci]? = some (C, T, N)) (hi : i < N) (hlink : (Cond.fieldLinkNest own index ref (T i).2.1 (T i).2.2.1 host).before args s = true) (hsame : ∀ x, s.fieldFound? (T i).1 (T i).2.1 (T i).2.2.1 = some x → s.fieldFound? ref (T i).2.1 (T i).2.2.1 = some x) {v : Value} (hv : fs[i]? = some v) (hdg : decode cc pc = .ok (.getfield index, 3))
    (kk : W p l e R s m args below meth c H locs cells slots Q (F0 m (pc + 3) ls (v :: rest))) : W p l e R s m args below meth c H locs cells slots Q (F0 m pc ls (.ref (ad k) :: rest)) :=
  va_getN hexec hb ht hin hown hK hw.1 k (by rw [TRX_at hk, he]) hc i hi hlink hsame hv hdg kk
theorem t_put (hexec : p.tables.exec = Jvm.exec) (hb : c.code = cc) (ht : ∀ w ∈ W0, w.before args s = true) {own ref C : String} {T : u_T} {N ci index i : Nat} (hin : ∀ w ∈ u_ws C T N, w ∈ W0) (ty0 : Nat → FieldType) (hty : ∀ k, k < N → parseFieldDescriptor (T k).2.2.1 = some (ty0 k)) (hnm : ∀ a, a < N → ∀ b, b < N → a ≠ b → (T a).2.1 ≠ (T b).2.1) (hown : s.vm.findClass own = some m.cls) (hK : TK D cI cM s) (hw : TW D ad cI cM s μ H locs) (hk : k < 59) {fs : List Value} (he : ent ad cI cM (μ k) k = .inr (ci, fs)) (hc : CL[ci]? = some (C, T, N)) (hi : i < N) (hlink : (Cond.fieldLink own index ref (T i).2.1 (T i).2.2.1).before args s = true) (hsame : ∀ x, s.fieldFound? (T i).1 (T i).2.1 (T i).2.2.1 = some x → s.fieldFound? ref (T i).2.1 (T i).2.2.1 = some x) (hfin : (T i).2.2.2 = false) {v : Int32} (hd : parseFieldDescriptor (T i).2.2.1 = some .int) (hl : i < fs.length) (he2 : ent ad cI cM (upd (μ k) i v) k = .inr (ci, fs.set i (.int v))) (hdg : decode cc pc = .ok (.putfield index, 3))
    (kk : ∀ (H1 : Heap) (locs1 : List Loc), TW D ad cI cM s (tms μ k i v) H1 locs1 → W p l e R s m args below meth c H1 locs1 cells slots Q (F0 m (pc + 3) ls rest)) : W p l e R s m args below meth c H locs cells slots Q (F0 m pc ls (.int v :: .ref (ad k) :: rest)) := by
  refine va_put hexec hb ht hin ty0 hty hnm hown hK hw.1 (hw.2.1.D (cI := cI) (cM := cM) (μ := μ)) hw.2.2 k (by rw [TRX_at hk, he]) hc i hi hlink hsame hfin hd rfl rfl hl hdg (fun H1 locs1 hP _ hS => ?_)
  rw [← he2, TRX_set hk] at hP
  exact kk H1 locs1 ⟨hP, hw.2.1, hS⟩
theorem t_putN (hexec : p.tables.exec = Jvm.exec) (hb : c.code = cc) (ht : ∀ w ∈ W0, w.before args s = true) {own ref C host : String} {T : u_T} {N ci index i : Nat} (hin : ∀ w ∈ u_ws C T N, w ∈ W0) (ty0 : Nat → FieldType) (hty : ∀ k, k < N → parseFieldDescriptor (T k).2.2.1 = some (ty0 k)) (hnm : ∀ a, a < N → ∀ b, b < N → a ≠ b → (T a).2.1 ≠ (T b).2.1) (hown : s.vm.findClass own = some m.cls) (hK : TK D cI cM s) (hw : TW D ad cI cM s μ H locs) (hk : k < 59) {fs : List Value} (he : ent ad cI cM (μ k) k = .inr (ci, fs)) (hc : CL[ci]? = some (C, T, N)) (hi : i < N) (hlink : (Cond.fieldLinkNest own index ref (T i).2.1 (T i).2.2.1 host).before args s = true) (hsame : ∀ x, s.fieldFound? (T i).1 (T i).2.1 (T i).2.2.1 = some x → s.fieldFound? ref (T i).2.1 (T i).2.2.1 = some x) (hfin : (T i).2.2.2 = false) {v : Int32} (hd : parseFieldDescriptor (T i).2.2.1 = some .int) (hl : i < fs.length) (he2 : ent ad cI cM (upd (μ k) i v) k = .inr (ci, fs.set i (.int v))) (hdg : decode cc pc = .ok (.putfield index, 3))
    (kk : ∀ (H1 : Heap) (locs1 : List Loc), TW D ad cI cM s (tms μ k i v) H1 locs1 → W p l e R s m args below meth c H1 locs1 cells slots Q (F0 m (pc + 3) ls rest)) : W p l e R s m args below meth c H locs cells slots Q (F0 m pc ls (.int v :: .ref (ad k) :: rest)) := by
  refine va_putN hexec hb ht hin ty0 hty hnm hown hK hw.1 (hw.2.1.D (cI := cI) (cM := cM) (μ := μ)) hw.2.2 k (by rw [TRX_at hk, he]) hc i hi hlink hsame hfin hd rfl rfl hl hdg (fun H1 locs1 hP _ hS => ?_)
  rw [← he2, TRX_set hk] at hP
  exact kk H1 locs1 ⟨hP, hw.2.1, hS⟩
theorem t_iald (hexec : p.tables.exec = Jvm.exec) (hb : c.code = cc) (hK : TK D cI cM s) (hw : TW D ad cI cM s μ H locs) (hk : kd k = 9) {i : Int32} (hin : vp_in i (tl k)) (hdg : decode cc pc = .ok (.iaload, 1))
    (kk : W p l e R s m args below meth c H locs cells slots Q (F0 m (pc + 1) ls (.int (μ k i.toNatClampNeg) :: rest))) : W p l e R s m args below meth c H locs cells slots Q (F0 m pc ls (.int i :: .ref (ad k) :: rest)) :=
  va_iald hexec hb hK hw.1 k 0 (by rw [TRX_at (kd_lt (by omega)), ent_9 hk]) rfl hin hdg kk
theorem t_iast (hexec : p.tables.exec = Jvm.exec) (hb : c.code = cc) (hK : TK D cI cM s) (hw : TW D ad cI cM s μ H locs) (hk : kd k = 9) {i x : Int32} (hin : vp_in i (tl k)) (hdg : decode cc pc = .ok (.iastore, 1))
    (kk : ∀ (H1 : Heap) (locs1 : List Loc), TW D ad cI cM s (tms μ k i.toNatClampNeg x) H1 locs1 → W p l e R s m args below meth c H1 locs1 cells slots Q (F0 m (pc + 1) ls rest)) : W p l e R s m args below meth c H locs cells slots Q (F0 m pc ls (.int x :: .int i :: .ref (ad k) :: rest)) := by
  have hk5 : k < 59 := kd_lt (by omega)
  refine va_iast hexec hb hK hw.1 (hw.2.1.D (cI := cI) (cM := cM) (μ := μ)) hw.2.2 k 0 (f := μ k) (by rw [TRX_at hk5, ent_9 hk]) rfl hin hdg (fun H1 locs1 hP _ hS => ?_)
  rw [← ent_9 (ad := ad) (cI := cI) (cM := cM) (f := upd (μ k) i.toNatClampNeg x) hk, TRX_set hk5] at hP
  exact kk H1 locs1 ⟨hP, hw.2.1, hS⟩
theorem t_alen (hexec : p.tables.exec = Jvm.exec) (hb : c.code = cc) (hK : TK D cI cM s) (hw : TW D ad cI cM s μ H locs) (hk : kd k = 9) (hdg : decode cc pc = .ok (.arraylength, 1))
    (kk : W p l e R s m args below meth c H locs cells slots Q (F0 m (pc + 1) ls (.int (nI (tl k)) :: rest))) : W p l e R s m args below meth c H locs cells slots Q (F0 m pc ls (.ref (ad k) :: rest)) :=
  va_alen hexec hb hK hw.1 k 0 (x := (tl k, .inl (μ k))) (by rw [TRX_at (kd_lt (by omega)), ent_9 hk]) rfl rfl hdg kk
theorem t_mlen (hexec : p.tables.exec = Jvm.exec) (hb : c.code = cc) (hK : TK D cI cM s) (hw : TW D ad cI cM s μ H locs) (hdg : decode cc pc = .ok (.arraylength, 1))
    (kk : W p l e R s m args below meth c H locs cells slots Q (F0 m (pc + 1) ls (.int 4 :: rest))) : W p l e R s m args below meth c H locs cells slots Q (F0 m pc ls (.ref (ad 1) :: rest)) :=
  va_alen hexec hb hK hw.1 1 1 (x := (4, .inr (.inr (.inr (.inr (fun j => some (ad (2 + 2 * j)))))))) (by rw [TRX_at (by decide), ent_10 rfl]) rfl rfl hdg kk
theorem t_ald (hexec : p.tables.exec = Jvm.exec) (hb : c.code = cc) (hK : TK D cI cM s) (hw : TW D ad cI cM s μ H locs) {i : Int32} (hin : vp_in i 4) (hdg : decode cc pc = .ok (.aaload, 1))
    (kk : W p l e R s m args below meth c H locs cells slots Q (F0 m (pc + 1) ls (.ref (ad (2 + 2 * i.toNatClampNeg)) :: rest))) : W p l e R s m args below meth c H locs cells slots Q (F0 m pc ls (.int i :: .ref (ad 1) :: rest)) :=
  va_aldq hexec hb hK hw.1 1 1 (f := fun j => some (ad (2 + 2 * j))) (by rw [TRX_at (by decide), ent_10 rfl]) rfl hin hdg kk
theorem TB.blind {as : List Value} {sz : Nat} : FrameBlind (va_Pc as (TB D ad cI cM sz μ)) := fun a U g mk q => by
  obtain ⟨q0, q1, qP, qK, qI, qN⟩ := q
  exact ⟨q0, q1, qP, va_K.moved (u := U) (U := U.calling g mk a) (Vm.Alike.refl U.vm) qK, qI, NW.same (s := U) rfl qN⟩
theorem TB.pre {as : List Value} (hK : TK D cI cM s) (hN : NW s) (hw : TW D ad cI cM s μ H locs) : ∀ U : State, U.heap = H → s.WarmedH U.vm → va_Pc as (TB D ad cI cM H.size μ) as.toArray U := fun U hU hW => ⟨rfl, by rw [hU], by rw [hU]; exact hw.1, va_K.moved hW.alike hK, hw.2.1, NW.warm hW hN⟩
theorem T_recv (hK : TK D cI cM s) (hw : TW D ad cI cM s μ H locs) (hk : k < 59) {fs : List Value} {ci : Nat} {q : vw_C} (he : ent ad cI cM (μ k) k = .inr (ci, fs)) (hc : CL[ci]? = some q) : ∃ cell : Cell, H[ad k]? = some cell ∧ cell.vm.isStatics = false ∧ s.vm.findClass q.1 = some cell.cls := va_recv hK hw.1 hc (q0 := k) (by rw [TRX_at hk, he])
theorem TA.up {sz1 sz2 : Nat} (h : sz1 ≤ sz2) : ∀ q, TA ad sz2 q → TA ad sz1 q := fun q h9 => h9.elim Or.inl (fun z => Or.inr (Nat.le_trans h z))
theorem T_calli {Q1 : Int32 → TMem → Prop} {st0 : List Value} {a : Array Value} (hw : TW D ad cI cM s μ H locs) (hr : va_Run p l e R s m args below meth c H locs cells slots 0 0 (F0 m pc ls st0) rest (va_Qi Q1 (TE D ad cI cM) (TA ad H.size) a) (TA ad H.size))
    (kk : ∀ (r : Int32) (μ1 : TMem) (H1 : Heap) (locs1 : List Loc), Q1 r μ1 → TW D ad cI cM s μ1 H1 locs1 → W p l e R s m args below meth c H1 locs1 cells slots Q (F0 m (pc + 3) ls (.int r :: rest))) : W p l e R s m args below meth c H locs cells slots Q (F0 m pc ls st0) :=
  va_calli hr hw.2.2 (fun q _ h => TA.up hw.2.2.1 q h) (fun q h => TA.up hw.2.2.1 q h) (fun r u t H1 locs1 ht _ hq hB _ _ hS => kk r u H1 locs1 hq ⟨by rw [← ht]; exact hB, hw.2.1, hS⟩)
theorem T_calll {Q1 : Int64 → TMem → Prop} {st0 : List Value} {a : Array Value} (hw : TW D ad cI cM s μ H locs) (hr : va_Run p l e R s m args below meth c H locs cells slots 0 0 (F0 m pc ls st0) rest (va_Ql Q1 (TE D ad cI cM) (TA ad H.size) a) (TA ad H.size))
    (kk : ∀ (r : Int64) (μ1 : TMem) (H1 : Heap) (locs1 : List Loc), Q1 r μ1 → TW D ad cI cM s μ1 H1 locs1 → W p l e R s m args below meth c H1 locs1 cells slots Q (F0 m (pc + 3) ls (.long r :: rest))) : W p l e R s m args below meth c H locs cells slots Q (F0 m pc ls st0) :=
  va_calll hr hw.2.2 (fun q _ h => TA.up hw.2.2.1 q h) (fun q h => TA.up hw.2.2.1 q h) (fun r u t H1 locs1 ht _ hq hB _ _ hS => kk r u H1 locs1 hq ⟨by rw [← ht]; exact hB, hw.2.1, hS⟩)
theorem T_callv {Q1 : TMem → Prop} {st0 : List Value} {a : Array Value} (hw : TW D ad cI cM s μ H locs) (hr : va_Run p l e R s m args below meth c H locs cells slots 0 0 (F0 m pc ls st0) rest (va_Qv Q1 (TE D ad cI cM) (TA ad H.size) a) (TA ad H.size))
    (kk : ∀ (μ1 : TMem) (H1 : Heap) (locs1 : List Loc), Q1 μ1 → TW D ad cI cM s μ1 H1 locs1 → W p l e R s m args below meth c H1 locs1 cells slots Q (F0 m (pc + 3) ls (rest))) : W p l e R s m args below meth c H locs cells slots Q (F0 m pc ls st0) :=
  va_callv hr hw.2.2 (fun q _ h => TA.up hw.2.2.1 q h) (fun q h => TA.up hw.2.2.1 q h) (fun u t H1 locs1 ht _ hq hB _ _ hS => kk u H1 locs1 hq ⟨by rw [← ht]; exact hB, hw.2.1, hS⟩)
theorem P_calli {Q1 : Int32 → Prop} {st0 : List Value} {a : Array Value} (hr : va_Run p l e R s m args below meth c H locs cells slots 0 0 (F0 m pc ls st0) rest (vp_Si Q1 a) (fun _ => False))
    (kk : ∀ r : Int32, Q1 r → W p l e R s m args below meth c H locs cells slots Q (F0 m (pc + 3) ls (.int r :: rest))) : W p l e R s m args below meth c H locs cells slots Q (F0 m pc ls st0) := by
  intro T hT X
  obtain ⟨v, st₀, t, T', L, h0, X', hL, e1, e2, ⟨r, hv, hp, hh⟩, st⟩ := hr T hT X
  cases hv
  obtain ⟨t2, a1, b1⟩ := kk r hp T' (by rw [e1, hh, h0]) (Stand.forget X' (fun q h => (hL q h).elim))
  exact ⟨t2, st t2 a1, b1⟩
end TLB
/-- contracts of the class's methods: over its whole tree -/
def TMi (l : Launch) (y : MethodName) (cd : Cond) (h : Nat) (as : List Value) (D : va_G) (ad : Nat → Nat) (cI cM : ClassId) (sz : Nat) (μ : TMem) (Q : Int32 → TMem → Prop) : Prop := Met l y (cd :: W0) (RM h) (va_Pc as (TB D ad cI cM sz μ)) (va_Qi Q (TE D ad cI cM) (TA ad sz)) 0 0 (TA ad sz)
def TMl (l : Launch) (y : MethodName) (cd : Cond) (h : Nat) (as : List Value) (D : va_G) (ad : Nat → Nat) (cI cM : ClassId) (sz : Nat) (μ : TMem) (Q : Int64 → TMem → Prop) : Prop := Met l y (cd :: W0) (RM h) (va_Pc as (TB D ad cI cM sz μ)) (va_Ql Q (TE D ad cI cM) (TA ad sz)) 0 0 (TA ad sz)
def TMv (l : Launch) (y : MethodName) (cd : Cond) (h : Nat) (as : List Value) (D : va_G) (ad : Nat → Nat) (cI cM : ClassId) (sz : Nat) (μ : TMem) (Q : TMem → Prop) : Prop := Met l y (cd :: W0) (RM h) (va_Pc as (TB D ad cI cM sz μ)) (va_Qv Q (TE D ad cI cM) (TA ad sz)) 0 0 (TA ad sz)
def PMi (l : Launch) (y : MethodName) (cd : Cond) (h : Nat) (as : List Value) (Q : Int32 → Prop) : Prop := Met l y (cd :: W0) (RM h) (va_Pc as (fun _ => True)) (vp_Si Q) 0 0 (fun _ => False)
theorem PM_blind {as : List Value} : FrameBlind (va_Pc as (fun _ => True)) := fun _ _ _ _ q => q
theorem PM_pre {as : List Value} {s : State} {H : Heap} : ∀ U : State, U.heap = H → s.WarmedH U.vm → va_Pc as (fun _ => True) as.toArray U := fun _ _ _ => ⟨rfl, trivial⟩
theorem T_meti {l : Launch} {y : MethodName} {bytes : ByteArray} {maxL : Nat} {ty : FieldType} {h : Nat} {as : List Value} {D : va_G} {ad : Nat → Nat} {cI cM : ClassId} {sz : Nat} {μ : TMem} {Q : Int32 → TMem → Prop} (hy : plainName y.cls = true) (hsl : (lg_sl as).length ≤ maxL)
    (body : ∀ (p : Program) (e : Env) (s : State) (m : MethodId) (below : List Frame) (meth : Method) (c : Code) (Z : State → Prop) (ls : Array Slot), p.tables.exec = Jvm.exec → c.code = bytes → c.maxLocals = maxL → s.vm.findClass y.cls = some m.cls → (∀ w ∈ W0, w.before as.toArray s = true) → NW s → TK D cI cM s → TW D ad cI cM s μ s.heap [] →
      (∀ (H : Heap) (locs : List Loc) (ls : Array Slot) (pc : Nat) (v : Int32) (μ1 : TMem), TW D ad cI cM s μ1 H locs → Q v μ1 → narrow ty (.int v) = .int v → decode bytes pc = .ok (.ireturn, 1) → W p l e (RM h) s m as.toArray below meth c H locs 0 0 Z (F0 m pc ls [.int v])) → lv_has ls maxL (lv_args 0 as) →
      W p l e (RM h) s m as.toArray below meth c s.heap [] 0 0 Z (F0 m 0 ls [])) : TMi l y (.code y bytes maxL (some ty)) h as D ad cI cM sz μ Q := by
  refine Met.ofW (cc := bytes) (maxL := maxL) (ret := (some ty)) hy rfl ?_
  intro p e s m args below meth c s₁ B hml hv
  obtain ⟨rfl, hsz, hP, hK, hI, hN⟩ := hv
  subst hsz
  have hts := atoms_spec B.pre
  have hlocks := B.notSynchronized
  rw [lg_entry_eq]
  refine body p e s m below meth c _ _ B.exec B.bytes hml (findClass_of_methodNamed B.named) (fun w hw => hts w (List.mem_cons_of_mem _ hw)) hN hK ⟨hP, hI, va_S.rf⟩ (fun H locs ls pc v μ1 hw hq hn hdg => ?_) (lv_entry as hsl)
  exact W.zret B.exec B.bytes B.returns hn (fun t ht9 hW => ⟨⟨v, μ1, rfl, hq, by rw [TE, ht9]; exact hw.1⟩, hw.2.2.F ht9⟩) hw.2.2.2.2 hdg hlocks
theorem T_metv {l : Launch} {y : MethodName} {bytes : ByteArray} {maxL : Nat} {h : Nat} {as : List Value} {D : va_G} {ad : Nat → Nat} {cI cM : ClassId} {sz : Nat} {μ : TMem} {Q : TMem → Prop} (hy : plainName y.cls = true) (hsl : (lg_sl as).length ≤ maxL)
    (body : ∀ (p : Program) (e : Env) (s : State) (m : MethodId) (below : List Frame) (meth : Method) (c : Code) (Z : State → Prop) (ls : Array Slot), p.tables.exec = Jvm.exec → c.code = bytes → c.maxLocals = maxL → s.vm.findClass y.cls = some m.cls → (∀ w ∈ W0, w.before as.toArray s = true) → NW s → TK D cI cM s → TW D ad cI cM s μ s.heap [] →
      (∀ (H : Heap) (locs : List Loc) (ls : Array Slot) (pc : Nat) (μ1 : TMem), TW D ad cI cM s μ1 H locs → Q μ1 → decode bytes pc = .ok (.return_, 1) → W p l e (RM h) s m as.toArray below meth c H locs 0 0 Z (F0 m pc ls [])) → lv_has ls maxL (lv_args 0 as) →
      W p l e (RM h) s m as.toArray below meth c s.heap [] 0 0 Z (F0 m 0 ls [])) : TMv l y (.code y bytes maxL none) h as D ad cI cM sz μ Q := by
  refine Met.ofW (cc := bytes) (maxL := maxL) (ret := none) hy rfl ?_
  intro p e s m args below meth c s₁ B hml hv
  obtain ⟨rfl, hsz, hP, hK, hI, hN⟩ := hv
  subst hsz
  have hts := atoms_spec B.pre
  have hlocks := B.notSynchronized
  rw [lg_entry_eq]
  refine body p e s m below meth c _ _ B.exec B.bytes hml (findClass_of_methodNamed B.named) (fun w hw => hts w (List.mem_cons_of_mem _ hw)) hN hK ⟨hP, hI, va_S.rf⟩ (fun H locs ls pc μ1 hw hq hdg => ?_) (lv_entry as hsl)
  exact W.vret B.exec B.bytes B.returns (fun t ht9 hW => ⟨⟨μ1, rfl, hq, by rw [TE, ht9]; exact hw.1⟩, hw.2.2.F ht9⟩) hw.2.2.2.2 hdg hlocks
theorem T_metl {l : Launch} {y : MethodName} {bytes : ByteArray} {maxL : Nat} {h : Nat} {as : List Value} {D : va_G} {ad : Nat → Nat} {cI cM : ClassId} {sz : Nat} {μ : TMem} {Q : Int64 → TMem → Prop} (hy : plainName y.cls = true) (hsl : (lg_sl as).length ≤ maxL)
    (body : ∀ (p : Program) (e : Env) (s : State) (m : MethodId) (below : List Frame) (meth : Method) (c : Code) (Z : State → Prop) (ls : Array Slot), p.tables.exec = Jvm.exec → c.code = bytes → c.maxLocals = maxL → s.vm.findClass y.cls = some m.cls → (∀ w ∈ W0, w.before as.toArray s = true) → NW s → TK D cI cM s → TW D ad cI cM s μ s.heap [] →
      (∀ (H : Heap) (locs : List Loc) (ls : Array Slot) (pc : Nat) (v : Int64) (μ1 : TMem), TW D ad cI cM s μ1 H locs → Q v μ1 → decode bytes pc = .ok (.lreturn, 1) → W p l e (RM h) s m as.toArray below meth c H locs 0 0 Z (F0 m pc ls [.long v])) → lv_has ls maxL (lv_args 0 as) →
      W p l e (RM h) s m as.toArray below meth c s.heap [] 0 0 Z (F0 m 0 ls [])) : TMl l y (.code y bytes maxL (some .long)) h as D ad cI cM sz μ Q := by
  refine Met.ofW (cc := bytes) (maxL := maxL) (ret := (some .long)) hy rfl ?_
  intro p e s m args below meth c s₁ B hml hv
  obtain ⟨rfl, hsz, hP, hK, hI, hN⟩ := hv
  subst hsz
  have hts := atoms_spec B.pre
  have hlocks := B.notSynchronized
  rw [lg_entry_eq]
  refine body p e s m below meth c _ _ B.exec B.bytes hml (findClass_of_methodNamed B.named) (fun w hw => hts w (List.mem_cons_of_mem _ hw)) hN hK ⟨hP, hI, va_S.rf⟩ (fun H locs ls pc v μ1 hw hq hdg => ?_) (lv_entry as hsl)
  exact W.lret B.exec B.bytes B.returns (fun t ht9 hW => ⟨⟨v, μ1, rfl, hq, by rw [TE, ht9]; exact hw.1⟩, hw.2.2.F ht9⟩) hw.2.2.2.2 hdg hlocks
theorem P_meti {l : Launch} {y : MethodName} {bytes : ByteArray} {maxL : Nat} {ty : FieldType} {h : Nat} {as : List Value} {Q : Int32 → Prop} (hy : plainName y.cls = true) (hsl : (lg_sl as).length ≤ maxL)
    (body : ∀ (p : Program) (e : Env) (s : State) (m : MethodId) (below : List Frame) (meth : Method) (c : Code) (Z : State → Prop) (ls : Array Slot), p.tables.exec = Jvm.exec → c.code = bytes → c.maxLocals = maxL → s.vm.findClass y.cls = some m.cls → (∀ w ∈ W0, w.before as.toArray s = true) →
      (∀ (ls : Array Slot) (pc : Nat) (v : Int32), Q v → narrow ty (.int v) = .int v → decode bytes pc = .ok (.ireturn, 1) → W p l e (RM h) s m as.toArray below meth c s.heap [] 0 0 Z (F0 m pc ls [.int v])) → lv_has ls maxL (lv_args 0 as) →
      W p l e (RM h) s m as.toArray below meth c s.heap [] 0 0 Z (F0 m 0 ls [])) : PMi l y (.code y bytes maxL (some ty)) h as Q := by
  refine Met.ofW (cc := bytes) (maxL := maxL) (ret := some ty) hy rfl ?_
  intro p e s m args below meth c s₁ B hml hv
  obtain ⟨rfl, -⟩ := hv
  have hts := atoms_spec B.pre
  have hlocks := B.notSynchronized
  rw [lg_entry_eq]
  refine body p e s m below meth c _ _ B.exec B.bytes hml (findClass_of_methodNamed B.named) (fun w hw => hts w (List.mem_cons_of_mem _ hw)) (fun ls pc v hq hn hdg => ?_) (lv_entry as hsl)
  exact W.zret B.exec B.bytes B.returns hn (fun t ht9 hW => ⟨v, rfl, hq, ht9⟩) (fun _ h => nomatch h) hdg hlocks
end
/-! part 07.rows -/
section
section TFR
variable {p : Program} {l : Launch} {e : Env} {R : Room} {s : State} {m : MethodId} {args : Array Value} {below : List Frame} {meth : Method} {c : Code} {H : Heap} {locs : List Loc} {cells slots : Nat} {Q : State → Prop}
variable {cc : ByteArray} {pc : Nat} {ls : Array Slot} {rest : List Value} {D : va_G} {ad : Nat → Nat} {cI cM : ClassId} {μ : TMem} {k : Nat}
theorem gf_X2_9 (hx : p.tables.exec = Jvm.exec) (hb : c.code = cc) (ht : ∀ w ∈ W0, w.before args s = true) (hown : s.vm.findClass "Leastreader$Machine" = some m.cls) (hK : TK D cI cM s) (hw : TW D ad cI cM s μ H locs) (hk : kd k = 2) (hdg : decode cc pc = .ok (.getfield 9, 3)) (kk : W p l e R s m args below meth c H locs cells slots Q (F0 m (pc + 3) ls (.int (μ k 3) :: rest))) : W p l e R s m args below meth c H locs cells slots Q (F0 m pc ls (.ref (ad k) :: rest)) := t_get hx hb ht in_2 hown hK hw (kd_lt (by omega)) (ent_2 hk) cl_2 (i := 3) (by decide) (ht _ q_94) (fun _ h => h) rfl hdg kk
theorem pgf_X2_9 {v : Int32} (hx : p.tables.exec = Jvm.exec) (hb : c.code = cc) (ht : ∀ w ∈ W0, w.before args s = true) (hown : s.vm.findClass "Leastreader$Machine" = some m.cls) (hK : TK D cI cM s) (hw : TW D ad cI cM s μ H locs) (hk : kd k = 2) (hdg : decode cc pc = .ok (.putfield 9, 3)) (kk : ∀ (H1 : Heap) (locs1 : List Loc), TW D ad cI cM s (tms μ k 3 v) H1 locs1 → W p l e R s m args below meth c H1 locs1 cells slots Q (F0 m (pc + 3) ls rest)) : W p l e R s m args below meth c H locs cells slots Q (F0 m pc ls (.int v :: .ref (ad k) :: rest)) := t_put hx hb ht in_2 tyX2 tyX2_ok nmX2 hown hK hw (kd_lt (by omega)) (ent_2 hk) cl_2 (i := 3) (by decide) (ht _ q_94) (fun _ h => h) rfl rfl (Nat.le_of_ble_eq_true rfl) (ent_2 hk) hdg kk
theorem gf_X3_75 (hx : p.tables.exec = Jvm.exec) (hb : c.code = cc) (ht : ∀ w ∈ W0, w.before args s = true) (hN : NW s) (hown : s.vm.findClass "Leastreader$Maker" = some m.cls) (hK : TK D cI cM s) (hw : TW D ad cI cM s μ H locs) (hk : kd k = 2) (hdg : decode cc pc = .ok (.getfield 75, 3)) (kk : W p l e R s m args below meth c H locs cells slots Q (F0 m (pc + 3) ls (.int (μ k 3) :: rest))) : W p l e R s m args below meth c H locs cells slots Q (F0 m pc ls (.ref (ad k) :: rest)) := t_getN hx hb ht in_2 hown hK hw (kd_lt (by omega)) (ent_2 hk) cl_2 (i := 3) (by decide) (nwu_95 hN) (fun _ h => h) rfl hdg kk
theorem pgf_X3_75 {v : Int32} (hx : p.tables.exec = Jvm.exec) (hb : c.code = cc) (ht : ∀ w ∈ W0, w.before args s = true) (hN : NW s) (hown : s.vm.findClass "Leastreader$Maker" = some m.cls) (hK : TK D cI cM s) (hw : TW D ad cI cM s μ H locs) (hk : kd k = 2) (hdg : decode cc pc = .ok (.putfield 75, 3)) (kk : ∀ (H1 : Heap) (locs1 : List Loc), TW D ad cI cM s (tms μ k 3 v) H1 locs1 → W p l e R s m args below meth c H1 locs1 cells slots Q (F0 m (pc + 3) ls rest)) : W p l e R s m args below meth c H locs cells slots Q (F0 m pc ls (.int v :: .ref (ad k) :: rest)) := t_putN hx hb ht in_2 tyX2 tyX2_ok nmX2 hown hK hw (kd_lt (by omega)) (ent_2 hk) cl_2 (i := 3) (by decide) (nwu_95 hN) (fun _ h => h) rfl rfl (Nat.le_of_ble_eq_true rfl) (ent_2 hk) hdg kk
theorem gf_X9_115 (hx : p.tables.exec = Jvm.exec) (hb : c.code = cc) (ht : ∀ w ∈ W0, w.before args s = true) (hN : NW s) (hown : s.vm.findClass "Leastreader" = some m.cls) (hK : TK D cI cM s) (hw : TW D ad cI cM s μ H locs) (hk : kd k = 2) (hdg : decode cc pc = .ok (.getfield 115, 3)) (kk : W p l e R s m args below meth c H locs cells slots Q (F0 m (pc + 3) ls (.int (μ k 3) :: rest))) : W p l e R s m args below meth c H locs cells slots Q (F0 m pc ls (.ref (ad k) :: rest)) := t_getN hx hb ht in_2 hown hK hw (kd_lt (by omega)) (ent_2 hk) cl_2 (i := 3) (by decide) (nwu_96 hN) (fun _ h => h) rfl hdg kk
theorem pgf_X9_115 {v : Int32} (hx : p.tables.exec = Jvm.exec) (hb : c.code = cc) (ht : ∀ w ∈ W0, w.before args s = true) (hN : NW s) (hown : s.vm.findClass "Leastreader" = some m.cls) (hK : TK D cI cM s) (hw : TW D ad cI cM s μ H locs) (hk : kd k = 2) (hdg : decode cc pc = .ok (.putfield 115, 3)) (kk : ∀ (H1 : Heap) (locs1 : List Loc), TW D ad cI cM s (tms μ k 3 v) H1 locs1 → W p l e R s m args below meth c H1 locs1 cells slots Q (F0 m (pc + 3) ls rest)) : W p l e R s m args below meth c H locs cells slots Q (F0 m pc ls (.int v :: .ref (ad k) :: rest)) := t_putN hx hb ht in_2 tyX2 tyX2_ok nmX2 hown hK hw (kd_lt (by omega)) (ent_2 hk) cl_2 (i := 3) (by decide) (nwu_96 hN) (fun _ h => h) rfl rfl (Nat.le_of_ble_eq_true rfl) (ent_2 hk) hdg kk
theorem gf_X7_15 (hx : p.tables.exec = Jvm.exec) (hb : c.code = cc) (ht : ∀ w ∈ W0, w.before args s = true) (hown : s.vm.findClass "Leastreader$Table" = some m.cls) (hK : TK D cI cM s) (hw : TW D ad cI cM s μ H locs) (hk : kd k = 2 ∨ kd k = 5) (hdg : decode cc pc = .ok (.getfield 15, 3)) (kk : W p l e R s m args below meth c H locs cells slots Q (F0 m (pc + 3) ls (.ref (ad (k + 1)) :: rest))) : W p l e R s m args below meth c H locs cells slots Q (F0 m pc ls (.ref (ad k) :: rest)) := hk.elim (fun hk => t_get hx hb ht in_2 hown hK hw (kd_lt (by omega)) (ent_2 hk) cl_2 (i := 0) (by decide) (ht _ q_97) (fun _ h => h) rfl hdg kk) (fun hk => t_get hx hb ht in_5 hown hK hw (kd_lt (by omega)) (ent_5 hk) cl_5 (i := 0) (by decide) (ht _ q_97) (fun _ h => h) rfl hdg kk)
theorem gf_X7_9 (hx : p.tables.exec = Jvm.exec) (hb : c.code = cc) (ht : ∀ w ∈ W0, w.before args s = true) (hown : s.vm.findClass "Leastreader$Table" = some m.cls) (hK : TK D cI cM s) (hw : TW D ad cI cM s μ H locs) (hk : kd k = 2 ∨ kd k = 5) (hdg : decode cc pc = .ok (.getfield 9, 3)) (kk : W p l e R s m args below meth c H locs cells slots Q (F0 m (pc + 3) ls (.int (μ k 1) :: rest))) : W p l e R s m args below meth c H locs cells slots Q (F0 m pc ls (.ref (ad k) :: rest)) := hk.elim (fun hk => t_get hx hb ht in_2 hown hK hw (kd_lt (by omega)) (ent_2 hk) cl_2 (i := 1) (by decide) (ht _ q_98) (fun _ h => h) rfl hdg kk) (fun hk => t_get hx hb ht in_5 hown hK hw (kd_lt (by omega)) (ent_5 hk) cl_5 (i := 1) (by decide) (ht _ q_98) (fun _ h => h) rfl hdg kk)
theorem pgf_X7_9 {v : Int32} (hx : p.tables.exec = Jvm.exec) (hb : c.code = cc) (ht : ∀ w ∈ W0, w.before args s = true) (hown : s.vm.findClass "Leastreader$Table" = some m.cls) (hK : TK D cI cM s) (hw : TW D ad cI cM s μ H locs) (hk : kd k = 2 ∨ kd k = 5) (hdg : decode cc pc = .ok (.putfield 9, 3)) (kk : ∀ (H1 : Heap) (locs1 : List Loc), TW D ad cI cM s (tms μ k 1 v) H1 locs1 → W p l e R s m args below meth c H1 locs1 cells slots Q (F0 m (pc + 3) ls rest)) : W p l e R s m args below meth c H locs cells slots Q (F0 m pc ls (.int v :: .ref (ad k) :: rest)) := hk.elim (fun hk => t_put hx hb ht in_2 tyX2 tyX2_ok nmX2 hown hK hw (kd_lt (by omega)) (ent_2 hk) cl_2 (i := 1) (by decide) (ht _ q_98) (fun _ h => h) rfl rfl (Nat.le_of_ble_eq_true rfl) (ent_2 hk) hdg kk) (fun hk => t_put hx hb ht in_5 tyX5 tyX5_ok nmX5 hown hK hw (kd_lt (by omega)) (ent_5 hk) cl_5 (i := 1) (by decide) (ht _ q_98) (fun _ h => h) rfl rfl (Nat.le_of_ble_eq_true rfl) (ent_5 hk) hdg kk)
theorem gf_X2_15 (hx : p.tables.exec = Jvm.exec) (hb : c.code = cc) (ht : ∀ w ∈ W0, w.before args s = true) (hown : s.vm.findClass "Leastreader$Machine" = some m.cls) (hK : TK D cI cM s) (hw : TW D ad cI cM s μ H locs) (hk : kd k = 2) (hdg : decode cc pc = .ok (.getfield 15, 3)) (kk : W p l e R s m args below meth c H locs cells slots Q (F0 m (pc + 3) ls (.int (μ k 1) :: rest))) : W p l e R s m args below meth c H locs cells slots Q (F0 m pc ls (.ref (ad k) :: rest)) := t_get hx hb ht in_2 hown hK hw (kd_lt (by omega)) (ent_2 hk) cl_2 (i := 1) (by decide) (ht _ q_99) (fun x h => u_same (ht _ q_100) x h) rfl hdg kk
theorem pgf_X2_15 {v : Int32} (hx : p.tables.exec = Jvm.exec) (hb : c.code = cc) (ht : ∀ w ∈ W0, w.before args s = true) (hown : s.vm.findClass "Leastreader$Machine" = some m.cls) (hK : TK D cI cM s) (hw : TW D ad cI cM s μ H locs) (hk : kd k = 2) (hdg : decode cc pc = .ok (.putfield 15, 3)) (kk : ∀ (H1 : Heap) (locs1 : List Loc), TW D ad cI cM s (tms μ k 1 v) H1 locs1 → W p l e R s m args below meth c H1 locs1 cells slots Q (F0 m (pc + 3) ls rest)) : W p l e R s m args below meth c H locs cells slots Q (F0 m pc ls (.int v :: .ref (ad k) :: rest)) := t_put hx hb ht in_2 tyX2 tyX2_ok nmX2 hown hK hw (kd_lt (by omega)) (ent_2 hk) cl_2 (i := 1) (by decide) (ht _ q_99) (fun x h => u_same (ht _ q_100) x h) rfl rfl (Nat.le_of_ble_eq_true rfl) (ent_2 hk) hdg kk
theorem gf_X1_30 (hx : p.tables.exec = Jvm.exec) (hb : c.code = cc) (ht : ∀ w ∈ W0, w.before args s = true) (hown : s.vm.findClass "Leastreader$Likeness" = some m.cls) (hK : TK D cI cM s) (hw : TW D ad cI cM s μ H locs) (hk : kd k = 5) (hdg : decode cc pc = .ok (.getfield 30, 3)) (kk : W p l e R s m args below meth c H locs cells slots Q (F0 m (pc + 3) ls (.int (μ k 1) :: rest))) : W p l e R s m args below meth c H locs cells slots Q (F0 m pc ls (.ref (ad k) :: rest)) := t_get hx hb ht in_5 hown hK hw (kd_lt (by omega)) (ent_5 hk) cl_5 (i := 1) (by decide) (ht _ q_101) (fun x h => u_same (ht _ q_102) x h) rfl hdg kk
theorem pgf_X1_30 {v : Int32} (hx : p.tables.exec = Jvm.exec) (hb : c.code = cc) (ht : ∀ w ∈ W0, w.before args s = true) (hown : s.vm.findClass "Leastreader$Likeness" = some m.cls) (hK : TK D cI cM s) (hw : TW D ad cI cM s μ H locs) (hk : kd k = 5) (hdg : decode cc pc = .ok (.putfield 30, 3)) (kk : ∀ (H1 : Heap) (locs1 : List Loc), TW D ad cI cM s (tms μ k 1 v) H1 locs1 → W p l e R s m args below meth c H1 locs1 cells slots Q (F0 m (pc + 3) ls rest)) : W p l e R s m args below meth c H locs cells slots Q (F0 m pc ls (.int v :: .ref (ad k) :: rest)) := t_put hx hb ht in_5 tyX5 tyX5_ok nmX5 hown hK hw (kd_lt (by omega)) (ent_5 hk) cl_5 (i := 1) (by decide) (ht _ q_101) (fun x h => u_same (ht _ q_102) x h) rfl rfl (Nat.le_of_ble_eq_true rfl) (ent_5 hk) hdg kk
theorem gf_X8_24 (hx : p.tables.exec = Jvm.exec) (hb : c.code = cc) (ht : ∀ w ∈ W0, w.before args s = true) (hown : s.vm.findClass "Leastreader$Tails" = some m.cls) (hK : TK D cI cM s) (hw : TW D ad cI cM s μ H locs) (hk : kd k = 5) (hdg : decode cc pc = .ok (.getfield 24, 3)) (kk : W p l e R s m args below meth c H locs cells slots Q (F0 m (pc + 3) ls (.int (μ k 1) :: rest))) : W p l e R s m args below meth c H locs cells slots Q (F0 m pc ls (.ref (ad k) :: rest)) := t_get hx hb ht in_5 hown hK hw (kd_lt (by omega)) (ent_5 hk) cl_5 (i := 1) (by decide) (ht _ q_103) (fun x h => u_same (ht _ q_102) x h) rfl hdg kk
theorem pgf_X8_24 {v : Int32} (hx : p.tables.exec = Jvm.exec) (hb : c.code = cc) (ht : ∀ w ∈ W0, w.before args s = true) (hown : s.vm.findClass "Leastreader$Tails" = some m.cls) (hK : TK D cI cM s) (hw : TW D ad cI cM s μ H locs) (hk : kd k = 5) (hdg : decode cc pc = .ok (.putfield 24, 3)) (kk : ∀ (H1 : Heap) (locs1 : List Loc), TW D ad cI cM s (tms μ k 1 v) H1 locs1 → W p l e R s m args below meth c H1 locs1 cells slots Q (F0 m (pc + 3) ls rest)) : W p l e R s m args below meth c H locs cells slots Q (F0 m pc ls (.int v :: .ref (ad k) :: rest)) := t_put hx hb ht in_5 tyX5 tyX5_ok nmX5 hown hK hw (kd_lt (by omega)) (ent_5 hk) cl_5 (i := 1) (by decide) (ht _ q_103) (fun x h => u_same (ht _ q_102) x h) rfl rfl (Nat.le_of_ble_eq_true rfl) (ent_5 hk) hdg kk
theorem gf_X5_28 (hx : p.tables.exec = Jvm.exec) (hb : c.code = cc) (ht : ∀ w ∈ W0, w.before args s = true) (hown : s.vm.findClass "Leastreader$Plain" = some m.cls) (hK : TK D cI cM s) (hw : TW D ad cI cM s μ H locs) (hk : kd k = 5) (hdg : decode cc pc = .ok (.getfield 28, 3)) (kk : W p l e R s m args below meth c H locs cells slots Q (F0 m (pc + 3) ls (.int (μ k 1) :: rest))) : W p l e R s m args below meth c H locs cells slots Q (F0 m pc ls (.ref (ad k) :: rest)) := t_get hx hb ht in_5 hown hK hw (kd_lt (by omega)) (ent_5 hk) cl_5 (i := 1) (by decide) (ht _ q_104) (fun x h => u_same (ht _ q_102) x h) rfl hdg kk
theorem pgf_X5_28 {v : Int32} (hx : p.tables.exec = Jvm.exec) (hb : c.code = cc) (ht : ∀ w ∈ W0, w.before args s = true) (hown : s.vm.findClass "Leastreader$Plain" = some m.cls) (hK : TK D cI cM s) (hw : TW D ad cI cM s μ H locs) (hk : kd k = 5) (hdg : decode cc pc = .ok (.putfield 28, 3)) (kk : ∀ (H1 : Heap) (locs1 : List Loc), TW D ad cI cM s (tms μ k 1 v) H1 locs1 → W p l e R s m args below meth c H1 locs1 cells slots Q (F0 m (pc + 3) ls rest)) : W p l e R s m args below meth c H locs cells slots Q (F0 m pc ls (.int v :: .ref (ad k) :: rest)) := t_put hx hb ht in_5 tyX5 tyX5_ok nmX5 hown hK hw (kd_lt (by omega)) (ent_5 hk) cl_5 (i := 1) (by decide) (ht _ q_104) (fun x h => u_same (ht _ q_102) x h) rfl rfl (Nat.le_of_ble_eq_true rfl) (ent_5 hk) hdg kk
theorem gf_X3_83 (hx : p.tables.exec = Jvm.exec) (hb : c.code = cc) (ht : ∀ w ∈ W0, w.before args s = true) (hown : s.vm.findClass "Leastreader$Maker" = some m.cls) (hK : TK D cI cM s) (hw : TW D ad cI cM s μ H locs) (hk : kd k = 5) (hdg : decode cc pc = .ok (.getfield 83, 3)) (kk : W p l e R s m args below meth c H locs cells slots Q (F0 m (pc + 3) ls (.int (μ k 1) :: rest))) : W p l e R s m args below meth c H locs cells slots Q (F0 m pc ls (.ref (ad k) :: rest)) := t_get hx hb ht in_5 hown hK hw (kd_lt (by omega)) (ent_5 hk) cl_5 (i := 1) (by decide) (ht _ q_105) (fun x h => u_same (ht _ q_102) x h) rfl hdg kk
theorem pgf_X3_83 {v : Int32} (hx : p.tables.exec = Jvm.exec) (hb : c.code = cc) (ht : ∀ w ∈ W0, w.before args s = true) (hown : s.vm.findClass "Leastreader$Maker" = some m.cls) (hK : TK D cI cM s) (hw : TW D ad cI cM s μ H locs) (hk : kd k = 5) (hdg : decode cc pc = .ok (.putfield 83, 3)) (kk : ∀ (H1 : Heap) (locs1 : List Loc), TW D ad cI cM s (tms μ k 1 v) H1 locs1 → W p l e R s m args below meth c H1 locs1 cells slots Q (F0 m (pc + 3) ls rest)) : W p l e R s m args below meth c H locs cells slots Q (F0 m pc ls (.int v :: .ref (ad k) :: rest)) := t_put hx hb ht in_5 tyX5 tyX5_ok nmX5 hown hK hw (kd_lt (by omega)) (ent_5 hk) cl_5 (i := 1) (by decide) (ht _ q_105) (fun x h => u_same (ht _ q_102) x h) rfl rfl (Nat.le_of_ble_eq_true rfl) (ent_5 hk) hdg kk
theorem gf_X9_151 (hx : p.tables.exec = Jvm.exec) (hb : c.code = cc) (ht : ∀ w ∈ W0, w.before args s = true) (hown : s.vm.findClass "Leastreader" = some m.cls) (hK : TK D cI cM s) (hw : TW D ad cI cM s μ H locs) (hk : kd k = 2) (hdg : decode cc pc = .ok (.getfield 151, 3)) (kk : W p l e R s m args below meth c H locs cells slots Q (F0 m (pc + 3) ls (.int (μ k 1) :: rest))) : W p l e R s m args below meth c H locs cells slots Q (F0 m pc ls (.ref (ad k) :: rest)) := t_get hx hb ht in_2 hown hK hw (kd_lt (by omega)) (ent_2 hk) cl_2 (i := 1) (by decide) (ht _ q_106) (fun x h => u_same (ht _ q_100) x h) rfl hdg kk
theorem pgf_X9_151 {v : Int32} (hx : p.tables.exec = Jvm.exec) (hb : c.code = cc) (ht : ∀ w ∈ W0, w.before args s = true) (hown : s.vm.findClass "Leastreader" = some m.cls) (hK : TK D cI cM s) (hw : TW D ad cI cM s μ H locs) (hk : kd k = 2) (hdg : decode cc pc = .ok (.putfield 151, 3)) (kk : ∀ (H1 : Heap) (locs1 : List Loc), TW D ad cI cM s (tms μ k 1 v) H1 locs1 → W p l e R s m args below meth c H1 locs1 cells slots Q (F0 m (pc + 3) ls rest)) : W p l e R s m args below meth c H locs cells slots Q (F0 m pc ls (.int v :: .ref (ad k) :: rest)) := t_put hx hb ht in_2 tyX2 tyX2_ok nmX2 hown hK hw (kd_lt (by omega)) (ent_2 hk) cl_2 (i := 1) (by decide) (ht _ q_106) (fun x h => u_same (ht _ q_100) x h) rfl rfl (Nat.le_of_ble_eq_true rfl) (ent_2 hk) hdg kk
theorem gf_X2_57 (hx : p.tables.exec = Jvm.exec) (hb : c.code = cc) (ht : ∀ w ∈ W0, w.before args s = true) (hown : s.vm.findClass "Leastreader$Machine" = some m.cls) (hK : TK D cI cM s) (hw : TW D ad cI cM s μ H locs) (hk : kd k = 5) (hdg : decode cc pc = .ok (.getfield 57, 3)) (kk : W p l e R s m args below meth c H locs cells slots Q (F0 m (pc + 3) ls (.int (μ k 1) :: rest))) : W p l e R s m args below meth c H locs cells slots Q (F0 m pc ls (.ref (ad k) :: rest)) := t_get hx hb ht in_5 hown hK hw (kd_lt (by omega)) (ent_5 hk) cl_5 (i := 1) (by decide) (ht _ q_107) (fun x h => u_same (ht _ q_102) x h) rfl hdg kk
theorem pgf_X2_57 {v : Int32} (hx : p.tables.exec = Jvm.exec) (hb : c.code = cc) (ht : ∀ w ∈ W0, w.before args s = true) (hown : s.vm.findClass "Leastreader$Machine" = some m.cls) (hK : TK D cI cM s) (hw : TW D ad cI cM s μ H locs) (hk : kd k = 5) (hdg : decode cc pc = .ok (.putfield 57, 3)) (kk : ∀ (H1 : Heap) (locs1 : List Loc), TW D ad cI cM s (tms μ k 1 v) H1 locs1 → W p l e R s m args below meth c H1 locs1 cells slots Q (F0 m (pc + 3) ls rest)) : W p l e R s m args below meth c H locs cells slots Q (F0 m pc ls (.int v :: .ref (ad k) :: rest)) := t_put hx hb ht in_5 tyX5 tyX5_ok nmX5 hown hK hw (kd_lt (by omega)) (ent_5 hk) cl_5 (i := 1) (by decide) (ht _ q_107) (fun x h => u_same (ht _ q_102) x h) rfl rfl (Nat.le_of_ble_eq_true rfl) (ent_5 hk) hdg kk
theorem gf_X9_190 (hx : p.tables.exec = Jvm.exec) (hb : c.code = cc) (ht : ∀ w ∈ W0, w.before args s = true) (hown : s.vm.findClass "Leastreader" = some m.cls) (hK : TK D cI cM s) (hw : TW D ad cI cM s μ H locs) (hk : kd k = 5) (hdg : decode cc pc = .ok (.getfield 190, 3)) (kk : W p l e R s m args below meth c H locs cells slots Q (F0 m (pc + 3) ls (.int (μ k 1) :: rest))) : W p l e R s m args below meth c H locs cells slots Q (F0 m pc ls (.ref (ad k) :: rest)) := t_get hx hb ht in_5 hown hK hw (kd_lt (by omega)) (ent_5 hk) cl_5 (i := 1) (by decide) (ht _ q_108) (fun x h => u_same (ht _ q_102) x h) rfl hdg kk
theorem pgf_X9_190 {v : Int32} (hx : p.tables.exec = Jvm.exec) (hb : c.code = cc) (ht : ∀ w ∈ W0, w.before args s = true) (hown : s.vm.findClass "Leastreader" = some m.cls) (hK : TK D cI cM s) (hw : TW D ad cI cM s μ H locs) (hk : kd k = 5) (hdg : decode cc pc = .ok (.putfield 190, 3)) (kk : ∀ (H1 : Heap) (locs1 : List Loc), TW D ad cI cM s (tms μ k 1 v) H1 locs1 → W p l e R s m args below meth c H1 locs1 cells slots Q (F0 m (pc + 3) ls rest)) : W p l e R s m args below meth c H locs cells slots Q (F0 m pc ls (.int v :: .ref (ad k) :: rest)) := t_put hx hb ht in_5 tyX5 tyX5_ok nmX5 hown hK hw (kd_lt (by omega)) (ent_5 hk) cl_5 (i := 1) (by decide) (ht _ q_108) (fun x h => u_same (ht _ q_102) x h) rfl rfl (Nat.le_of_ble_eq_true rfl) (ent_5 hk) hdg kk
theorem gf_X5_9 (hx : p.tables.exec = Jvm.exec) (hb : c.code = cc) (ht : ∀ w ∈ W0, w.before args s = true) (hown : s.vm.findClass "Leastreader$Plain" = some m.cls) (hK : TK D cI cM s) (hw : TW D ad cI cM s μ H locs) (hk : kd k = 5) (hdg : decode cc pc = .ok (.getfield 9, 3)) (kk : W p l e R s m args below meth c H locs cells slots Q (F0 m (pc + 3) ls (.int (μ k 2) :: rest))) : W p l e R s m args below meth c H locs cells slots Q (F0 m pc ls (.ref (ad k) :: rest)) := t_get hx hb ht in_5 hown hK hw (kd_lt (by omega)) (ent_5 hk) cl_5 (i := 2) (by decide) (ht _ q_109) (fun x h => u_same (ht _ q_110) x h) rfl hdg kk
theorem pgf_X5_9 {v : Int32} (hx : p.tables.exec = Jvm.exec) (hb : c.code = cc) (ht : ∀ w ∈ W0, w.before args s = true) (hown : s.vm.findClass "Leastreader$Plain" = some m.cls) (hK : TK D cI cM s) (hw : TW D ad cI cM s μ H locs) (hk : kd k = 5) (hdg : decode cc pc = .ok (.putfield 9, 3)) (kk : ∀ (H1 : Heap) (locs1 : List Loc), TW D ad cI cM s (tms μ k 2 v) H1 locs1 → W p l e R s m args below meth c H1 locs1 cells slots Q (F0 m (pc + 3) ls rest)) : W p l e R s m args below meth c H locs cells slots Q (F0 m pc ls (.int v :: .ref (ad k) :: rest)) := t_put hx hb ht in_5 tyX5 tyX5_ok nmX5 hown hK hw (kd_lt (by omega)) (ent_5 hk) cl_5 (i := 2) (by decide) (ht _ q_109) (fun x h => u_same (ht _ q_110) x h) rfl rfl (Nat.le_of_ble_eq_true rfl) (ent_5 hk) hdg kk
theorem gf_X2_18 (hx : p.tables.exec = Jvm.exec) (hb : c.code = cc) (ht : ∀ w ∈ W0, w.before args s = true) (hown : s.vm.findClass "Leastreader$Machine" = some m.cls) (hK : TK D cI cM s) (hw : TW D ad cI cM s μ H locs) (hk : kd k = 2) (hdg : decode cc pc = .ok (.getfield 18, 3)) (kk : W p l e R s m args below meth c H locs cells slots Q (F0 m (pc + 3) ls (.int (μ k 2) :: rest))) : W p l e R s m args below meth c H locs cells slots Q (F0 m pc ls (.ref (ad k) :: rest)) := t_get hx hb ht in_2 hown hK hw (kd_lt (by omega)) (ent_2 hk) cl_2 (i := 2) (by decide) (ht _ q_111) (fun x h => u_same (ht _ q_112) x h) rfl hdg kk
theorem pgf_X2_18 {v : Int32} (hx : p.tables.exec = Jvm.exec) (hb : c.code = cc) (ht : ∀ w ∈ W0, w.before args s = true) (hown : s.vm.findClass "Leastreader$Machine" = some m.cls) (hK : TK D cI cM s) (hw : TW D ad cI cM s μ H locs) (hk : kd k = 2) (hdg : decode cc pc = .ok (.putfield 18, 3)) (kk : ∀ (H1 : Heap) (locs1 : List Loc), TW D ad cI cM s (tms μ k 2 v) H1 locs1 → W p l e R s m args below meth c H1 locs1 cells slots Q (F0 m (pc + 3) ls rest)) : W p l e R s m args below meth c H locs cells slots Q (F0 m pc ls (.int v :: .ref (ad k) :: rest)) := t_put hx hb ht in_2 tyX2 tyX2_ok nmX2 hown hK hw (kd_lt (by omega)) (ent_2 hk) cl_2 (i := 2) (by decide) (ht _ q_111) (fun x h => u_same (ht _ q_112) x h) rfl rfl (Nat.le_of_ble_eq_true rfl) (ent_2 hk) hdg kk
theorem gf_X4_38 (hx : p.tables.exec = Jvm.exec) (hb : c.code = cc) (ht : ∀ w ∈ W0, w.before args s = true) (hown : s.vm.findClass "Leastreader$Meeting" = some m.cls) (hK : TK D cI cM s) (hw : TW D ad cI cM s μ H locs) (hk : kd k = 5) (hdg : decode cc pc = .ok (.getfield 38, 3)) (kk : W p l e R s m args below meth c H locs cells slots Q (F0 m (pc + 3) ls (.int (μ k 2) :: rest))) : W p l e R s m args below meth c H locs cells slots Q (F0 m pc ls (.ref (ad k) :: rest)) := t_get hx hb ht in_5 hown hK hw (kd_lt (by omega)) (ent_5 hk) cl_5 (i := 2) (by decide) (ht _ q_113) (fun x h => u_same (ht _ q_110) x h) rfl hdg kk
theorem pgf_X4_38 {v : Int32} (hx : p.tables.exec = Jvm.exec) (hb : c.code = cc) (ht : ∀ w ∈ W0, w.before args s = true) (hown : s.vm.findClass "Leastreader$Meeting" = some m.cls) (hK : TK D cI cM s) (hw : TW D ad cI cM s μ H locs) (hk : kd k = 5) (hdg : decode cc pc = .ok (.putfield 38, 3)) (kk : ∀ (H1 : Heap) (locs1 : List Loc), TW D ad cI cM s (tms μ k 2 v) H1 locs1 → W p l e R s m args below meth c H1 locs1 cells slots Q (F0 m (pc + 3) ls rest)) : W p l e R s m args below meth c H locs cells slots Q (F0 m pc ls (.int v :: .ref (ad k) :: rest)) := t_put hx hb ht in_5 tyX5 tyX5_ok nmX5 hown hK hw (kd_lt (by omega)) (ent_5 hk) cl_5 (i := 2) (by decide) (ht _ q_113) (fun x h => u_same (ht _ q_110) x h) rfl rfl (Nat.le_of_ble_eq_true rfl) (ent_5 hk) hdg kk
theorem gf_X7_19 (hx : p.tables.exec = Jvm.exec) (hb : c.code = cc) (ht : ∀ w ∈ W0, w.before args s = true) (hown : s.vm.findClass "Leastreader$Table" = some m.cls) (hK : TK D cI cM s) (hw : TW D ad cI cM s μ H locs) (hk : kd k = 2 ∨ kd k = 5) (hdg : decode cc pc = .ok (.getfield 19, 3)) (kk : W p l e R s m args below meth c H locs cells slots Q (F0 m (pc + 3) ls (.int (μ k 2) :: rest))) : W p l e R s m args below meth c H locs cells slots Q (F0 m pc ls (.ref (ad k) :: rest)) := hk.elim (fun hk => t_get hx hb ht in_2 hown hK hw (kd_lt (by omega)) (ent_2 hk) cl_2 (i := 2) (by decide) (ht _ q_114) (fun _ h => h) rfl hdg kk) (fun hk => t_get hx hb ht in_5 hown hK hw (kd_lt (by omega)) (ent_5 hk) cl_5 (i := 2) (by decide) (ht _ q_114) (fun _ h => h) rfl hdg kk)
theorem pgf_X7_19 {v : Int32} (hx : p.tables.exec = Jvm.exec) (hb : c.code = cc) (ht : ∀ w ∈ W0, w.before args s = true) (hown : s.vm.findClass "Leastreader$Table" = some m.cls) (hK : TK D cI cM s) (hw : TW D ad cI cM s μ H locs) (hk : kd k = 2 ∨ kd k = 5) (hdg : decode cc pc = .ok (.putfield 19, 3)) (kk : ∀ (H1 : Heap) (locs1 : List Loc), TW D ad cI cM s (tms μ k 2 v) H1 locs1 → W p l e R s m args below meth c H1 locs1 cells slots Q (F0 m (pc + 3) ls rest)) : W p l e R s m args below meth c H locs cells slots Q (F0 m pc ls (.int v :: .ref (ad k) :: rest)) := hk.elim (fun hk => t_put hx hb ht in_2 tyX2 tyX2_ok nmX2 hown hK hw (kd_lt (by omega)) (ent_2 hk) cl_2 (i := 2) (by decide) (ht _ q_114) (fun _ h => h) rfl rfl (Nat.le_of_ble_eq_true rfl) (ent_2 hk) hdg kk) (fun hk => t_put hx hb ht in_5 tyX5 tyX5_ok nmX5 hown hK hw (kd_lt (by omega)) (ent_5 hk) cl_5 (i := 2) (by decide) (ht _ q_114) (fun _ h => h) rfl rfl (Nat.le_of_ble_eq_true rfl) (ent_5 hk) hdg kk)
theorem gf_X9_111 (hx : p.tables.exec = Jvm.exec) (hb : c.code = cc) (ht : ∀ w ∈ W0, w.before args s = true) (hown : s.vm.findClass "Leastreader" = some m.cls) (hK : TK D cI cM s) (hw : TW D ad cI cM s μ H locs) (hk : kd k = 2) (hdg : decode cc pc = .ok (.getfield 111, 3)) (kk : W p l e R s m args below meth c H locs cells slots Q (F0 m (pc + 3) ls (.int (μ k 2) :: rest))) : W p l e R s m args below meth c H locs cells slots Q (F0 m pc ls (.ref (ad k) :: rest)) := t_get hx hb ht in_2 hown hK hw (kd_lt (by omega)) (ent_2 hk) cl_2 (i := 2) (by decide) (ht _ q_115) (fun x h => u_same (ht _ q_112) x h) rfl hdg kk
theorem pgf_X9_111 {v : Int32} (hx : p.tables.exec = Jvm.exec) (hb : c.code = cc) (ht : ∀ w ∈ W0, w.before args s = true) (hown : s.vm.findClass "Leastreader" = some m.cls) (hK : TK D cI cM s) (hw : TW D ad cI cM s μ H locs) (hk : kd k = 2) (hdg : decode cc pc = .ok (.putfield 111, 3)) (kk : ∀ (H1 : Heap) (locs1 : List Loc), TW D ad cI cM s (tms μ k 2 v) H1 locs1 → W p l e R s m args below meth c H1 locs1 cells slots Q (F0 m (pc + 3) ls rest)) : W p l e R s m args below meth c H locs cells slots Q (F0 m pc ls (.int v :: .ref (ad k) :: rest)) := t_put hx hb ht in_2 tyX2 tyX2_ok nmX2 hown hK hw (kd_lt (by omega)) (ent_2 hk) cl_2 (i := 2) (by decide) (ht _ q_115) (fun x h => u_same (ht _ q_112) x h) rfl rfl (Nat.le_of_ble_eq_true rfl) (ent_2 hk) hdg kk
theorem gf_X3_86 (hx : p.tables.exec = Jvm.exec) (hb : c.code = cc) (ht : ∀ w ∈ W0, w.before args s = true) (hown : s.vm.findClass "Leastreader$Maker" = some m.cls) (hK : TK D cI cM s) (hw : TW D ad cI cM s μ H locs) (hk : kd k = 5) (hdg : decode cc pc = .ok (.getfield 86, 3)) (kk : W p l e R s m args below meth c H locs cells slots Q (F0 m (pc + 3) ls (.int (μ k 2) :: rest))) : W p l e R s m args below meth c H locs cells slots Q (F0 m pc ls (.ref (ad k) :: rest)) := t_get hx hb ht in_5 hown hK hw (kd_lt (by omega)) (ent_5 hk) cl_5 (i := 2) (by decide) (ht _ q_116) (fun x h => u_same (ht _ q_110) x h) rfl hdg kk
theorem pgf_X3_86 {v : Int32} (hx : p.tables.exec = Jvm.exec) (hb : c.code = cc) (ht : ∀ w ∈ W0, w.before args s = true) (hown : s.vm.findClass "Leastreader$Maker" = some m.cls) (hK : TK D cI cM s) (hw : TW D ad cI cM s μ H locs) (hk : kd k = 5) (hdg : decode cc pc = .ok (.putfield 86, 3)) (kk : ∀ (H1 : Heap) (locs1 : List Loc), TW D ad cI cM s (tms μ k 2 v) H1 locs1 → W p l e R s m args below meth c H1 locs1 cells slots Q (F0 m (pc + 3) ls rest)) : W p l e R s m args below meth c H locs cells slots Q (F0 m pc ls (.int v :: .ref (ad k) :: rest)) := t_put hx hb ht in_5 tyX5 tyX5_ok nmX5 hown hK hw (kd_lt (by omega)) (ent_5 hk) cl_5 (i := 2) (by decide) (ht _ q_116) (fun x h => u_same (ht _ q_110) x h) rfl rfl (Nat.le_of_ble_eq_true rfl) (ent_5 hk) hdg kk
theorem gf_X3_93 (hx : p.tables.exec = Jvm.exec) (hb : c.code = cc) (ht : ∀ w ∈ W0, w.before args s = true) (hown : s.vm.findClass "Leastreader$Maker" = some m.cls) (hK : TK D cI cM s) (hw : TW D ad cI cM s μ H locs) (hk : kd k = 2) (hdg : decode cc pc = .ok (.getfield 93, 3)) (kk : W p l e R s m args below meth c H locs cells slots Q (F0 m (pc + 3) ls (.int (μ k 2) :: rest))) : W p l e R s m args below meth c H locs cells slots Q (F0 m pc ls (.ref (ad k) :: rest)) := t_get hx hb ht in_2 hown hK hw (kd_lt (by omega)) (ent_2 hk) cl_2 (i := 2) (by decide) (ht _ q_117) (fun x h => u_same (ht _ q_112) x h) rfl hdg kk
theorem pgf_X3_93 {v : Int32} (hx : p.tables.exec = Jvm.exec) (hb : c.code = cc) (ht : ∀ w ∈ W0, w.before args s = true) (hown : s.vm.findClass "Leastreader$Maker" = some m.cls) (hK : TK D cI cM s) (hw : TW D ad cI cM s μ H locs) (hk : kd k = 2) (hdg : decode cc pc = .ok (.putfield 93, 3)) (kk : ∀ (H1 : Heap) (locs1 : List Loc), TW D ad cI cM s (tms μ k 2 v) H1 locs1 → W p l e R s m args below meth c H1 locs1 cells slots Q (F0 m (pc + 3) ls rest)) : W p l e R s m args below meth c H locs cells slots Q (F0 m pc ls (.int v :: .ref (ad k) :: rest)) := t_put hx hb ht in_2 tyX2 tyX2_ok nmX2 hown hK hw (kd_lt (by omega)) (ent_2 hk) cl_2 (i := 2) (by decide) (ht _ q_117) (fun x h => u_same (ht _ q_112) x h) rfl rfl (Nat.le_of_ble_eq_true rfl) (ent_2 hk) hdg kk
theorem gf_X2_60 (hx : p.tables.exec = Jvm.exec) (hb : c.code = cc) (ht : ∀ w ∈ W0, w.before args s = true) (hown : s.vm.findClass "Leastreader$Machine" = some m.cls) (hK : TK D cI cM s) (hw : TW D ad cI cM s μ H locs) (hk : kd k = 5) (hdg : decode cc pc = .ok (.getfield 60, 3)) (kk : W p l e R s m args below meth c H locs cells slots Q (F0 m (pc + 3) ls (.int (μ k 2) :: rest))) : W p l e R s m args below meth c H locs cells slots Q (F0 m pc ls (.ref (ad k) :: rest)) := t_get hx hb ht in_5 hown hK hw (kd_lt (by omega)) (ent_5 hk) cl_5 (i := 2) (by decide) (ht _ q_118) (fun x h => u_same (ht _ q_110) x h) rfl hdg kk
theorem pgf_X2_60 {v : Int32} (hx : p.tables.exec = Jvm.exec) (hb : c.code = cc) (ht : ∀ w ∈ W0, w.before args s = true) (hown : s.vm.findClass "Leastreader$Machine" = some m.cls) (hK : TK D cI cM s) (hw : TW D ad cI cM s μ H locs) (hk : kd k = 5) (hdg : decode cc pc = .ok (.putfield 60, 3)) (kk : ∀ (H1 : Heap) (locs1 : List Loc), TW D ad cI cM s (tms μ k 2 v) H1 locs1 → W p l e R s m args below meth c H1 locs1 cells slots Q (F0 m (pc + 3) ls rest)) : W p l e R s m args below meth c H locs cells slots Q (F0 m pc ls (.int v :: .ref (ad k) :: rest)) := t_put hx hb ht in_5 tyX5 tyX5_ok nmX5 hown hK hw (kd_lt (by omega)) (ent_5 hk) cl_5 (i := 2) (by decide) (ht _ q_118) (fun x h => u_same (ht _ q_110) x h) rfl rfl (Nat.le_of_ble_eq_true rfl) (ent_5 hk) hdg kk
theorem gf_X0_7 (hx : p.tables.exec = Jvm.exec) (hb : c.code = cc) (ht : ∀ w ∈ W0, w.before args s = true) (hown : s.vm.findClass "Leastreader$Drawer" = some m.cls) (hK : TK D cI cM s) (hw : TW D ad cI cM s μ H locs) (hk : kd k = 0) (hdg : decode cc pc = .ok (.getfield 7, 3)) (kk : W p l e R s m args below meth c H locs cells slots Q (F0 m (pc + 3) ls (.int (μ k 0) :: rest))) : W p l e R s m args below meth c H locs cells slots Q (F0 m pc ls (.ref (ad k) :: rest)) := t_get hx hb ht in_0 hown hK hw (kd_lt (by omega)) (ent_0 hk) cl_0 (i := 0) (by decide) (ht _ q_135) (fun _ h => h) rfl hdg kk
theorem pgf_X0_7 {v : Int32} (hx : p.tables.exec = Jvm.exec) (hb : c.code = cc) (ht : ∀ w ∈ W0, w.before args s = true) (hown : s.vm.findClass "Leastreader$Drawer" = some m.cls) (hK : TK D cI cM s) (hw : TW D ad cI cM s μ H locs) (hk : kd k = 0) (hdg : decode cc pc = .ok (.putfield 7, 3)) (kk : ∀ (H1 : Heap) (locs1 : List Loc), TW D ad cI cM s (tms μ k 0 v) H1 locs1 → W p l e R s m args below meth c H1 locs1 cells slots Q (F0 m (pc + 3) ls rest)) : W p l e R s m args below meth c H locs cells slots Q (F0 m pc ls (.int v :: .ref (ad k) :: rest)) := t_put hx hb ht in_0 tyX0 tyX0_ok nmX0 hown hK hw (kd_lt (by omega)) (ent_0 hk) cl_0 (i := 0) (by decide) (ht _ q_135) (fun _ h => h) rfl rfl (Nat.le_of_ble_eq_true rfl) (ent_0 hk) hdg kk
theorem gf_X6_9 (hx : p.tables.exec = Jvm.exec) (hb : c.code = cc) (ht : ∀ w ∈ W0, w.before args s = true) (hown : s.vm.findClass "Leastreader$Row" = some m.cls) (hK : TK D cI cM s) (hw : TW D ad cI cM s μ H locs) (hk : kd k = 6) (hdg : decode cc pc = .ok (.getfield 9, 3)) (kk : W p l e R s m args below meth c H locs cells slots Q (F0 m (pc + 3) ls (.ref (ad (k + 1)) :: rest))) : W p l e R s m args below meth c H locs cells slots Q (F0 m pc ls (.ref (ad k) :: rest)) := t_get hx hb ht in_6 hown hK hw (kd_lt (by omega)) (ent_6 hk) cl_6 (i := 0) (by decide) (ht _ q_151) (fun _ h => h) rfl hdg kk
theorem gf_X1_14 (hx : p.tables.exec = Jvm.exec) (hb : c.code = cc) (ht : ∀ w ∈ W0, w.before args s = true) (hown : s.vm.findClass "Leastreader$Likeness" = some m.cls) (hK : TK D cI cM s) (hw : TW D ad cI cM s μ H locs) (hk : kd k = 1) (hdg : decode cc pc = .ok (.getfield 14, 3)) (kk : W p l e R s m args below meth c H locs cells slots Q (F0 m (pc + 3) ls (.ref (ad (k + 1)) :: rest))) : W p l e R s m args below meth c H locs cells slots Q (F0 m pc ls (.ref (ad k) :: rest)) := t_get hx hb ht in_1 hown hK hw (kd_lt (by omega)) (ent_1 hk) cl_1 (i := 0) (by decide) (ht _ q_163) (fun _ h => h) rfl hdg kk
theorem gf_X1_20 (hx : p.tables.exec = Jvm.exec) (hb : c.code = cc) (ht : ∀ w ∈ W0, w.before args s = true) (hown : s.vm.findClass "Leastreader$Likeness" = some m.cls) (hK : TK D cI cM s) (hw : TW D ad cI cM s μ H locs) (hk : kd k = 1) (hdg : decode cc pc = .ok (.getfield 20, 3)) (kk : W p l e R s m args below meth c H locs cells slots Q (F0 m (pc + 3) ls (.ref (ad (k + 3)) :: rest))) : W p l e R s m args below meth c H locs cells slots Q (F0 m pc ls (.ref (ad k) :: rest)) := t_get hx hb ht in_1 hown hK hw (kd_lt (by omega)) (ent_1 hk) cl_1 (i := 1) (by decide) (ht _ q_164) (fun _ h => h) rfl hdg kk
theorem gf_X1_23 (hx : p.tables.exec = Jvm.exec) (hb : c.code = cc) (ht : ∀ w ∈ W0, w.before args s = true) (hown : s.vm.findClass "Leastreader$Likeness" = some m.cls) (hK : TK D cI cM s) (hw : TW D ad cI cM s μ H locs) (hk : kd k = 1) (hdg : decode cc pc = .ok (.getfield 23, 3)) (kk : W p l e R s m args below meth c H locs cells slots Q (F0 m (pc + 3) ls (.ref (ad (k + 5)) :: rest))) : W p l e R s m args below meth c H locs cells slots Q (F0 m pc ls (.ref (ad k) :: rest)) := t_get hx hb ht in_1 hown hK hw (kd_lt (by omega)) (ent_1 hk) cl_1 (i := 2) (by decide) (ht _ q_165) (fun _ h => h) rfl hdg kk
theorem gf_X3_14 (hx : p.tables.exec = Jvm.exec) (hb : c.code = cc) (ht : ∀ w ∈ W0, w.before args s = true) (hown : s.vm.findClass "Leastreader$Maker" = some m.cls) (hK : TK D cI cM s) (hw : TW D ad cI cM s μ H locs) (hk : kd k = 3) (hdg : decode cc pc = .ok (.getfield 14, 3)) (kk : W p l e R s m args below meth c H locs cells slots Q (F0 m (pc + 3) ls (.ref (ad (k + 1)) :: rest))) : W p l e R s m args below meth c H locs cells slots Q (F0 m pc ls (.ref (ad k) :: rest)) := t_get hx hb ht in_3 hown hK hw (kd_lt (by omega)) (ent_3 hk) cl_3 (i := 0) (by decide) (ht _ q_185) (fun _ h => h) rfl hdg kk
theorem gf_X3_20 (hx : p.tables.exec = Jvm.exec) (hb : c.code = cc) (ht : ∀ w ∈ W0, w.before args s = true) (hown : s.vm.findClass "Leastreader$Maker" = some m.cls) (hK : TK D cI cM s) (hw : TW D ad cI cM s μ H locs) (hk : kd k = 3) (hdg : decode cc pc = .ok (.getfield 20, 3)) (kk : W p l e R s m args below meth c H locs cells slots Q (F0 m (pc + 3) ls (.ref (ad (k + 3)) :: rest))) : W p l e R s m args below meth c H locs cells slots Q (F0 m pc ls (.ref (ad k) :: rest)) := t_get hx hb ht in_3 hown hK hw (kd_lt (by omega)) (ent_3 hk) cl_3 (i := 1) (by decide) (ht _ q_186) (fun _ h => h) rfl hdg kk
theorem gf_X3_23 (hx : p.tables.exec = Jvm.exec) (hb : c.code = cc) (ht : ∀ w ∈ W0, w.before args s = true) (hown : s.vm.findClass "Leastreader$Maker" = some m.cls) (hK : TK D cI cM s) (hw : TW D ad cI cM s μ H locs) (hk : kd k = 3) (hdg : decode cc pc = .ok (.getfield 23, 3)) (kk : W p l e R s m args below meth c H locs cells slots Q (F0 m (pc + 3) ls (.ref (ad (k + 5)) :: rest))) : W p l e R s m args below meth c H locs cells slots Q (F0 m pc ls (.ref (ad k) :: rest)) := t_get hx hb ht in_3 hown hK hw (kd_lt (by omega)) (ent_3 hk) cl_3 (i := 2) (by decide) (ht _ q_187) (fun _ h => h) rfl hdg kk
theorem gf_X3_29 (hx : p.tables.exec = Jvm.exec) (hb : c.code = cc) (ht : ∀ w ∈ W0, w.before args s = true) (hown : s.vm.findClass "Leastreader$Maker" = some m.cls) (hK : TK D cI cM s) (hw : TW D ad cI cM s μ H locs) (hk : kd k = 3) (hdg : decode cc pc = .ok (.getfield 29, 3)) (kk : W p l e R s m args below meth c H locs cells slots Q (F0 m (pc + 3) ls (.ref (ad (k + 7)) :: rest))) : W p l e R s m args below meth c H locs cells slots Q (F0 m pc ls (.ref (ad k) :: rest)) := t_get hx hb ht in_3 hown hK hw (kd_lt (by omega)) (ent_3 hk) cl_3 (i := 3) (by decide) (ht _ q_188) (fun _ h => h) rfl hdg kk
theorem gf_X3_36 (hx : p.tables.exec = Jvm.exec) (hb : c.code = cc) (ht : ∀ w ∈ W0, w.before args s = true) (hown : s.vm.findClass "Leastreader$Maker" = some m.cls) (hK : TK D cI cM s) (hw : TW D ad cI cM s μ H locs) (hk : kd k = 3) (hdg : decode cc pc = .ok (.getfield 36, 3)) (kk : W p l e R s m args below meth c H locs cells slots Q (F0 m (pc + 3) ls (.ref (ad (k + 14)) :: rest))) : W p l e R s m args below meth c H locs cells slots Q (F0 m pc ls (.ref (ad k) :: rest)) := t_get hx hb ht in_3 hown hK hw (kd_lt (by omega)) (ent_3 hk) cl_3 (i := 4) (by decide) (ht _ q_189) (fun _ h => h) rfl hdg kk
theorem gf_X3_40 (hx : p.tables.exec = Jvm.exec) (hb : c.code = cc) (ht : ∀ w ∈ W0, w.before args s = true) (hown : s.vm.findClass "Leastreader$Maker" = some m.cls) (hK : TK D cI cM s) (hw : TW D ad cI cM s μ H locs) (hk : kd k = 3) (hdg : decode cc pc = .ok (.getfield 40, 3)) (kk : W p l e R s m args below meth c H locs cells slots Q (F0 m (pc + 3) ls (.ref (ad (k + 16)) :: rest))) : W p l e R s m args below meth c H locs cells slots Q (F0 m pc ls (.ref (ad k) :: rest)) := t_get hx hb ht in_3 hown hK hw (kd_lt (by omega)) (ent_3 hk) cl_3 (i := 5) (by decide) (ht _ q_190) (fun _ h => h) rfl hdg kk
theorem gf_X3_46 (hx : p.tables.exec = Jvm.exec) (hb : c.code = cc) (ht : ∀ w ∈ W0, w.before args s = true) (hown : s.vm.findClass "Leastreader$Maker" = some m.cls) (hK : TK D cI cM s) (hw : TW D ad cI cM s μ H locs) (hk : kd k = 3) (hdg : decode cc pc = .ok (.getfield 46, 3)) (kk : W p l e R s m args below meth c H locs cells slots Q (F0 m (pc + 3) ls (.ref (ad (k + 18)) :: rest))) : W p l e R s m args below meth c H locs cells slots Q (F0 m pc ls (.ref (ad k) :: rest)) := t_get hx hb ht in_3 hown hK hw (kd_lt (by omega)) (ent_3 hk) cl_3 (i := 6) (by decide) (ht _ q_191) (fun _ h => h) rfl hdg kk
theorem gf_X4_14 (hx : p.tables.exec = Jvm.exec) (hb : c.code = cc) (ht : ∀ w ∈ W0, w.before args s = true) (hown : s.vm.findClass "Leastreader$Meeting" = some m.cls) (hK : TK D cI cM s) (hw : TW D ad cI cM s μ H locs) (hk : kd k = 4) (hdg : decode cc pc = .ok (.getfield 14, 3)) (kk : W p l e R s m args below meth c H locs cells slots Q (F0 m (pc + 3) ls (.ref (ad (k + 1)) :: rest))) : W p l e R s m args below meth c H locs cells slots Q (F0 m pc ls (.ref (ad k) :: rest)) := t_get hx hb ht in_4 hown hK hw (kd_lt (by omega)) (ent_4 hk) cl_4 (i := 0) (by decide) (ht _ q_215) (fun _ h => h) rfl hdg kk
theorem gf_X4_20 (hx : p.tables.exec = Jvm.exec) (hb : c.code = cc) (ht : ∀ w ∈ W0, w.before args s = true) (hown : s.vm.findClass "Leastreader$Meeting" = some m.cls) (hK : TK D cI cM s) (hw : TW D ad cI cM s μ H locs) (hk : kd k = 4) (hdg : decode cc pc = .ok (.getfield 20, 3)) (kk : W p l e R s m args below meth c H locs cells slots Q (F0 m (pc + 3) ls (.ref (ad (k + 3)) :: rest))) : W p l e R s m args below meth c H locs cells slots Q (F0 m pc ls (.ref (ad k) :: rest)) := t_get hx hb ht in_4 hown hK hw (kd_lt (by omega)) (ent_4 hk) cl_4 (i := 1) (by decide) (ht _ q_216) (fun _ h => h) rfl hdg kk
theorem gf_X4_23 (hx : p.tables.exec = Jvm.exec) (hb : c.code = cc) (ht : ∀ w ∈ W0, w.before args s = true) (hown : s.vm.findClass "Leastreader$Meeting" = some m.cls) (hK : TK D cI cM s) (hw : TW D ad cI cM s μ H locs) (hk : kd k = 4) (hdg : decode cc pc = .ok (.getfield 23, 3)) (kk : W p l e R s m args below meth c H locs cells slots Q (F0 m (pc + 3) ls (.ref (ad (k + 5)) :: rest))) : W p l e R s m args below meth c H locs cells slots Q (F0 m pc ls (.ref (ad k) :: rest)) := t_get hx hb ht in_4 hown hK hw (kd_lt (by omega)) (ent_4 hk) cl_4 (i := 2) (by decide) (ht _ q_217) (fun _ h => h) rfl hdg kk
theorem gf_X4_26 (hx : p.tables.exec = Jvm.exec) (hb : c.code = cc) (ht : ∀ w ∈ W0, w.before args s = true) (hown : s.vm.findClass "Leastreader$Meeting" = some m.cls) (hK : TK D cI cM s) (hw : TW D ad cI cM s μ H locs) (hk : kd k = 4) (hdg : decode cc pc = .ok (.getfield 26, 3)) (kk : W p l e R s m args below meth c H locs cells slots Q (F0 m (pc + 3) ls (.ref (ad (k + 7)) :: rest))) : W p l e R s m args below meth c H locs cells slots Q (F0 m pc ls (.ref (ad k) :: rest)) := t_get hx hb ht in_4 hown hK hw (kd_lt (by omega)) (ent_4 hk) cl_4 (i := 3) (by decide) (ht _ q_218) (fun _ h => h) rfl hdg kk
theorem gf_X4_29 (hx : p.tables.exec = Jvm.exec) (hb : c.code = cc) (ht : ∀ w ∈ W0, w.before args s = true) (hown : s.vm.findClass "Leastreader$Meeting" = some m.cls) (hK : TK D cI cM s) (hw : TW D ad cI cM s μ H locs) (hk : kd k = 4) (hdg : decode cc pc = .ok (.getfield 29, 3)) (kk : W p l e R s m args below meth c H locs cells slots Q (F0 m (pc + 3) ls (.ref (ad (k + 9)) :: rest))) : W p l e R s m args below meth c H locs cells slots Q (F0 m pc ls (.ref (ad k) :: rest)) := t_get hx hb ht in_4 hown hK hw (kd_lt (by omega)) (ent_4 hk) cl_4 (i := 4) (by decide) (ht _ q_219) (fun _ h => h) rfl hdg kk
theorem gf_X4_32 (hx : p.tables.exec = Jvm.exec) (hb : c.code = cc) (ht : ∀ w ∈ W0, w.before args s = true) (hown : s.vm.findClass "Leastreader$Meeting" = some m.cls) (hK : TK D cI cM s) (hw : TW D ad cI cM s μ H locs) (hk : kd k = 4) (hdg : decode cc pc = .ok (.getfield 32, 3)) (kk : W p l e R s m args below meth c H locs cells slots Q (F0 m (pc + 3) ls (.ref (ad (k + 11)) :: rest))) : W p l e R s m args below meth c H locs cells slots Q (F0 m pc ls (.ref (ad k) :: rest)) := t_get hx hb ht in_4 hown hK hw (kd_lt (by omega)) (ent_4 hk) cl_4 (i := 5) (by decide) (ht _ q_220) (fun _ h => h) rfl hdg kk
theorem gf_X4_44 (hx : p.tables.exec = Jvm.exec) (hb : c.code = cc) (ht : ∀ w ∈ W0, w.before args s = true) (hown : s.vm.findClass "Leastreader$Meeting" = some m.cls) (hK : TK D cI cM s) (hw : TW D ad cI cM s μ H locs) (hk : kd k = 4) (hdg : decode cc pc = .ok (.getfield 44, 3)) (kk : W p l e R s m args below meth c H locs cells slots Q (F0 m (pc + 3) ls (.int (μ k 6) :: rest))) : W p l e R s m args below meth c H locs cells slots Q (F0 m pc ls (.ref (ad k) :: rest)) := t_get hx hb ht in_4 hown hK hw (kd_lt (by omega)) (ent_4 hk) cl_4 (i := 6) (by decide) (ht _ q_221) (fun _ h => h) rfl hdg kk
theorem pgf_X4_44 {v : Int32} (hx : p.tables.exec = Jvm.exec) (hb : c.code = cc) (ht : ∀ w ∈ W0, w.before args s = true) (hown : s.vm.findClass "Leastreader$Meeting" = some m.cls) (hK : TK D cI cM s) (hw : TW D ad cI cM s μ H locs) (hk : kd k = 4) (hdg : decode cc pc = .ok (.putfield 44, 3)) (kk : ∀ (H1 : Heap) (locs1 : List Loc), TW D ad cI cM s (tms μ k 6 v) H1 locs1 → W p l e R s m args below meth c H1 locs1 cells slots Q (F0 m (pc + 3) ls rest)) : W p l e R s m args below meth c H locs cells slots Q (F0 m pc ls (.int v :: .ref (ad k) :: rest)) := t_put hx hb ht in_4 tyX4 tyX4_ok nmX4 hown hK hw (kd_lt (by omega)) (ent_4 hk) cl_4 (i := 6) (by decide) (ht _ q_221) (fun _ h => h) rfl rfl (Nat.le_of_ble_eq_true rfl) (ent_4 hk) hdg kk
theorem gf_X4_47 (hx : p.tables.exec = Jvm.exec) (hb : c.code = cc) (ht : ∀ w ∈ W0, w.before args s = true) (hown : s.vm.findClass "Leastreader$Meeting" = some m.cls) (hK : TK D cI cM s) (hw : TW D ad cI cM s μ H locs) (hk : kd k = 4) (hdg : decode cc pc = .ok (.getfield 47, 3)) (kk : W p l e R s m args below meth c H locs cells slots Q (F0 m (pc + 3) ls (.int (μ k 7) :: rest))) : W p l e R s m args below meth c H locs cells slots Q (F0 m pc ls (.ref (ad k) :: rest)) := t_get hx hb ht in_4 hown hK hw (kd_lt (by omega)) (ent_4 hk) cl_4 (i := 7) (by decide) (ht _ q_222) (fun _ h => h) rfl hdg kk
theorem pgf_X4_47 {v : Int32} (hx : p.tables.exec = Jvm.exec) (hb : c.code = cc) (ht : ∀ w ∈ W0, w.before args s = true) (hown : s.vm.findClass "Leastreader$Meeting" = some m.cls) (hK : TK D cI cM s) (hw : TW D ad cI cM s μ H locs) (hk : kd k = 4) (hdg : decode cc pc = .ok (.putfield 47, 3)) (kk : ∀ (H1 : Heap) (locs1 : List Loc), TW D ad cI cM s (tms μ k 7 v) H1 locs1 → W p l e R s m args below meth c H1 locs1 cells slots Q (F0 m (pc + 3) ls rest)) : W p l e R s m args below meth c H locs cells slots Q (F0 m pc ls (.int v :: .ref (ad k) :: rest)) := t_put hx hb ht in_4 tyX4 tyX4_ok nmX4 hown hK hw (kd_lt (by omega)) (ent_4 hk) cl_4 (i := 7) (by decide) (ht _ q_222) (fun _ h => h) rfl rfl (Nat.le_of_ble_eq_true rfl) (ent_4 hk) hdg kk
theorem gf_X4_50 (hx : p.tables.exec = Jvm.exec) (hb : c.code = cc) (ht : ∀ w ∈ W0, w.before args s = true) (hown : s.vm.findClass "Leastreader$Meeting" = some m.cls) (hK : TK D cI cM s) (hw : TW D ad cI cM s μ H locs) (hk : kd k = 4) (hdg : decode cc pc = .ok (.getfield 50, 3)) (kk : W p l e R s m args below meth c H locs cells slots Q (F0 m (pc + 3) ls (.int (μ k 8) :: rest))) : W p l e R s m args below meth c H locs cells slots Q (F0 m pc ls (.ref (ad k) :: rest)) := t_get hx hb ht in_4 hown hK hw (kd_lt (by omega)) (ent_4 hk) cl_4 (i := 8) (by decide) (ht _ q_223) (fun _ h => h) rfl hdg kk
theorem pgf_X4_50 {v : Int32} (hx : p.tables.exec = Jvm.exec) (hb : c.code = cc) (ht : ∀ w ∈ W0, w.before args s = true) (hown : s.vm.findClass "Leastreader$Meeting" = some m.cls) (hK : TK D cI cM s) (hw : TW D ad cI cM s μ H locs) (hk : kd k = 4) (hdg : decode cc pc = .ok (.putfield 50, 3)) (kk : ∀ (H1 : Heap) (locs1 : List Loc), TW D ad cI cM s (tms μ k 8 v) H1 locs1 → W p l e R s m args below meth c H1 locs1 cells slots Q (F0 m (pc + 3) ls rest)) : W p l e R s m args below meth c H locs cells slots Q (F0 m pc ls (.int v :: .ref (ad k) :: rest)) := t_put hx hb ht in_4 tyX4 tyX4_ok nmX4 hown hK hw (kd_lt (by omega)) (ent_4 hk) cl_4 (i := 8) (by decide) (ht _ q_223) (fun _ h => h) rfl rfl (Nat.le_of_ble_eq_true rfl) (ent_4 hk) hdg kk
theorem gf_X5_23 (hx : p.tables.exec = Jvm.exec) (hb : c.code = cc) (ht : ∀ w ∈ W0, w.before args s = true) (hN : NW s) (hown : s.vm.findClass "Leastreader$Plain" = some m.cls) (hK : TK D cI cM s) (hw : TW D ad cI cM s μ H locs) (hk : kd k = 4) (hdg : decode cc pc = .ok (.getfield 23, 3)) (kk : W p l e R s m args below meth c H locs cells slots Q (F0 m (pc + 3) ls (.int (μ k 8) :: rest))) : W p l e R s m args below meth c H locs cells slots Q (F0 m pc ls (.ref (ad k) :: rest)) := t_getN hx hb ht in_4 hown hK hw (kd_lt (by omega)) (ent_4 hk) cl_4 (i := 8) (by decide) (nwu_224 hN) (fun _ h => h) rfl hdg kk
theorem pgf_X5_23 {v : Int32} (hx : p.tables.exec = Jvm.exec) (hb : c.code = cc) (ht : ∀ w ∈ W0, w.before args s = true) (hN : NW s) (hown : s.vm.findClass "Leastreader$Plain" = some m.cls) (hK : TK D cI cM s) (hw : TW D ad cI cM s μ H locs) (hk : kd k = 4) (hdg : decode cc pc = .ok (.putfield 23, 3)) (kk : ∀ (H1 : Heap) (locs1 : List Loc), TW D ad cI cM s (tms μ k 8 v) H1 locs1 → W p l e R s m args below meth c H1 locs1 cells slots Q (F0 m (pc + 3) ls rest)) : W p l e R s m args below meth c H locs cells slots Q (F0 m pc ls (.int v :: .ref (ad k) :: rest)) := t_putN hx hb ht in_4 tyX4 tyX4_ok nmX4 hown hK hw (kd_lt (by omega)) (ent_4 hk) cl_4 (i := 8) (by decide) (nwu_224 hN) (fun _ h => h) rfl rfl (Nat.le_of_ble_eq_true rfl) (ent_4 hk) hdg kk
theorem gf_X9_239 (hx : p.tables.exec = Jvm.exec) (hb : c.code = cc) (ht : ∀ w ∈ W0, w.before args s = true) (hN : NW s) (hown : s.vm.findClass "Leastreader" = some m.cls) (hK : TK D cI cM s) (hw : TW D ad cI cM s μ H locs) (hk : kd k = 4) (hdg : decode cc pc = .ok (.getfield 239, 3)) (kk : W p l e R s m args below meth c H locs cells slots Q (F0 m (pc + 3) ls (.int (μ k 8) :: rest))) : W p l e R s m args below meth c H locs cells slots Q (F0 m pc ls (.ref (ad k) :: rest)) := t_getN hx hb ht in_4 hown hK hw (kd_lt (by omega)) (ent_4 hk) cl_4 (i := 8) (by decide) (nwu_225 hN) (fun _ h => h) rfl hdg kk
theorem pgf_X9_239 {v : Int32} (hx : p.tables.exec = Jvm.exec) (hb : c.code = cc) (ht : ∀ w ∈ W0, w.before args s = true) (hN : NW s) (hown : s.vm.findClass "Leastreader" = some m.cls) (hK : TK D cI cM s) (hw : TW D ad cI cM s μ H locs) (hk : kd k = 4) (hdg : decode cc pc = .ok (.putfield 239, 3)) (kk : ∀ (H1 : Heap) (locs1 : List Loc), TW D ad cI cM s (tms μ k 8 v) H1 locs1 → W p l e R s m args below meth c H1 locs1 cells slots Q (F0 m (pc + 3) ls rest)) : W p l e R s m args below meth c H locs cells slots Q (F0 m pc ls (.int v :: .ref (ad k) :: rest)) := t_putN hx hb ht in_4 tyX4 tyX4_ok nmX4 hown hK hw (kd_lt (by omega)) (ent_4 hk) cl_4 (i := 8) (by decide) (nwu_225 hN) (fun _ h => h) rfl rfl (Nat.le_of_ble_eq_true rfl) (ent_4 hk) hdg kk
theorem gf_X4_53 (hx : p.tables.exec = Jvm.exec) (hb : c.code = cc) (ht : ∀ w ∈ W0, w.before args s = true) (hown : s.vm.findClass "Leastreader$Meeting" = some m.cls) (hK : TK D cI cM s) (hw : TW D ad cI cM s μ H locs) (hk : kd k = 4) (hdg : decode cc pc = .ok (.getfield 53, 3)) (kk : W p l e R s m args below meth c H locs cells slots Q (F0 m (pc + 3) ls (.int (μ k 9) :: rest))) : W p l e R s m args below meth c H locs cells slots Q (F0 m pc ls (.ref (ad k) :: rest)) := t_get hx hb ht in_4 hown hK hw (kd_lt (by omega)) (ent_4 hk) cl_4 (i := 9) (by decide) (ht _ q_226) (fun _ h => h) rfl hdg kk
theorem pgf_X4_53 {v : Int32} (hx : p.tables.exec = Jvm.exec) (hb : c.code = cc) (ht : ∀ w ∈ W0, w.before args s = true) (hown : s.vm.findClass "Leastreader$Meeting" = some m.cls) (hK : TK D cI cM s) (hw : TW D ad cI cM s μ H locs) (hk : kd k = 4) (hdg : decode cc pc = .ok (.putfield 53, 3)) (kk : ∀ (H1 : Heap) (locs1 : List Loc), TW D ad cI cM s (tms μ k 9 v) H1 locs1 → W p l e R s m args below meth c H1 locs1 cells slots Q (F0 m (pc + 3) ls rest)) : W p l e R s m args below meth c H locs cells slots Q (F0 m pc ls (.int v :: .ref (ad k) :: rest)) := t_put hx hb ht in_4 tyX4 tyX4_ok nmX4 hown hK hw (kd_lt (by omega)) (ent_4 hk) cl_4 (i := 9) (by decide) (ht _ q_226) (fun _ h => h) rfl rfl (Nat.le_of_ble_eq_true rfl) (ent_4 hk) hdg kk
theorem gf_X9_227 (hx : p.tables.exec = Jvm.exec) (hb : c.code = cc) (ht : ∀ w ∈ W0, w.before args s = true) (hN : NW s) (hown : s.vm.findClass "Leastreader" = some m.cls) (hK : TK D cI cM s) (hw : TW D ad cI cM s μ H locs) (hk : kd k = 4) (hdg : decode cc pc = .ok (.getfield 227, 3)) (kk : W p l e R s m args below meth c H locs cells slots Q (F0 m (pc + 3) ls (.int (μ k 9) :: rest))) : W p l e R s m args below meth c H locs cells slots Q (F0 m pc ls (.ref (ad k) :: rest)) := t_getN hx hb ht in_4 hown hK hw (kd_lt (by omega)) (ent_4 hk) cl_4 (i := 9) (by decide) (nwu_227 hN) (fun _ h => h) rfl hdg kk
theorem pgf_X9_227 {v : Int32} (hx : p.tables.exec = Jvm.exec) (hb : c.code = cc) (ht : ∀ w ∈ W0, w.before args s = true) (hN : NW s) (hown : s.vm.findClass "Leastreader" = some m.cls) (hK : TK D cI cM s) (hw : TW D ad cI cM s μ H locs) (hk : kd k = 4) (hdg : decode cc pc = .ok (.putfield 227, 3)) (kk : ∀ (H1 : Heap) (locs1 : List Loc), TW D ad cI cM s (tms μ k 9 v) H1 locs1 → W p l e R s m args below meth c H1 locs1 cells slots Q (F0 m (pc + 3) ls rest)) : W p l e R s m args below meth c H locs cells slots Q (F0 m pc ls (.int v :: .ref (ad k) :: rest)) := t_putN hx hb ht in_4 tyX4 tyX4_ok nmX4 hown hK hw (kd_lt (by omega)) (ent_4 hk) cl_4 (i := 9) (by decide) (nwu_227 hN) (fun _ h => h) rfl rfl (Nat.le_of_ble_eq_true rfl) (ent_4 hk) hdg kk
theorem gf_X8_14 (hx : p.tables.exec = Jvm.exec) (hb : c.code = cc) (ht : ∀ w ∈ W0, w.before args s = true) (hown : s.vm.findClass "Leastreader$Tails" = some m.cls) (hK : TK D cI cM s) (hw : TW D ad cI cM s μ H locs) (hk : kd k = 7) (hdg : decode cc pc = .ok (.getfield 14, 3)) (kk : W p l e R s m args below meth c H locs cells slots Q (F0 m (pc + 3) ls (.ref (ad (k + 1)) :: rest))) : W p l e R s m args below meth c H locs cells slots Q (F0 m pc ls (.ref (ad k) :: rest)) := t_get hx hb ht in_7 hown hK hw (kd_lt (by omega)) (ent_7 hk) cl_7 (i := 0) (by decide) (ht _ q_257) (fun _ h => h) rfl hdg kk
theorem gf_X9_11 (hx : p.tables.exec = Jvm.exec) (hb : c.code = cc) (ht : ∀ w ∈ W0, w.before args s = true) (hown : s.vm.findClass "Leastreader" = some m.cls) (hK : TK D cI cM s) (hw : TW D ad cI cM s μ H locs) (hk : kd k = 8) (hdg : decode cc pc = .ok (.getfield 11, 3)) (kk : W p l e R s m args below meth c H locs cells slots Q (F0 m (pc + 3) ls (.ref (ad 1) :: rest))) : W p l e R s m args below meth c H locs cells slots Q (F0 m pc ls (.ref (ad k) :: rest)) := t_get hx hb ht in_8 hown hK hw (kd_lt (by omega)) (ent_8 hk) cl_8 (i := 0) (by decide) (ht _ q_263) (fun _ h => h) rfl hdg kk
theorem gf_X9_18 (hx : p.tables.exec = Jvm.exec) (hb : c.code = cc) (ht : ∀ w ∈ W0, w.before args s = true) (hown : s.vm.findClass "Leastreader" = some m.cls) (hK : TK D cI cM s) (hw : TW D ad cI cM s μ H locs) (hk : kd k = 8) (hdg : decode cc pc = .ok (.getfield 18, 3)) (kk : W p l e R s m args below meth c H locs cells slots Q (F0 m (pc + 3) ls (.ref (ad 10) :: rest))) : W p l e R s m args below meth c H locs cells slots Q (F0 m pc ls (.ref (ad k) :: rest)) := t_get hx hb ht in_8 hown hK hw (kd_lt (by omega)) (ent_8 hk) cl_8 (i := 1) (by decide) (ht _ q_264) (fun _ h => h) rfl hdg kk
theorem gf_X9_22 (hx : p.tables.exec = Jvm.exec) (hb : c.code = cc) (ht : ∀ w ∈ W0, w.before args s = true) (hown : s.vm.findClass "Leastreader" = some m.cls) (hK : TK D cI cM s) (hw : TW D ad cI cM s μ H locs) (hk : kd k = 8) (hdg : decode cc pc = .ok (.getfield 22, 3)) (kk : W p l e R s m args below meth c H locs cells slots Q (F0 m (pc + 3) ls (.ref (ad 12) :: rest))) : W p l e R s m args below meth c H locs cells slots Q (F0 m pc ls (.ref (ad k) :: rest)) := t_get hx hb ht in_8 hown hK hw (kd_lt (by omega)) (ent_8 hk) cl_8 (i := 2) (by decide) (ht _ q_265) (fun _ h => h) rfl hdg kk
theorem gf_X9_28 (hx : p.tables.exec = Jvm.exec) (hb : c.code = cc) (ht : ∀ w ∈ W0, w.before args s = true) (hown : s.vm.findClass "Leastreader" = some m.cls) (hK : TK D cI cM s) (hw : TW D ad cI cM s μ H locs) (hk : kd k = 8) (hdg : decode cc pc = .ok (.getfield 28, 3)) (kk : W p l e R s m args below meth c H locs cells slots Q (F0 m (pc + 3) ls (.ref (ad 14) :: rest))) : W p l e R s m args below meth c H locs cells slots Q (F0 m pc ls (.ref (ad k) :: rest)) := t_get hx hb ht in_8 hown hK hw (kd_lt (by omega)) (ent_8 hk) cl_8 (i := 3) (by decide) (ht _ q_266) (fun _ h => h) rfl hdg kk
theorem gf_X9_35 (hx : p.tables.exec = Jvm.exec) (hb : c.code = cc) (ht : ∀ w ∈ W0, w.before args s = true) (hown : s.vm.findClass "Leastreader" = some m.cls) (hK : TK D cI cM s) (hw : TW D ad cI cM s μ H locs) (hk : kd k = 8) (hdg : decode cc pc = .ok (.getfield 35, 3)) (kk : W p l e R s m args below meth c H locs cells slots Q (F0 m (pc + 3) ls (.ref (ad 15) :: rest))) : W p l e R s m args below meth c H locs cells slots Q (F0 m pc ls (.ref (ad k) :: rest)) := t_get hx hb ht in_8 hown hK hw (kd_lt (by omega)) (ent_8 hk) cl_8 (i := 4) (by decide) (ht _ q_267) (fun _ h => h) rfl hdg kk
theorem gf_X9_42 (hx : p.tables.exec = Jvm.exec) (hb : c.code = cc) (ht : ∀ w ∈ W0, w.before args s = true) (hown : s.vm.findClass "Leastreader" = some m.cls) (hK : TK D cI cM s) (hw : TW D ad cI cM s μ H locs) (hk : kd k = 8) (hdg : decode cc pc = .ok (.getfield 42, 3)) (kk : W p l e R s m args below meth c H locs cells slots Q (F0 m (pc + 3) ls (.ref (ad 35) :: rest))) : W p l e R s m args below meth c H locs cells slots Q (F0 m pc ls (.ref (ad k) :: rest)) := t_get hx hb ht in_8 hown hK hw (kd_lt (by omega)) (ent_8 hk) cl_8 (i := 5) (by decide) (ht _ q_268) (fun _ h => h) rfl hdg kk
theorem gf_X9_49 (hx : p.tables.exec = Jvm.exec) (hb : c.code = cc) (ht : ∀ w ∈ W0, w.before args s = true) (hown : s.vm.findClass "Leastreader" = some m.cls) (hK : TK D cI cM s) (hw : TW D ad cI cM s μ H locs) (hk : kd k = 8) (hdg : decode cc pc = .ok (.getfield 49, 3)) (kk : W p l e R s m args below meth c H locs cells slots Q (F0 m (pc + 3) ls (.ref (ad 48) :: rest))) : W p l e R s m args below meth c H locs cells slots Q (F0 m pc ls (.ref (ad k) :: rest)) := t_get hx hb ht in_8 hown hK hw (kd_lt (by omega)) (ent_8 hk) cl_8 (i := 6) (by decide) (ht _ q_269) (fun _ h => h) rfl hdg kk
theorem gf_X9_56 (hx : p.tables.exec = Jvm.exec) (hb : c.code = cc) (ht : ∀ w ∈ W0, w.before args s = true) (hown : s.vm.findClass "Leastreader" = some m.cls) (hK : TK D cI cM s) (hw : TW D ad cI cM s μ H locs) (hk : kd k = 8) (hdg : decode cc pc = .ok (.getfield 56, 3)) (kk : W p l e R s m args below meth c H locs cells slots Q (F0 m (pc + 3) ls (.ref (ad 51) :: rest))) : W p l e R s m args below meth c H locs cells slots Q (F0 m pc ls (.ref (ad k) :: rest)) := t_get hx hb ht in_8 hown hK hw (kd_lt (by omega)) (ent_8 hk) cl_8 (i := 7) (by decide) (ht _ q_270) (fun _ h => h) rfl hdg kk
theorem gf_X9_60 (hx : p.tables.exec = Jvm.exec) (hb : c.code = cc) (ht : ∀ w ∈ W0, w.before args s = true) (hown : s.vm.findClass "Leastreader" = some m.cls) (hK : TK D cI cM s) (hw : TW D ad cI cM s μ H locs) (hk : kd k = 8) (hdg : decode cc pc = .ok (.getfield 60, 3)) (kk : W p l e R s m args below meth c H locs cells slots Q (F0 m (pc + 3) ls (.ref (ad 53) :: rest))) : W p l e R s m args below meth c H locs cells slots Q (F0 m pc ls (.ref (ad k) :: rest)) := t_get hx hb ht in_8 hown hK hw (kd_lt (by omega)) (ent_8 hk) cl_8 (i := 8) (by decide) (ht _ q_271) (fun _ h => h) rfl hdg kk
theorem gf_X9_63 (hx : p.tables.exec = Jvm.exec) (hb : c.code = cc) (ht : ∀ w ∈ W0, w.before args s = true) (hown : s.vm.findClass "Leastreader" = some m.cls) (hK : TK D cI cM s) (hw : TW D ad cI cM s μ H locs) (hk : kd k = 8) (hdg : decode cc pc = .ok (.getfield 63, 3)) (kk : W p l e R s m args below meth c H locs cells slots Q (F0 m (pc + 3) ls (.ref (ad 55) :: rest))) : W p l e R s m args below meth c H locs cells slots Q (F0 m pc ls (.ref (ad k) :: rest)) := t_get hx hb ht in_8 hown hK hw (kd_lt (by omega)) (ent_8 hk) cl_8 (i := 9) (by decide) (ht _ q_272) (fun _ h => h) rfl hdg kk
theorem gf_X9_66 (hx : p.tables.exec = Jvm.exec) (hb : c.code = cc) (ht : ∀ w ∈ W0, w.before args s = true) (hown : s.vm.findClass "Leastreader" = some m.cls) (hK : TK D cI cM s) (hw : TW D ad cI cM s μ H locs) (hk : kd k = 8) (hdg : decode cc pc = .ok (.getfield 66, 3)) (kk : W p l e R s m args below meth c H locs cells slots Q (F0 m (pc + 3) ls (.ref (ad 57) :: rest))) : W p l e R s m args below meth c H locs cells slots Q (F0 m pc ls (.ref (ad k) :: rest)) := t_get hx hb ht in_8 hown hK hw (kd_lt (by omega)) (ent_8 hk) cl_8 (i := 10) (by decide) (ht _ q_273) (fun _ h => h) rfl hdg kk
theorem gf_X9_246 (hx : p.tables.exec = Jvm.exec) (hb : c.code = cc) (ht : ∀ w ∈ W0, w.before args s = true) (hown : s.vm.findClass "Leastreader" = some m.cls) (hK : TK D cI cM s) (hw : TW D ad cI cM s μ H locs) (hk : kd k = 8) (hdg : decode cc pc = .ok (.getfield 246, 3)) (kk : W p l e R s m args below meth c H locs cells slots Q (F0 m (pc + 3) ls (.int (μ k 11) :: rest))) : W p l e R s m args below meth c H locs cells slots Q (F0 m pc ls (.ref (ad k) :: rest)) := t_get hx hb ht in_8 hown hK hw (kd_lt (by omega)) (ent_8 hk) cl_8 (i := 11) (by decide) (ht _ q_274) (fun _ h => h) rfl hdg kk
theorem pgf_X9_246 {v : Int32} (hx : p.tables.exec = Jvm.exec) (hb : c.code = cc) (ht : ∀ w ∈ W0, w.before args s = true) (hown : s.vm.findClass "Leastreader" = some m.cls) (hK : TK D cI cM s) (hw : TW D ad cI cM s μ H locs) (hk : kd k = 8) (hdg : decode cc pc = .ok (.putfield 246, 3)) (kk : ∀ (H1 : Heap) (locs1 : List Loc), TW D ad cI cM s (tms μ k 11 v) H1 locs1 → W p l e R s m args below meth c H1 locs1 cells slots Q (F0 m (pc + 3) ls rest)) : W p l e R s m args below meth c H locs cells slots Q (F0 m pc ls (.int v :: .ref (ad k) :: rest)) := t_put hx hb ht in_8 tyX9 tyX9_ok nmX9 hown hK hw (kd_lt (by omega)) (ent_8 hk) cl_8 (i := 11) (by decide) (ht _ q_274) (fun _ h => h) rfl rfl (Nat.le_of_ble_eq_true rfl) (ent_8 hk) hdg kk
theorem gf_X9_249 (hx : p.tables.exec = Jvm.exec) (hb : c.code = cc) (ht : ∀ w ∈ W0, w.before args s = true) (hown : s.vm.findClass "Leastreader" = some m.cls) (hK : TK D cI cM s) (hw : TW D ad cI cM s μ H locs) (hk : kd k = 8) (hdg : decode cc pc = .ok (.getfield 249, 3)) (kk : W p l e R s m args below meth c H locs cells slots Q (F0 m (pc + 3) ls (.int (μ k 12) :: rest))) : W p l e R s m args below meth c H locs cells slots Q (F0 m pc ls (.ref (ad k) :: rest)) := t_get hx hb ht in_8 hown hK hw (kd_lt (by omega)) (ent_8 hk) cl_8 (i := 12) (by decide) (ht _ q_275) (fun _ h => h) rfl hdg kk
theorem pgf_X9_249 {v : Int32} (hx : p.tables.exec = Jvm.exec) (hb : c.code = cc) (ht : ∀ w ∈ W0, w.before args s = true) (hown : s.vm.findClass "Leastreader" = some m.cls) (hK : TK D cI cM s) (hw : TW D ad cI cM s μ H locs) (hk : kd k = 8) (hdg : decode cc pc = .ok (.putfield 249, 3)) (kk : ∀ (H1 : Heap) (locs1 : List Loc), TW D ad cI cM s (tms μ k 12 v) H1 locs1 → W p l e R s m args below meth c H1 locs1 cells slots Q (F0 m (pc + 3) ls rest)) : W p l e R s m args below meth c H locs cells slots Q (F0 m pc ls (.int v :: .ref (ad k) :: rest)) := t_put hx hb ht in_8 tyX9 tyX9_ok nmX9 hown hK hw (kd_lt (by omega)) (ent_8 hk) cl_8 (i := 12) (by decide) (ht _ q_275) (fun _ h => h) rfl rfl (Nat.le_of_ble_eq_true rfl) (ent_8 hk) hdg kk
theorem gf_X9_252 (hx : p.tables.exec = Jvm.exec) (hb : c.code = cc) (ht : ∀ w ∈ W0, w.before args s = true) (hown : s.vm.findClass "Leastreader" = some m.cls) (hK : TK D cI cM s) (hw : TW D ad cI cM s μ H locs) (hk : kd k = 8) (hdg : decode cc pc = .ok (.getfield 252, 3)) (kk : W p l e R s m args below meth c H locs cells slots Q (F0 m (pc + 3) ls (.int (μ k 13) :: rest))) : W p l e R s m args below meth c H locs cells slots Q (F0 m pc ls (.ref (ad k) :: rest)) := t_get hx hb ht in_8 hown hK hw (kd_lt (by omega)) (ent_8 hk) cl_8 (i := 13) (by decide) (ht _ q_276) (fun _ h => h) rfl hdg kk
theorem pgf_X9_252 {v : Int32} (hx : p.tables.exec = Jvm.exec) (hb : c.code = cc) (ht : ∀ w ∈ W0, w.before args s = true) (hown : s.vm.findClass "Leastreader" = some m.cls) (hK : TK D cI cM s) (hw : TW D ad cI cM s μ H locs) (hk : kd k = 8) (hdg : decode cc pc = .ok (.putfield 252, 3)) (kk : ∀ (H1 : Heap) (locs1 : List Loc), TW D ad cI cM s (tms μ k 13 v) H1 locs1 → W p l e R s m args below meth c H1 locs1 cells slots Q (F0 m (pc + 3) ls rest)) : W p l e R s m args below meth c H locs cells slots Q (F0 m pc ls (.int v :: .ref (ad k) :: rest)) := t_put hx hb ht in_8 tyX9 tyX9_ok nmX9 hown hK hw (kd_lt (by omega)) (ent_8 hk) cl_8 (i := 13) (by decide) (ht _ q_276) (fun _ h => h) rfl rfl (Nat.le_of_ble_eq_true rfl) (ent_8 hk) hdg kk
end TFR
theorem kd_of {k i : Nat} (h : kd k = i) (hi : i < 99) : k < 59 := kd_lt (by omega)
theorem vp_lt {i : Int32} {n : Nat} (h : vp_in i n) : i.toNatClampNeg < n := Nat.not_le.mp fun q => h (Or.inr q)
theorem sw_out {x : Int32} {lo hi : Int} (h : ∀ j : Int, lo ≤ j → j ≤ hi → ¬ x = Int32.ofInt j) : x.toInt < lo ∨ hi < x.toInt := by
  rcases Int.lt_or_le x.toInt lo with a | a
  · exact Or.inl a
  · rcases Int.lt_or_le hi x.toInt with b | b
    · exact Or.inr b
    · exact absurd (Int32.ofInt_toInt x).symm (h _ a b)
theorem hd_0 : (yX7_at : MethodName).cls ≠ "java/lang/invoke/MethodHandle" ∧ (yX7_at : MethodName).cls ≠ "java/lang/invoke/VarHandle" ∧ (parseMethodDescriptor (yX7_at : MethodName).desc).map (fun d => d.parameters.length) = some 2 := by decide +kernel
theorem hd_1 : (yX7_put : MethodName).cls ≠ "java/lang/invoke/MethodHandle" ∧ (yX7_put : MethodName).cls ≠ "java/lang/invoke/VarHandle" ∧ (parseMethodDescriptor (yX7_put : MethodName).desc).map (fun d => d.parameters.length) = some 3 := by decide +kernel
theorem hd_2 : (yX2_becomePlain : MethodName).cls ≠ "java/lang/invoke/MethodHandle" ∧ (yX2_becomePlain : MethodName).cls ≠ "java/lang/invoke/VarHandle" ∧ (parseMethodDescriptor (yX2_becomePlain : MethodName).desc).map (fun d => d.parameters.length) = some 1 := by decide +kernel
theorem hd_3 : (yX9_acted : MethodName).cls ≠ "java/lang/invoke/MethodHandle" ∧ (yX9_acted : MethodName).cls ≠ "java/lang/invoke/VarHandle" ∧ (parseMethodDescriptor (yX9_acted : MethodName).desc).map (fun d => d.parameters.length) = some 1 := by decide +kernel
theorem hd_4 : (yX9_refuse : MethodName).cls ≠ "java/lang/invoke/MethodHandle" ∧ (yX9_refuse : MethodName).cls ≠ "java/lang/invoke/VarHandle" ∧ (parseMethodDescriptor (yX9_refuse : MethodName).desc).map (fun d => d.parameters.length) = some 0 := by decide +kernel
theorem hd_5 : (yX9_isIn : MethodName).cls ≠ "java/lang/invoke/MethodHandle" ∧ (yX9_isIn : MethodName).cls ≠ "java/lang/invoke/VarHandle" ∧ (parseMethodDescriptor (yX9_isIn : MethodName).desc).map (fun d => d.parameters.length) = some 2 := by decide +kernel
theorem hd_6 : (yX6_find : MethodName).cls ≠ "java/lang/invoke/MethodHandle" ∧ (yX6_find : MethodName).cls ≠ "java/lang/invoke/VarHandle" ∧ (parseMethodDescriptor (yX6_find : MethodName).desc).map (fun d => d.parameters.length) = some 2 := by decide +kernel
theorem hd_7 : (yX6_put : MethodName).cls ≠ "java/lang/invoke/MethodHandle" ∧ (yX6_put : MethodName).cls ≠ "java/lang/invoke/VarHandle" ∧ (parseMethodDescriptor (yX6_put : MethodName).desc).map (fun d => d.parameters.length) = some 2 := by decide +kernel
theorem hd_8 : (yX6_at : MethodName).cls ≠ "java/lang/invoke/MethodHandle" ∧ (yX6_at : MethodName).cls ≠ "java/lang/invoke/VarHandle" ∧ (parseMethodDescriptor (yX6_at : MethodName).desc).map (fun d => d.parameters.length) = some 1 := by decide +kernel
theorem hd_9 : (yX9_withOrWithout : MethodName).cls ≠ "java/lang/invoke/MethodHandle" ∧ (yX9_withOrWithout : MethodName).cls ≠ "java/lang/invoke/VarHandle" ∧ (parseMethodDescriptor (yX9_withOrWithout : MethodName).desc).map (fun d => d.parameters.length) = some 3 := by decide +kernel
theorem hd_10 : (yX2_reach : MethodName).cls ≠ "java/lang/invoke/MethodHandle" ∧ (yX2_reach : MethodName).cls ≠ "java/lang/invoke/VarHandle" ∧ (parseMethodDescriptor (yX2_reach : MethodName).desc).map (fun d => d.parameters.length) = some 2 := by decide +kernel
theorem hd_11 : (yX3_numberOf : MethodName).cls ≠ "java/lang/invoke/MethodHandle" ∧ (yX3_numberOf : MethodName).cls ≠ "java/lang/invoke/VarHandle" ∧ (parseMethodDescriptor (yX3_numberOf : MethodName).desc).map (fun d => d.parameters.length) = some 2 := by decide +kernel
theorem hd_12 : (yX4_isGoal : MethodName).cls ≠ "java/lang/invoke/MethodHandle" ∧ (yX4_isGoal : MethodName).cls ≠ "java/lang/invoke/VarHandle" ∧ (parseMethodDescriptor (yX4_isGoal : MethodName).desc).map (fun d => d.parameters.length) = some 2 := by decide +kernel
theorem hd_13 : (yX6_fill : MethodName).cls ≠ "java/lang/invoke/MethodHandle" ∧ (yX6_fill : MethodName).cls ≠ "java/lang/invoke/VarHandle" ∧ (parseMethodDescriptor (yX6_fill : MethodName).desc).map (fun d => d.parameters.length) = some 1 := by decide +kernel
theorem hd_14 : (yX4_add : MethodName).cls ≠ "java/lang/invoke/MethodHandle" ∧ (yX4_add : MethodName).cls ≠ "java/lang/invoke/VarHandle" ∧ (parseMethodDescriptor (yX4_add : MethodName).desc).map (fun d => d.parameters.length) = some 4 := by decide +kernel
theorem hd_15 : (yX3_makeOneWay : MethodName).cls ≠ "java/lang/invoke/MethodHandle" ∧ (yX3_makeOneWay : MethodName).cls ≠ "java/lang/invoke/VarHandle" ∧ (parseMethodDescriptor (yX3_makeOneWay : MethodName).desc).map (fun d => d.parameters.length) = some 2 := by decide +kernel
theorem hd_16 : (yX4_meet : MethodName).cls ≠ "java/lang/invoke/MethodHandle" ∧ (yX4_meet : MethodName).cls ≠ "java/lang/invoke/VarHandle" ∧ (parseMethodDescriptor (yX4_meet : MethodName).desc).map (fun d => d.parameters.length) = some 4 := by decide +kernel
theorem hd_17 : (yX4_target : MethodName).cls ≠ "java/lang/invoke/MethodHandle" ∧ (yX4_target : MethodName).cls ≠ "java/lang/invoke/VarHandle" ∧ (parseMethodDescriptor (yX4_target : MethodName).desc).map (fun d => d.parameters.length) = some 2 := by decide +kernel
theorem hd_18 : (yX5_isGoal : MethodName).cls ≠ "java/lang/invoke/MethodHandle" ∧ (yX5_isGoal : MethodName).cls ≠ "java/lang/invoke/VarHandle" ∧ (parseMethodDescriptor (yX5_isGoal : MethodName).desc).map (fun d => d.parameters.length) = some 1 := by decide +kernel
theorem hd_19 : (yX1_codeOf : MethodName).cls ≠ "java/lang/invoke/MethodHandle" ∧ (yX1_codeOf : MethodName).cls ≠ "java/lang/invoke/VarHandle" ∧ (parseMethodDescriptor (yX1_codeOf : MethodName).desc).map (fun d => d.parameters.length) = some 2 := by decide +kernel
theorem hd_20 : (yX1_firstOfGoalness : MethodName).cls ≠ "java/lang/invoke/MethodHandle" ∧ (yX1_firstOfGoalness : MethodName).cls ≠ "java/lang/invoke/VarHandle" ∧ (parseMethodDescriptor (yX1_firstOfGoalness : MethodName).desc).map (fun d => d.parameters.length) = some 2 := by decide +kernel
theorem hd_21 : (yX1_partOnce : MethodName).cls ≠ "java/lang/invoke/MethodHandle" ∧ (yX1_partOnce : MethodName).cls ≠ "java/lang/invoke/VarHandle" ∧ (parseMethodDescriptor (yX1_partOnce : MethodName).desc).map (fun d => d.parameters.length) = some 1 := by decide +kernel
theorem hd_22 : (yX1_partOf : MethodName).cls ≠ "java/lang/invoke/MethodHandle" ∧ (yX1_partOf : MethodName).cls ≠ "java/lang/invoke/VarHandle" ∧ (parseMethodDescriptor (yX1_partOf : MethodName).desc).map (fun d => d.parameters.length) = some 1 := by decide +kernel
theorem hd_23 : (yX3_groupNumber : MethodName).cls ≠ "java/lang/invoke/MethodHandle" ∧ (yX3_groupNumber : MethodName).cls ≠ "java/lang/invoke/VarHandle" ∧ (parseMethodDescriptor (yX3_groupNumber : MethodName).desc).map (fun d => d.parameters.length) = some 2 := by decide +kernel
theorem hd_24 : (yX1_findByParting : MethodName).cls ≠ "java/lang/invoke/MethodHandle" ∧ (yX1_findByParting : MethodName).cls ≠ "java/lang/invoke/VarHandle" ∧ (parseMethodDescriptor (yX1_findByParting : MethodName).desc).map (fun d => d.parameters.length) = some 1 := by decide +kernel
theorem hd_25 : (yX3_makeGroups : MethodName).cls ≠ "java/lang/invoke/MethodHandle" ∧ (yX3_makeGroups : MethodName).cls ≠ "java/lang/invoke/VarHandle" ∧ (parseMethodDescriptor (yX3_makeGroups : MethodName).desc).map (fun d => d.parameters.length) = some 2 := by decide +kernel
theorem hd_26 : (yX9_meetPairs : MethodName).cls ≠ "java/lang/invoke/MethodHandle" ∧ (yX9_meetPairs : MethodName).cls ≠ "java/lang/invoke/VarHandle" ∧ (parseMethodDescriptor (yX9_meetPairs : MethodName).desc).map (fun d => d.parameters.length) = some 4 := by decide +kernel
theorem hd_27 : (yX5_becomePairs : MethodName).cls ≠ "java/lang/invoke/MethodHandle" ∧ (yX5_becomePairs : MethodName).cls ≠ "java/lang/invoke/VarHandle" ∧ (parseMethodDescriptor (yX5_becomePairs : MethodName).desc).map (fun d => d.parameters.length) = some 2 := by decide +kernel
theorem hd_28 : (yX3_lessen : MethodName).cls ≠ "java/lang/invoke/MethodHandle" ∧ (yX3_lessen : MethodName).cls ≠ "java/lang/invoke/VarHandle" ∧ (parseMethodDescriptor (yX3_lessen : MethodName).desc).map (fun d => d.parameters.length) = some 2 := by decide +kernel
theorem hd_29 : (yX2_statesAfter : MethodName).cls ≠ "java/lang/invoke/MethodHandle" ∧ (yX2_statesAfter : MethodName).cls ≠ "java/lang/invoke/VarHandle" ∧ (parseMethodDescriptor (yX2_statesAfter : MethodName).desc).map (fun d => d.parameters.length) = some 2 := by decide +kernel
theorem hd_30 : (yX9_countCodes : MethodName).cls ≠ "java/lang/invoke/MethodHandle" ∧ (yX9_countCodes : MethodName).cls ≠ "java/lang/invoke/VarHandle" ∧ (parseMethodDescriptor (yX9_countCodes : MethodName).desc).map (fun d => d.parameters.length) = some 1 := by decide +kernel
theorem hd_31 : (yX5_stateAfter : MethodName).cls ≠ "java/lang/invoke/MethodHandle" ∧ (yX5_stateAfter : MethodName).cls ≠ "java/lang/invoke/VarHandle" ∧ (parseMethodDescriptor (yX5_stateAfter : MethodName).desc).map (fun d => d.parameters.length) = some 2 := by decide +kernel
theorem hd_32 : (yX2_isTaking : MethodName).cls ≠ "java/lang/invoke/MethodHandle" ∧ (yX2_isTaking : MethodName).cls ≠ "java/lang/invoke/VarHandle" ∧ (parseMethodDescriptor (yX2_isTaking : MethodName).desc).map (fun d => d.parameters.length) = some 2 := by decide +kernel
theorem hd_33 : (yJ6_bitCount_0f7a4 : MethodName).cls ≠ "java/lang/invoke/MethodHandle" ∧ (yJ6_bitCount_0f7a4 : MethodName).cls ≠ "java/lang/invoke/VarHandle" ∧ (parseMethodDescriptor (yJ6_bitCount_0f7a4 : MethodName).desc).map (fun d => d.parameters.length) = some 1 := by decide +kernel
theorem hd_34 : (yX2_countArrows : MethodName).cls ≠ "java/lang/invoke/MethodHandle" ∧ (yX2_countArrows : MethodName).cls ≠ "java/lang/invoke/VarHandle" ∧ (parseMethodDescriptor (yX2_countArrows : MethodName).desc).map (fun d => d.parameters.length) = some 0 := by decide +kernel
theorem hd_35 : (yX2_isPlain : MethodName).cls ≠ "java/lang/invoke/MethodHandle" ∧ (yX2_isPlain : MethodName).cls ≠ "java/lang/invoke/VarHandle" ∧ (parseMethodDescriptor (yX2_isPlain : MethodName).desc).map (fun d => d.parameters.length) = some 0 := by decide +kernel
theorem hd_36 : (yX1_isLeadingToUnlike : MethodName).cls ≠ "java/lang/invoke/MethodHandle" ∧ (yX1_isLeadingToUnlike : MethodName).cls ≠ "java/lang/invoke/VarHandle" ∧ (parseMethodDescriptor (yX1_isLeadingToUnlike : MethodName).desc).map (fun d => d.parameters.length) = some 3 := by decide +kernel
theorem hd_37 : (yX1_ofOtherGoalness : MethodName).cls ≠ "java/lang/invoke/MethodHandle" ∧ (yX1_ofOtherGoalness : MethodName).cls ≠ "java/lang/invoke/VarHandle" ∧ (parseMethodDescriptor (yX1_ofOtherGoalness : MethodName).desc).map (fun d => d.parameters.length) = some 2 := by decide +kernel
theorem hd_38 : (yX1_tellFurther : MethodName).cls ≠ "java/lang/invoke/MethodHandle" ∧ (yX1_tellFurther : MethodName).cls ≠ "java/lang/invoke/VarHandle" ∧ (parseMethodDescriptor (yX1_tellFurther : MethodName).desc).map (fun d => d.parameters.length) = some 1 := by decide +kernel
theorem hd_39 : (yX1_firstNotUnlike : MethodName).cls ≠ "java/lang/invoke/MethodHandle" ∧ (yX1_firstNotUnlike : MethodName).cls ≠ "java/lang/invoke/VarHandle" ∧ (parseMethodDescriptor (yX1_firstNotUnlike : MethodName).desc).map (fun d => d.parameters.length) = some 1 := by decide +kernel
theorem hd_40 : (yX2_addState : MethodName).cls ≠ "java/lang/invoke/MethodHandle" ∧ (yX2_addState : MethodName).cls ≠ "java/lang/invoke/VarHandle" ∧ (parseMethodDescriptor (yX2_addState : MethodName).desc).map (fun d => d.parameters.length) = some 0 := by decide +kernel
theorem hd_41 : (yX0_draw : MethodName).cls ≠ "java/lang/invoke/MethodHandle" ∧ (yX0_draw : MethodName).cls ≠ "java/lang/invoke/VarHandle" ∧ (parseMethodDescriptor (yX0_draw : MethodName).desc).map (fun d => d.parameters.length) = some 0 := by decide +kernel
theorem hd_42 : (yX2_sowSome : MethodName).cls ≠ "java/lang/invoke/MethodHandle" ∧ (yX2_sowSome : MethodName).cls ≠ "java/lang/invoke/VarHandle" ∧ (parseMethodDescriptor (yX2_sowSome : MethodName).desc).map (fun d => d.parameters.length) = some 2 := by decide +kernel
theorem hd_43 : (yX2_sowOne : MethodName).cls ≠ "java/lang/invoke/MethodHandle" ∧ (yX2_sowOne : MethodName).cls ≠ "java/lang/invoke/VarHandle" ∧ (parseMethodDescriptor (yX2_sowOne : MethodName).desc).map (fun d => d.parameters.length) = some 1 := by decide +kernel
theorem hd_44 : (yX7_isSameTable : MethodName).cls ≠ "java/lang/invoke/MethodHandle" ∧ (yX7_isSameTable : MethodName).cls ≠ "java/lang/invoke/VarHandle" ∧ (parseMethodDescriptor (yX7_isSameTable : MethodName).desc).map (fun d => d.parameters.length) = some 1 := by decide +kernel
theorem hd_45 : (yX2_sources : MethodName).cls ≠ "java/lang/invoke/MethodHandle" ∧ (yX2_sources : MethodName).cls ≠ "java/lang/invoke/VarHandle" ∧ (parseMethodDescriptor (yX2_sources : MethodName).desc).map (fun d => d.parameters.length) = some 2 := by decide +kernel
theorem hd_46 : (yX2_closeUp : MethodName).cls ≠ "java/lang/invoke/MethodHandle" ∧ (yX2_closeUp : MethodName).cls ≠ "java/lang/invoke/VarHandle" ∧ (parseMethodDescriptor (yX2_closeUp : MethodName).desc).map (fun d => d.parameters.length) = some 2 := by decide +kernel
theorem hd_47 : (yX2_becomeRound : MethodName).cls ≠ "java/lang/invoke/MethodHandle" ∧ (yX2_becomeRound : MethodName).cls ≠ "java/lang/invoke/VarHandle" ∧ (parseMethodDescriptor (yX2_becomeRound : MethodName).desc).map (fun d => d.parameters.length) = some 1 := by decide +kernel
theorem hd_48 : (yX1_findByPairs : MethodName).cls ≠ "java/lang/invoke/MethodHandle" ∧ (yX1_findByPairs : MethodName).cls ≠ "java/lang/invoke/VarHandle" ∧ (parseMethodDescriptor (yX1_findByPairs : MethodName).desc).map (fun d => d.parameters.length) = some 1 := by decide +kernel
theorem hd_49 : (yX3_makeByTurning : MethodName).cls ≠ "java/lang/invoke/MethodHandle" ∧ (yX3_makeByTurning : MethodName).cls ≠ "java/lang/invoke/VarHandle" ∧ (parseMethodDescriptor (yX3_makeByTurning : MethodName).desc).map (fun d => d.parameters.length) = some 2 := by decide +kernel
theorem hd_50 : (yX5_ledInto : MethodName).cls ≠ "java/lang/invoke/MethodHandle" ∧ (yX5_ledInto : MethodName).cls ≠ "java/lang/invoke/VarHandle" ∧ (parseMethodDescriptor (yX5_ledInto : MethodName).desc).map (fun d => d.parameters.length) = some 1 := by decide +kernel
theorem hd_51 : (yX8_from : MethodName).cls ≠ "java/lang/invoke/MethodHandle" ∧ (yX8_from : MethodName).cls ≠ "java/lang/invoke/VarHandle" ∧ (parseMethodDescriptor (yX8_from : MethodName).desc).map (fun d => d.parameters.length) = some 2 := by decide +kernel
theorem hd_52 : (yX8_sumOver : MethodName).cls ≠ "java/lang/invoke/MethodHandle" ∧ (yX8_sumOver : MethodName).cls ≠ "java/lang/invoke/VarHandle" ∧ (parseMethodDescriptor (yX8_sumOver : MethodName).desc).map (fun d => d.parameters.length) = some 3 := by decide +kernel
end
/-! part 09.xlib -/
section
section XLB
def SX (ad : Nat → Nat) (U : State) : Prop := vx_Zq Bundle.tN "UNASSIGNED_STACK" Bundle.steD (TA ad U.heap.size) U U.heap ∧ vx_Zq Bundle.tN "SUPPRESSED_SENTINEL" Bundle.listD (TA ad U.heap.size) U U.heap ∧ XN U ∧ SR U
theorem SX.pre {D : va_G} {ad : Nat → Nat} {cI cM : ClassId} {s : State} {μ : TMem} {H : Heap} {locs : List Loc} (h : SX ad s) (hw : TW D ad cI cM s μ H locs) {U : State} (hU : U.heap = H) (hW : s.WarmedH U.vm) : SX ad U := by
  obtain ⟨h1, h2, h3, h4⟩ := h
  refine ⟨?_, ?_, XN.warm hW h3, SR.warm hW h4⟩
  · rw [hU]
    exact vx_Zq.moved hW.alike ((h1.kept (H1 := H) (fun a ha hn => hw.2.2.2.1 a ha hn)).narrow (fun q z => TA.up hw.2.2.1 q z))
  · rw [hU]
    exact vx_Zq.moved hW.alike ((h2.kept (H1 := H) (fun a ha hn => hw.2.2.2.1 a ha hn)).narrow (fun q z => TA.up hw.2.2.1 q z))
def TBX (D : va_G) (ad : Nat → Nat) (cI cM : ClassId) (sz : Nat) (μ : TMem) : State → Prop := fun U => TB D ad cI cM sz μ U ∧ SX ad U
def TEX (D : va_G) (ad : Nat → Nat) (cI cM : ClassId) (X : String → TMem → Prop) : String → TMem → State → Prop := fun E μ1 t => X E μ1 ∧ TE D ad cI cM μ1 t
abbrev RX (h c n : Nat) : Room := { frames := h + 8, cells := c, slots := n, locals := 40 * h + 400 }
variable {p : Program} {l : Launch} {e : Env} {R : Room} {s : State} {m : MethodId} {args : Array Value} {below : List Frame} {meth : Method} {c : Code} {H : Heap} {locs : List Loc} {cells slots : Nat} {Q : State → Prop}
variable {cc : ByteArray} {pc : Nat} {ls : Array Slot} {rest : List Value} {D : va_G} {ad : Nat → Nat} {cI cM : ClassId} {μ : TMem} {k : Nat}
theorem TBX.blind {as : List Value} {sz : Nat} : FrameBlind (va_Pc as (TBX D ad cI cM sz μ)) := fun a U g mk q => by
  obtain ⟨q0, q1, h1, h2, h3, h4⟩ := q
  refine ⟨q0, (TB.blind a U g mk ⟨q0, q1⟩).2, ?_, ?_, XN.same (s := U) rfl h3, SR.same (s := U) rfl h4⟩
  · exact vx_Zq.moved (u := U) (U := U.calling g mk a) (Vm.Alike.refl U.vm) h1
  · exact vx_Zq.moved (u := U) (U := U.calling g mk a) (Vm.Alike.refl U.vm) h2
theorem TBX.pre {as : List Value} (hK : TK D cI cM s) (hN : NW s) (hX : SX ad s) (hw : TW D ad cI cM s μ H locs) : ∀ U : State, U.heap = H → s.WarmedH U.vm → va_Pc as (TBX D ad cI cM H.size μ) as.toArray U := fun U hU hW => ⟨rfl, (TB.pre (as := as) hK hN hw U hU hW).2, hX.pre hw hU hW⟩
theorem va_P_grow {ws : va_W} {H1 : Heap} (h : va_P D CL ws H) (ho : ∀ q : Nat, q < H.size → H1[q]? = H[q]?) : va_P D CL ws H1 := h.kept (fun k q hk => ho q.1 (h k q hk).lt)
def XMi (l : Launch) (y : MethodName) (cd : Cond) (h c n : Nat) (as : List Value) (D : va_G) (ad : Nat → Nat) (cI cM : ClassId) (sz : Nat) (μ : TMem) (Q : Int32 → TMem → Prop) (X : String → TMem → Prop) : Prop := vx_Met l y (cd :: W0) (RX h c n) (va_Pc as (TBX D ad cI cM sz μ)) (va_Qi Q (TE D ad cI cM) (TA ad sz)) (vx_X (fun _ : TMem => True) (TEX D ad cI cM X) (TA ad sz)) c n (TA ad sz)
def XMl (l : Launch) (y : MethodName) (cd : Cond) (h c n : Nat) (as : List Value) (D : va_G) (ad : Nat → Nat) (cI cM : ClassId) (sz : Nat) (μ : TMem) (Q : Int64 → TMem → Prop) (X : String → TMem → Prop) : Prop := vx_Met l y (cd :: W0) (RX h c n) (va_Pc as (TBX D ad cI cM sz μ)) (va_Ql Q (TE D ad cI cM) (TA ad sz)) (vx_X (fun _ : TMem => True) (TEX D ad cI cM X) (TA ad sz)) c n (TA ad sz)
def XMv (l : Launch) (y : MethodName) (cd : Cond) (h c n : Nat) (as : List Value) (D : va_G) (ad : Nat → Nat) (cI cM : ClassId) (sz : Nat) (μ : TMem) (Q : TMem → Prop) (X : String → TMem → Prop) : Prop := vx_Met l y (cd :: W0) (RX h c n) (va_Pc as (TBX D ad cI cM sz μ)) (va_Qv Q (TE D ad cI cM) (TA ad sz)) (vx_X (fun _ : TMem => True) (TEX D ad cI cM X) (TA ad sz)) c n (TA ad sz)
/-- an object of the tree comes back: its place -/
def XMo (l : Launch) (y : MethodName) (cd : Cond) (h c n : Nat) (as : List Value) (D : va_G) (ad : Nat → Nat) (cI cM : ClassId) (sz : Nat) (μ : TMem) (Q : Nat → TMem → Prop) (X : String → TMem → Prop) : Prop := vx_Met l y (cd :: W0) (RX h c n) (va_Pc as (TBX D ad cI cM sz μ)) (va_Qq (fun (r : Option Nat) (u : Nat × TMem) => r = some (ad u.1) ∧ kd u.1 = 2 ∧ Q u.1 u.2) (fun u t => TE D ad cI cM u.2 t) (TA ad sz)) (vx_X (fun _ : TMem => True) (TEX D ad cI cM X) (TA ad sz)) c n (TA ad sz)
/-- a text comes back, or nothing -/
def XMs (l : Launch) (y : MethodName) (cd : Cond) (h c n : Nat) (as : List Value) (D : va_G) (ad : Nat → Nat) (cI cM : ClassId) (sz : Nat) (μ : TMem) (Q : TMem → Prop) (X : String → TMem → Prop) : Prop := vx_Met l y (cd :: W0) (RX h c n) (va_Pc as (TBX D ad cI cM sz μ)) (va_Qq (fun (_ : Option Nat) (u : TMem) => Q u) (TE D ad cI cM) (TA ad sz)) (vx_X (fun _ : TMem => True) (TEX D ad cI cM X) (TA ad sz)) c n (TA ad sz)
theorem vx_callq2 {S SX : Type} {post : Option Nat → S → Prop} {px : SX → Prop} {B : S → State → Prop} {BX : String → SX → State → Prop} {AX A0 A1 : Nat → Prop} {st0 : List Value} {a : Array Value} {H0 : Heap} {mc ms : Nat} {free : Addr → Prop} (hr : vx_Run p l e R s m args below meth c H locs cells slots mc ms (F0 m pc ls st0) rest (va_Qq post B A1 a) (vx_X px BX AX) free) (hS : va_S A0 H0 H locs) (hA : ∀ q, q < H.size → A1 q → A0 q) (hf : ∀ q, free q → A0 q) (hAX : ∀ q, q < H.size → AX q → A0 q)
    (kx : ∀ (E : String) (ce : Cell) (q9 : Addr) (u : SX) (t : State) (H1 : Heap) (locs1 : List Loc), t.heap = H1 → s.vm.Alike t.vm → px u → BX E u t → H.size ≤ H1.size → (∀ q : Nat, q < H.size → ¬ AX q → H1[q]? = H[q]?) → va_S A0 H0 H1 locs1 → H1[q9]? = some ce → ce.vm = .none → s.vm.findClass E = some ce.cls → vx_W p l e R s m args below meth c H1 locs1 (cells + mc) (slots + ms) Q (F0 m pc ls rest) q9)
    (kk : ∀ (r : Option Nat) (u : S) (t : State) (H1 : Heap) (locs1 : List Loc), t.heap = H1 → s.vm.Alike t.vm → post r u → B u t → H.size ≤ H1.size → (∀ q : Nat, q < H.size → ¬ A1 q → H1[q]? = H[q]?) → va_S A0 H0 H1 locs1 → W p l e R s m args below meth c H1 locs1 (cells + mc) (slots + ms) Q (F0 m (pc + 3) ls (va_rf r :: rest))) : W p l e R s m args below meth c H locs cells slots Q (F0 m pc ls st0) := by
  intro T hT X
  rcases hr T hT X with ⟨v, st₀, t, T', L, h0, X', hL, e1, e2, ⟨⟨r, u, hv, hp, hb⟩, hF⟩, st⟩ | ⟨q, st₀, t, T', L, E, ce, h0, X', hL, e1, e2, ⟨u, hp, hb, hF⟩, hce, hcv, hcl, st⟩
  · cases hv
    obtain ⟨k1, k2, k3⟩ := vx_keep h0 e1 hS hA hf hL hF
    obtain ⟨t2, a1, b1⟩ := kk r u t T'.heap (locs ++ L) e1.symm (by rw [← e2]; exact X'.warmed.alike) hp hb k1 k2 k3 T' rfl X'
    exact ⟨t2, st t2 a1, b1⟩
  · obtain ⟨k1, k2, k3⟩ := vx_keep h0 e1 hS hAX hf hL hF
    obtain ⟨t2, a1, b1⟩ := kx E ce q u t T'.heap (locs ++ L) e1.symm (by rw [← e2]; exact X'.warmed.alike) hp hb k1 k2 k3 (by rw [e1]; exact hce) hcv hcl T' rfl X'
    exact ⟨t2, st.trans a1, b1⟩
variable {X : String → TMem → Prop} {Qc : Array Value → State → Outcome → State → Prop} {fc fn c1 n1 mc ms : Nat}
theorem X_calli {Q1 : Int32 → TMem → Prop} {st0 : List Value} {a : Array Value} (hw : TW D ad cI cM s μ H locs) (hout : ∀ x ∈ c.exceptionTable.toList, False) (hlocks : meth.locks = false) (e1 : cells + mc = c1) (e2 : slots + ms = n1) (g1 : c1 ≤ fc) (g2 : n1 ≤ fn) (hr : vx_Run p l e R s m args below meth c H locs cells slots mc ms (F0 m pc ls st0) rest (va_Qi Q1 (TE D ad cI cM) (TA ad H.size) a) (vx_X (fun _ : TMem => True) (TEX D ad cI cM X) (TA ad H.size)) (TA ad H.size))
    (kk : ∀ (r : Int32) (μ1 : TMem) (H1 : Heap) (locs1 : List Loc), Q1 r μ1 → TW D ad cI cM s μ1 H1 locs1 → W p l e R s m args below meth c H1 locs1 c1 n1 (vx_MQ below Qc (vx_X (fun _ : TMem => True) (TEX D ad cI cM X) (TA ad s.heap.size)) args s fc fn (TA ad s.heap.size)) (F0 m (pc + 3) ls (.int r :: rest))) : W p l e R s m args below meth c H locs cells slots (vx_MQ below Qc (vx_X (fun _ : TMem => True) (TEX D ad cI cM X) (TA ad s.heap.size)) args s fc fn (TA ad s.heap.size)) (F0 m pc ls st0) :=
  vx_calli hr hw.2.2 (fun q _ h => TA.up hw.2.2.1 q h) (fun q h => TA.up hw.2.2.1 q h) (fun q _ h => TA.up hw.2.2.1 q h)
    (fun E ce q9 u t H1 locs1 ht _ _ hB _ _ hS h1 h2 h3 => vx_out (fun x hx => (hout x hx).elim) hlocks h1 h2 h3 (fun t9 ht9 _ => ⟨u, trivial, ⟨hB.1, by rw [TE, ht9, ← ht]; exact hB.2⟩, hS.F ht9⟩) hS.2.2 (by omega) (by omega))
    (fun r u t H1 locs1 ht _ hq hB _ _ hS => e1 ▸ e2 ▸ kk r u H1 locs1 hq ⟨by rw [← ht]; exact hB, hw.2.1, hS⟩)
theorem X_calll {Q1 : Int64 → TMem → Prop} {st0 : List Value} {a : Array Value} (hw : TW D ad cI cM s μ H locs) (hout : ∀ x ∈ c.exceptionTable.toList, False) (hlocks : meth.locks = false) (e1 : cells + mc = c1) (e2 : slots + ms = n1) (g1 : c1 ≤ fc) (g2 : n1 ≤ fn) (hr : vx_Run p l e R s m args below meth c H locs cells slots mc ms (F0 m pc ls st0) rest (va_Ql Q1 (TE D ad cI cM) (TA ad H.size) a) (vx_X (fun _ : TMem => True) (TEX D ad cI cM X) (TA ad H.size)) (TA ad H.size))
    (kk : ∀ (r : Int64) (μ1 : TMem) (H1 : Heap) (locs1 : List Loc), Q1 r μ1 → TW D ad cI cM s μ1 H1 locs1 → W p l e R s m args below meth c H1 locs1 c1 n1 (vx_MQ below Qc (vx_X (fun _ : TMem => True) (TEX D ad cI cM X) (TA ad s.heap.size)) args s fc fn (TA ad s.heap.size)) (F0 m (pc + 3) ls (.long r :: rest))) : W p l e R s m args below meth c H locs cells slots (vx_MQ below Qc (vx_X (fun _ : TMem => True) (TEX D ad cI cM X) (TA ad s.heap.size)) args s fc fn (TA ad s.heap.size)) (F0 m pc ls st0) :=
  vx_calll hr hw.2.2 (fun q _ h => TA.up hw.2.2.1 q h) (fun q h => TA.up hw.2.2.1 q h) (fun q _ h => TA.up hw.2.2.1 q h)
    (fun E ce q9 u t H1 locs1 ht _ _ hB _ _ hS h1 h2 h3 => vx_out (fun x hx => (hout x hx).elim) hlocks h1 h2 h3 (fun t9 ht9 _ => ⟨u, trivial, ⟨hB.1, by rw [TE, ht9, ← ht]; exact hB.2⟩, hS.F ht9⟩) hS.2.2 (by omega) (by omega))
    (fun r u t H1 locs1 ht _ hq hB _ _ hS => e1 ▸ e2 ▸ kk r u H1 locs1 hq ⟨by rw [← ht]; exact hB, hw.2.1, hS⟩)
theorem X_callv {Q1 : TMem → Prop} {st0 : List Value} {a : Array Value} (hw : TW D ad cI cM s μ H locs) (hout : ∀ x ∈ c.exceptionTable.toList, False) (hlocks : meth.locks = false) (e1 : cells + mc = c1) (e2 : slots + ms = n1) (g1 : c1 ≤ fc) (g2 : n1 ≤ fn) (hr : vx_Run p l e R s m args below meth c H locs cells slots mc ms (F0 m pc ls st0) rest (va_Qv Q1 (TE D ad cI cM) (TA ad H.size) a) (vx_X (fun _ : TMem => True) (TEX D ad cI cM X) (TA ad H.size)) (TA ad H.size))
    (kk : ∀ (μ1 : TMem) (H1 : Heap) (locs1 : List Loc), Q1 μ1 → TW D ad cI cM s μ1 H1 locs1 → W p l e R s m args below meth c H1 locs1 c1 n1 (vx_MQ below Qc (vx_X (fun _ : TMem => True) (TEX D ad cI cM X) (TA ad s.heap.size)) args s fc fn (TA ad s.heap.size)) (F0 m (pc + 3) ls (rest))) : W p l e R s m args below meth c H locs cells slots (vx_MQ below Qc (vx_X (fun _ : TMem => True) (TEX D ad cI cM X) (TA ad s.heap.size)) args s fc fn (TA ad s.heap.size)) (F0 m pc ls st0) :=
  vx_callv hr hw.2.2 (fun q _ h => TA.up hw.2.2.1 q h) (fun q h => TA.up hw.2.2.1 q h) (fun q _ h => TA.up hw.2.2.1 q h)
    (fun E ce q9 u t H1 locs1 ht _ _ hB _ _ hS h1 h2 h3 => vx_out (fun x hx => (hout x hx).elim) hlocks h1 h2 h3 (fun t9 ht9 _ => ⟨u, trivial, ⟨hB.1, by rw [TE, ht9, ← ht]; exact hB.2⟩, hS.F ht9⟩) hS.2.2 (by omega) (by omega))
    (fun u t H1 locs1 ht _ hq hB _ _ hS => e1 ▸ e2 ▸ kk u H1 locs1 hq ⟨by rw [← ht]; exact hB, hw.2.1, hS⟩)
theorem X_callo {Q1 : Nat → TMem → Prop} {st0 : List Value} {a : Array Value} (hw : TW D ad cI cM s μ H locs) (hout : ∀ x ∈ c.exceptionTable.toList, False) (hlocks : meth.locks = false) (e1 : cells + mc = c1) (e2 : slots + ms = n1) (g1 : c1 ≤ fc) (g2 : n1 ≤ fn) (hr : vx_Run p l e R s m args below meth c H locs cells slots mc ms (F0 m pc ls st0) rest (va_Qq (fun (r : Option Nat) (u : Nat × TMem) => r = some (ad u.1) ∧ kd u.1 = 2 ∧ Q1 u.1 u.2) (fun u t => TE D ad cI cM u.2 t) (TA ad H.size) a) (vx_X (fun _ : TMem => True) (TEX D ad cI cM X) (TA ad H.size)) (TA ad H.size))
    (kk : ∀ (k : Nat) (μ1 : TMem) (H1 : Heap) (locs1 : List Loc), kd k = 2 → Q1 k μ1 → TW D ad cI cM s μ1 H1 locs1 → W p l e R s m args below meth c H1 locs1 c1 n1 (vx_MQ below Qc (vx_X (fun _ : TMem => True) (TEX D ad cI cM X) (TA ad s.heap.size)) args s fc fn (TA ad s.heap.size)) (F0 m (pc + 3) ls (.ref (ad k) :: rest))) : W p l e R s m args below meth c H locs cells slots (vx_MQ below Qc (vx_X (fun _ : TMem => True) (TEX D ad cI cM X) (TA ad s.heap.size)) args s fc fn (TA ad s.heap.size)) (F0 m pc ls st0) := by
  refine vx_callq2 hr hw.2.2 (fun q _ h => TA.up hw.2.2.1 q h) (fun q h => TA.up hw.2.2.1 q h) (fun q _ h => TA.up hw.2.2.1 q h)
    (fun E ce q9 u t H1 locs1 ht _ _ hB _ _ hS h1 h2 h3 => vx_out (fun x hx => (hout x hx).elim) hlocks h1 h2 h3 (fun t9 ht9 _ => ⟨u, trivial, ⟨hB.1, by rw [TE, ht9, ← ht]; exact hB.2⟩, hS.F ht9⟩) hS.2.2 (by omega) (by omega))
    (fun r u t H1 locs1 ht _ hq hB _ _ hS => ?_)
  obtain ⟨rfl, hk, hq⟩ := hq
  exact e1 ▸ e2 ▸ kk u.1 u.2 H1 locs1 hk hq ⟨by rw [← ht]; exact hB, hw.2.1, hS⟩
theorem X_calls {Q1 : TMem → Prop} {st0 : List Value} {a : Array Value} (hw : TW D ad cI cM s μ H locs) (hout : ∀ x ∈ c.exceptionTable.toList, False) (hlocks : meth.locks = false) (e1 : cells + mc = c1) (e2 : slots + ms = n1) (g1 : c1 ≤ fc) (g2 : n1 ≤ fn) (hr : vx_Run p l e R s m args below meth c H locs cells slots mc ms (F0 m pc ls st0) rest (va_Qq (fun (_ : Option Nat) (u : TMem) => Q1 u) (TE D ad cI cM) (TA ad H.size) a) (vx_X (fun _ : TMem => True) (TEX D ad cI cM X) (TA ad H.size)) (TA ad H.size))
    (kk : ∀ (r : Option Nat) (μ1 : TMem) (H1 : Heap) (locs1 : List Loc), Q1 μ1 → TW D ad cI cM s μ1 H1 locs1 → W p l e R s m args below meth c H1 locs1 c1 n1 (vx_MQ below Qc (vx_X (fun _ : TMem => True) (TEX D ad cI cM X) (TA ad s.heap.size)) args s fc fn (TA ad s.heap.size)) (F0 m (pc + 3) ls (va_rf r :: rest))) : W p l e R s m args below meth c H locs cells slots (vx_MQ below Qc (vx_X (fun _ : TMem => True) (TEX D ad cI cM X) (TA ad s.heap.size)) args s fc fn (TA ad s.heap.size)) (F0 m pc ls st0) := by
  refine vx_callq2 hr hw.2.2 (fun q _ h => TA.up hw.2.2.1 q h) (fun q h => TA.up hw.2.2.1 q h) (fun q _ h => TA.up hw.2.2.1 q h)
    (fun E ce q9 u t H1 locs1 ht _ _ hB _ _ hS h1 h2 h3 => vx_out (fun x hx => (hout x hx).elim) hlocks h1 h2 h3 (fun t9 ht9 _ => ⟨u, trivial, ⟨hB.1, by rw [TE, ht9, ← ht]; exact hB.2⟩, hS.F ht9⟩) hS.2.2 (by omega) (by omega))
    (fun r u t H1 locs1 ht _ hq hB _ _ hS => e1 ▸ e2 ▸ kk r u H1 locs1 hq ⟨by rw [← ht]; exact hB, hw.2.1, hS⟩)
theorem X_throw {cls text : String} {ik is ic : Nat} (hx : p.tables.exec = Jvm.exec) (hb : c.code = cc) (hst : l.stackTraces = false) (hml : ls.size = c.maxLocals) (hown : s.vm.findClass "Leastreader" = some m.cls) (hcls : Bundle.fit cls = true) (hk : (Cond.classLink RX9 ik cls).before args s = true) (hini : (Cond.initialized cls).before args s = true) (hstr : ∃ sa : Nat, vk_R "Leastreader" is text sa s) (hat : ∀ w ∈ vx_atS RX9 ic cls nmsX, w.before args s = true)
    (hgood : ∀ w ∈ Cond.classLink RX9 ik cls :: Cond.initialized cls :: vx_atS RX9 ic cls nmsX, vx_ot w = true) (hX : SX ad s) (hw : TW D ad cI cM s μ H locs) (hout : ∀ x ∈ c.exceptionTable.toList, False) (hlocks : meth.locks = false)
    (d0 : decode cc pc = .ok (.new ik, 3)) (d3 : decode cc (pc + 3) = .ok (.dup, 1)) (d4 : decode cc (pc + 4) = .ok (.ldc is, 2)) (d6 : decode cc (pc + 6) = .ok (.invokespecial ic, 3)) (d9 : decode cc (pc + 9) = .ok (.athrow, 1))
    (hR1 : 5 < R.frames) (hR2 : (rest.map fun v => v.category).sum + 82 ≤ R.locals) (hR3 : cells + 1 ≤ R.cells) (hR4 : slots + 6 ≤ R.slots) (g1 : cells + 1 ≤ fc) (g2 : slots + 6 ≤ fn) (hq : X cls μ) : W p l e R s m args below meth c H locs cells slots (vx_MQ below Qc (vx_X (fun _ : TMem => True) (TEX D ad cI cM X) (TA ad s.heap.size)) args s fc fn (TA ad s.heap.size)) (F0 m pc ls rest) := by
  obtain ⟨sa, hstr⟩ := hstr
  refine vx_throwS hx hb hst hown hcls fit_nms hk hini hstr hat hgood hX.1 hX.2.1 hw.2.2 hml d0 d3 d4 d6 d9 (fun x hx => (hout x hx).elim) hR1 hR2 hR3 hR4 hlocks (fun t _ hz ho => ?_) hw.2.2.2.2 g1 g2
  refine ⟨μ, trivial, ⟨hq, va_P_grow hw.1 ho⟩, Nat.le_trans hw.2.2.1 hz, fun q h1 h2 => ?_⟩
  rw [ho q (Nat.lt_of_lt_of_le h1 hw.2.2.1)]
  exact hw.2.2.2.1 q h1 h2
theorem X_throwW {cls text : String} {ik is ic : Nat} (hx : p.tables.exec = Jvm.exec) (hb : c.code = cc) (hst : l.stackTraces = false) (hml : ls.size = c.maxLocals) (hown : s.vm.findClass "Leastreader" = some m.cls) (hcls : Bundle.fit cls = true) (hk : (Cond.classLink RX9 ik cls).before args s = true) (hini : (Cond.initialized cls).before args s = true) (hstr : ∃ sa : Nat, vk_R "Leastreader" is text sa s) (hat : ∀ w ∈ vx_atS RX9 ic cls nmsX, w.before args s = true)
    (hgood : ∀ w ∈ Cond.classLink RX9 ik cls :: Cond.initialized cls :: vx_atS RX9 ic cls nmsX, vx_ot w = true) (hX : SX ad s) (hw : TW D ad cI cM s μ H locs) (hout : ∀ x ∈ c.exceptionTable.toList, False) (hlocks : meth.locks = false)
    (d0 : decode cc pc = .ok (.new ik, 3)) (d3 : decode cc (pc + 3) = .ok (.dup, 1)) (d4 : decode cc (pc + 4) = .ok (.ldc_w is, 3)) (d6 : decode cc (pc + 7) = .ok (.invokespecial ic, 3)) (d9 : decode cc (pc + 10) = .ok (.athrow, 1))
    (hR1 : 5 < R.frames) (hR2 : (rest.map fun v => v.category).sum + 82 ≤ R.locals) (hR3 : cells + 1 ≤ R.cells) (hR4 : slots + 6 ≤ R.slots) (g1 : cells + 1 ≤ fc) (g2 : slots + 6 ≤ fn) (hq : X cls μ) : W p l e R s m args below meth c H locs cells slots (vx_MQ below Qc (vx_X (fun _ : TMem => True) (TEX D ad cI cM X) (TA ad s.heap.size)) args s fc fn (TA ad s.heap.size)) (F0 m pc ls rest) := by
  obtain ⟨sa, hstr⟩ := hstr
  refine vx_throwSW hx hb hst hown hcls fit_nms hk hini hstr hat hgood hX.1 hX.2.1 hw.2.2 hml d0 d3 d4 d6 d9 (fun x hx => (hout x hx).elim) hR1 hR2 hR3 hR4 hlocks (fun t _ hz ho => ?_) hw.2.2.2.2 g1 g2
  refine ⟨μ, trivial, ⟨hq, va_P_grow hw.1 ho⟩, Nat.le_trans hw.2.2.1 hz, fun q h1 h2 => ?_⟩
  rw [ho q (Nat.lt_of_lt_of_le h1 hw.2.2.1)]
  exact hw.2.2.2.1 q h1 h2
theorem X_meti {l : Launch} {y : MethodName} {bytes : ByteArray} {maxL : Nat} {ty : FieldType} {h fc fn : Nat} {as : List Value} {D : va_G} {ad : Nat → Nat} {cI cM : ClassId} {sz : Nat} {μ : TMem} {Q : Int32 → TMem → Prop} {X : String → TMem → Prop} (hy : plainName y.cls = true) (hsl : (lg_sl as).length ≤ maxL)
    (body : ∀ (p : Program) (e : Env) (s : State) (m : MethodId) (below : List Frame) (meth : Method) (c : Code) (Qc : Array Value → State → Outcome → State → Prop) (ls : Array Slot), p.tables.exec = Jvm.exec → c.code = bytes → c.maxLocals = maxL → s.vm.findClass y.cls = some m.cls → (∀ w ∈ W0, w.before as.toArray s = true) → NW s → TK D cI cM s → SX ad s → (∀ x ∈ c.exceptionTable.toList, False) → meth.locks = false → TW D ad cI cM s μ s.heap [] →
      (∀ (H : Heap) (locs : List Loc) (ls : Array Slot) (pc cells slots : Nat) (v : Int32) (μ1 : TMem), TW D ad cI cM s μ1 H locs → Q v μ1 → narrow ty (.int v) = .int v → cells ≤ fc → slots ≤ fn → decode bytes pc = .ok (.ireturn, 1) → W p l e (RX h fc fn) s m as.toArray below meth c H locs cells slots (vx_MQ below Qc (vx_X (fun _ : TMem => True) (TEX D ad cI cM X) (TA ad s.heap.size)) as.toArray s fc fn (TA ad s.heap.size)) (F0 m pc ls [.int v])) → lv_has ls maxL (lv_args 0 as) →
      W p l e (RX h fc fn) s m as.toArray below meth c s.heap [] 0 0 (vx_MQ below Qc (vx_X (fun _ : TMem => True) (TEX D ad cI cM X) (TA ad s.heap.size)) as.toArray s fc fn (TA ad s.heap.size)) (F0 m 0 ls [])) : XMi l y (.code y bytes maxL (some ty)) h fc fn as D ad cI cM sz μ Q X := by
  refine vx_ofW (cc := bytes) (maxL := maxL) (ret := (some ty)) hy rfl ?_
  intro p e s m args below meth c s₁ B hml htab hv
  obtain ⟨rfl, ⟨hsz, hP, hK, hI, hN⟩, hX⟩ := hv
  subst hsz
  have hts := atoms_spec B.pre
  have hlocks := B.notSynchronized
  rw [lg_entry_eq]
  refine body p e s m below meth c _ _ B.exec B.bytes hml (findClass_of_methodNamed B.named) (fun w hw => hts w (List.mem_cons_of_mem _ hw)) hN hK hX htab hlocks ⟨hP, hI, va_S.rf⟩ (fun H locs ls pc cells slots v μ1 hw hq hn hc hs hdg => ?_) (lv_entry as hsl)
  exact W.widen hc hs (vx_ret (W.zret B.exec B.bytes B.returns hn (fun t ht9 hW => ⟨⟨v, μ1, rfl, hq, by rw [TE, ht9]; exact hw.1⟩, hw.2.2.F ht9⟩) hw.2.2.2.2 hdg hlocks))
theorem X_metv {l : Launch} {y : MethodName} {bytes : ByteArray} {maxL : Nat} {h fc fn : Nat} {as : List Value} {D : va_G} {ad : Nat → Nat} {cI cM : ClassId} {sz : Nat} {μ : TMem} {Q : TMem → Prop} {X : String → TMem → Prop} (hy : plainName y.cls = true) (hsl : (lg_sl as).length ≤ maxL)
    (body : ∀ (p : Program) (e : Env) (s : State) (m : MethodId) (below : List Frame) (meth : Method) (c : Code) (Qc : Array Value → State → Outcome → State → Prop) (ls : Array Slot), p.tables.exec = Jvm.exec → c.code = bytes → c.maxLocals = maxL → s.vm.findClass y.cls = some m.cls → (∀ w ∈ W0, w.before as.toArray s = true) → NW s → TK D cI cM s → SX ad s → (∀ x ∈ c.exceptionTable.toList, False) → meth.locks = false → TW D ad cI cM s μ s.heap [] →
      (∀ (H : Heap) (locs : List Loc) (ls : Array Slot) (pc cells slots : Nat) (μ1 : TMem), TW D ad cI cM s μ1 H locs → Q μ1 → cells ≤ fc → slots ≤ fn → decode bytes pc = .ok (.return_, 1) → W p l e (RX h fc fn) s m as.toArray below meth c H locs cells slots (vx_MQ below Qc (vx_X (fun _ : TMem => True) (TEX D ad cI cM X) (TA ad s.heap.size)) as.toArray s fc fn (TA ad s.heap.size)) (F0 m pc ls [])) → lv_has ls maxL (lv_args 0 as) →
      W p l e (RX h fc fn) s m as.toArray below meth c s.heap [] 0 0 (vx_MQ below Qc (vx_X (fun _ : TMem => True) (TEX D ad cI cM X) (TA ad s.heap.size)) as.toArray s fc fn (TA ad s.heap.size)) (F0 m 0 ls [])) : XMv l y (.code y bytes maxL none) h fc fn as D ad cI cM sz μ Q X := by
  refine vx_ofW (cc := bytes) (maxL := maxL) (ret := none) hy rfl ?_
  intro p e s m args below meth c s₁ B hml htab hv
  obtain ⟨rfl, ⟨hsz, hP, hK, hI, hN⟩, hX⟩ := hv
  subst hsz
  have hts := atoms_spec B.pre
  have hlocks := B.notSynchronized
  rw [lg_entry_eq]
  refine body p e s m below meth c _ _ B.exec B.bytes hml (findClass_of_methodNamed B.named) (fun w hw => hts w (List.mem_cons_of_mem _ hw)) hN hK hX htab hlocks ⟨hP, hI, va_S.rf⟩ (fun H locs ls pc cells slots μ1 hw hq hc hs hdg => ?_) (lv_entry as hsl)
  exact W.widen hc hs (vx_ret (W.vret B.exec B.bytes B.returns (fun t ht9 hW => ⟨⟨μ1, rfl, hq, by rw [TE, ht9]; exact hw.1⟩, hw.2.2.F ht9⟩) hw.2.2.2.2 hdg hlocks))
theorem X_metl {l : Launch} {y : MethodName} {bytes : ByteArray} {maxL : Nat} {h fc fn : Nat} {as : List Value} {D : va_G} {ad : Nat → Nat} {cI cM : ClassId} {sz : Nat} {μ : TMem} {Q : Int64 → TMem → Prop} {X : String → TMem → Prop} (hy : plainName y.cls = true) (hsl : (lg_sl as).length ≤ maxL)
    (body : ∀ (p : Program) (e : Env) (s : State) (m : MethodId) (below : List Frame) (meth : Method) (c : Code) (Qc : Array Value → State → Outcome → State → Prop) (ls : Array Slot), p.tables.exec = Jvm.exec → c.code = bytes → c.maxLocals = maxL → s.vm.findClass y.cls = some m.cls → (∀ w ∈ W0, w.before as.toArray s = true) → NW s → TK D cI cM s → SX ad s → (∀ x ∈ c.exceptionTable.toList, False) → meth.locks = false → TW D ad cI cM s μ s.heap [] →
      (∀ (H : Heap) (locs : List Loc) (ls : Array Slot) (pc cells slots : Nat) (v : Int64) (μ1 : TMem), TW D ad cI cM s μ1 H locs → Q v μ1 → cells ≤ fc → slots ≤ fn → decode bytes pc = .ok (.lreturn, 1) → W p l e (RX h fc fn) s m as.toArray below meth c H locs cells slots (vx_MQ below Qc (vx_X (fun _ : TMem => True) (TEX D ad cI cM X) (TA ad s.heap.size)) as.toArray s fc fn (TA ad s.heap.size)) (F0 m pc ls [.long v])) → lv_has ls maxL (lv_args 0 as) →
      W p l e (RX h fc fn) s m as.toArray below meth c s.heap [] 0 0 (vx_MQ below Qc (vx_X (fun _ : TMem => True) (TEX D ad cI cM X) (TA ad s.heap.size)) as.toArray s fc fn (TA ad s.heap.size)) (F0 m 0 ls [])) : XMl l y (.code y bytes maxL (some .long)) h fc fn as D ad cI cM sz μ Q X := by
  refine vx_ofW (cc := bytes) (maxL := maxL) (ret := (some .long)) hy rfl ?_
  intro p e s m args below meth c s₁ B hml htab hv
  obtain ⟨rfl, ⟨hsz, hP, hK, hI, hN⟩, hX⟩ := hv
  subst hsz
  have hts := atoms_spec B.pre
  have hlocks := B.notSynchronized
  rw [lg_entry_eq]
  refine body p e s m below meth c _ _ B.exec B.bytes hml (findClass_of_methodNamed B.named) (fun w hw => hts w (List.mem_cons_of_mem _ hw)) hN hK hX htab hlocks ⟨hP, hI, va_S.rf⟩ (fun H locs ls pc cells slots v μ1 hw hq hc hs hdg => ?_) (lv_entry as hsl)
  exact W.widen hc hs (vx_ret (W.lret B.exec B.bytes B.returns (fun t ht9 hW => ⟨⟨v, μ1, rfl, hq, by rw [TE, ht9]; exact hw.1⟩, hw.2.2.F ht9⟩) hw.2.2.2.2 hdg hlocks))
theorem X_meto {l : Launch} {y : MethodName} {bytes : ByteArray} {maxL : Nat} {cn : String} {h fc fn : Nat} {as : List Value} {D : va_G} {ad : Nat → Nat} {cI cM : ClassId} {sz : Nat} {μ : TMem} {Q : Nat → TMem → Prop} {X : String → TMem → Prop} (hy : plainName y.cls = true) (hsl : (lg_sl as).length ≤ maxL)
    (body : ∀ (p : Program) (e : Env) (s : State) (m : MethodId) (below : List Frame) (meth : Method) (c : Code) (Qc : Array Value → State → Outcome → State → Prop) (ls : Array Slot), p.tables.exec = Jvm.exec → c.code = bytes → c.maxLocals = maxL → s.vm.findClass y.cls = some m.cls → (∀ w ∈ W0, w.before as.toArray s = true) → NW s → TK D cI cM s → SX ad s → (∀ x ∈ c.exceptionTable.toList, False) → meth.locks = false → TW D ad cI cM s μ s.heap [] →
      (∀ (H : Heap) (locs : List Loc) (ls : Array Slot) (pc cells slots : Nat) (k : Nat) (μ1 : TMem), TW D ad cI cM s μ1 H locs → Q k μ1 → kd k = 2 → cells ≤ fc → slots ≤ fn → decode bytes pc = .ok (.areturn, 1) → W p l e (RX h fc fn) s m as.toArray below meth c H locs cells slots (vx_MQ below Qc (vx_X (fun _ : TMem => True) (TEX D ad cI cM X) (TA ad s.heap.size)) as.toArray s fc fn (TA ad s.heap.size)) (F0 m pc ls [.ref (ad k)])) → lv_has ls maxL (lv_args 0 as) →
      W p l e (RX h fc fn) s m as.toArray below meth c s.heap [] 0 0 (vx_MQ below Qc (vx_X (fun _ : TMem => True) (TEX D ad cI cM X) (TA ad s.heap.size)) as.toArray s fc fn (TA ad s.heap.size)) (F0 m 0 ls [])) : XMo l y (.code y bytes maxL (some (.object cn))) h fc fn as D ad cI cM sz μ Q X := by
  refine vx_ofW (cc := bytes) (maxL := maxL) (ret := (some (.object cn))) hy rfl ?_
  intro p e s m args below meth c s₁ B hml htab hv
  obtain ⟨rfl, ⟨hsz, hP, hK, hI, hN⟩, hX⟩ := hv
  subst hsz
  have hts := atoms_spec B.pre
  have hlocks := B.notSynchronized
  rw [lg_entry_eq]
  refine body p e s m below meth c _ _ B.exec B.bytes hml (findClass_of_methodNamed B.named) (fun w hw => hts w (List.mem_cons_of_mem _ hw)) hN hK hX htab hlocks ⟨hP, hI, va_S.rf⟩ (fun H locs ls pc cells slots k μ1 hw hq hn hc hs hdg => ?_) (lv_entry as hsl)
  exact W.widen hc hs (vx_ret (W.aret B.exec B.bytes B.returns (Or.inl ⟨_, rfl⟩) (Or.inr ⟨_, rfl⟩) (fun t ht9 hW => ⟨⟨some (ad k), (k, μ1), rfl, ⟨rfl, hn, hq⟩, by show va_P D CL (TRX ad cI cM μ1) t.heap; rw [ht9]; exact hw.1⟩, hw.2.2.F ht9⟩) hw.2.2.2.2 hdg hlocks))
theorem X_mets {l : Launch} {y : MethodName} {bytes : ByteArray} {maxL : Nat} {cn : String} {h fc fn : Nat} {as : List Value} {D : va_G} {ad : Nat → Nat} {cI cM : ClassId} {sz : Nat} {μ : TMem} {Q : TMem → Prop} {X : String → TMem → Prop} (hy : plainName y.cls = true) (hsl : (lg_sl as).length ≤ maxL)
    (body : ∀ (p : Program) (e : Env) (s : State) (m : MethodId) (below : List Frame) (meth : Method) (c : Code) (Qc : Array Value → State → Outcome → State → Prop) (ls : Array Slot), p.tables.exec = Jvm.exec → c.code = bytes → c.maxLocals = maxL → s.vm.findClass y.cls = some m.cls → (∀ w ∈ W0, w.before as.toArray s = true) → NW s → TK D cI cM s → SX ad s → (∀ x ∈ c.exceptionTable.toList, False) → meth.locks = false → TW D ad cI cM s μ s.heap [] →
      (∀ (H : Heap) (locs : List Loc) (ls : Array Slot) (pc cells slots : Nat) (r : Option Nat) (μ1 : TMem), TW D ad cI cM s μ1 H locs → Q μ1 → cells ≤ fc → slots ≤ fn → decode bytes pc = .ok (.areturn, 1) → W p l e (RX h fc fn) s m as.toArray below meth c H locs cells slots (vx_MQ below Qc (vx_X (fun _ : TMem => True) (TEX D ad cI cM X) (TA ad s.heap.size)) as.toArray s fc fn (TA ad s.heap.size)) (F0 m pc ls [va_rf r])) → lv_has ls maxL (lv_args 0 as) →
      W p l e (RX h fc fn) s m as.toArray below meth c s.heap [] 0 0 (vx_MQ below Qc (vx_X (fun _ : TMem => True) (TEX D ad cI cM X) (TA ad s.heap.size)) as.toArray s fc fn (TA ad s.heap.size)) (F0 m 0 ls [])) : XMs l y (.code y bytes maxL (some (.object cn))) h fc fn as D ad cI cM sz μ Q X := by
  refine vx_ofW (cc := bytes) (maxL := maxL) (ret := (some (.object cn))) hy rfl ?_
  intro p e s m args below meth c s₁ B hml htab hv
  obtain ⟨rfl, ⟨hsz, hP, hK, hI, hN⟩, hX⟩ := hv
  subst hsz
  have hts := atoms_spec B.pre
  have hlocks := B.notSynchronized
  rw [lg_entry_eq]
  refine body p e s m below meth c _ _ B.exec B.bytes hml (findClass_of_methodNamed B.named) (fun w hw => hts w (List.mem_cons_of_mem _ hw)) hN hK hX htab hlocks ⟨hP, hI, va_S.rf⟩ (fun H locs ls pc cells slots r μ1 hw hq hc hs hdg => ?_) (lv_entry as hsl)
  exact W.widen hc hs (vx_ret (W.aret B.exec B.bytes B.returns (Or.inl ⟨_, rfl⟩) (by cases r; exact Or.inl rfl; exact Or.inr ⟨_, rfl⟩) (fun t ht9 hW => ⟨⟨r, μ1, rfl, hq, by rw [TE, ht9]; exact hw.1⟩, hw.2.2.F ht9⟩) hw.2.2.2.2 hdg hlocks))
end XLB
end
/-! part 10.hd -/
section
theorem hd_53 : (yX9_machineAt : MethodName).cls ≠ "java/lang/invoke/MethodHandle" ∧ (yX9_machineAt : MethodName).cls ≠ "java/lang/invoke/VarHandle" ∧ (parseMethodDescriptor (yX9_machineAt : MethodName).desc).map (fun d => d.parameters.length) = some 1 := by decide +kernel
theorem hd_54 : (yX9_checkRange : MethodName).cls ≠ "java/lang/invoke/MethodHandle" ∧ (yX9_checkRange : MethodName).cls ≠ "java/lang/invoke/VarHandle" ∧ (parseMethodDescriptor (yX9_checkRange : MethodName).desc).map (fun d => d.parameters.length) = some 3 := by decide +kernel
theorem hd_55 : (yX2_clear : MethodName).cls ≠ "java/lang/invoke/MethodHandle" ∧ (yX2_clear : MethodName).cls ≠ "java/lang/invoke/VarHandle" ∧ (parseMethodDescriptor (yX2_clear : MethodName).desc).map (fun d => d.parameters.length) = some 1 := by decide +kernel
theorem hd_56 : (yX9_checkState : MethodName).cls ≠ "java/lang/invoke/MethodHandle" ∧ (yX9_checkState : MethodName).cls ≠ "java/lang/invoke/VarHandle" ∧ (parseMethodDescriptor (yX9_checkState : MethodName).desc).map (fun d => d.parameters.length) = some 2 := by decide +kernel
theorem hd_57 : (yX9_checkSign : MethodName).cls ≠ "java/lang/invoke/MethodHandle" ∧ (yX9_checkSign : MethodName).cls ≠ "java/lang/invoke/VarHandle" ∧ (parseMethodDescriptor (yX9_checkSign : MethodName).desc).map (fun d => d.parameters.length) = some 1 := by decide +kernel
theorem hd_58 : (yX0_restart : MethodName).cls ≠ "java/lang/invoke/MethodHandle" ∧ (yX0_restart : MethodName).cls ≠ "java/lang/invoke/VarHandle" ∧ (parseMethodDescriptor (yX0_restart : MethodName).desc).map (fun d => d.parameters.length) = some 1 := by decide +kernel
theorem hd_59 : (yX2_sowArrows : MethodName).cls ≠ "java/lang/invoke/MethodHandle" ∧ (yX2_sowArrows : MethodName).cls ≠ "java/lang/invoke/VarHandle" ∧ (parseMethodDescriptor (yX2_sowArrows : MethodName).desc).map (fun d => d.parameters.length) = some 2 := by decide +kernel
theorem hd_60 : (yX2_sowGoals : MethodName).cls ≠ "java/lang/invoke/MethodHandle" ∧ (yX2_sowGoals : MethodName).cls ≠ "java/lang/invoke/VarHandle" ∧ (parseMethodDescriptor (yX2_sowGoals : MethodName).desc).map (fun d => d.parameters.length) = some 1 := by decide +kernel
theorem hd_61 : (yX2_isSameAs : MethodName).cls ≠ "java/lang/invoke/MethodHandle" ∧ (yX2_isSameAs : MethodName).cls ≠ "java/lang/invoke/VarHandle" ∧ (parseMethodDescriptor (yX2_isSameAs : MethodName).desc).map (fun d => d.parameters.length) = some 1 := by decide +kernel
theorem hd_62 : (yX2_become : MethodName).cls ≠ "java/lang/invoke/MethodHandle" ∧ (yX2_become : MethodName).cls ≠ "java/lang/invoke/VarHandle" ∧ (parseMethodDescriptor (yX2_become : MethodName).desc).map (fun d => d.parameters.length) = some 1 := by decide +kernel
theorem hd_63 : (yX2_allStates : MethodName).cls ≠ "java/lang/invoke/MethodHandle" ∧ (yX2_allStates : MethodName).cls ≠ "java/lang/invoke/VarHandle" ∧ (parseMethodDescriptor (yX2_allStates : MethodName).desc).map (fun d => d.parameters.length) = some 0 := by decide +kernel
theorem hd_64 : (yX2_removeState : MethodName).cls ≠ "java/lang/invoke/MethodHandle" ∧ (yX2_removeState : MethodName).cls ≠ "java/lang/invoke/VarHandle" ∧ (parseMethodDescriptor (yX2_removeState : MethodName).desc).map (fun d => d.parameters.length) = some 1 := by decide +kernel
theorem hd_65 : (yX3_makeBy : MethodName).cls ≠ "java/lang/invoke/MethodHandle" ∧ (yX3_makeBy : MethodName).cls ≠ "java/lang/invoke/VarHandle" ∧ (parseMethodDescriptor (yX3_makeBy : MethodName).desc).map (fun d => d.parameters.length) = some 3 := by decide +kernel
theorem hd_66 : (yX9_becomeMade : MethodName).cls ≠ "java/lang/invoke/MethodHandle" ∧ (yX9_becomeMade : MethodName).cls ≠ "java/lang/invoke/VarHandle" ∧ (parseMethodDescriptor (yX9_becomeMade : MethodName).desc).map (fun d => d.parameters.length) = some 1 := by decide +kernel
theorem hd_67 : (yX9_putTogether : MethodName).cls ≠ "java/lang/invoke/MethodHandle" ∧ (yX9_putTogether : MethodName).cls ≠ "java/lang/invoke/VarHandle" ∧ (parseMethodDescriptor (yX9_putTogether : MethodName).desc).map (fun d => d.parameters.length) = some 3 := by decide +kernel
theorem hd_68 : (yX9_checkWord : MethodName).cls ≠ "java/lang/invoke/MethodHandle" ∧ (yX9_checkWord : MethodName).cls ≠ "java/lang/invoke/VarHandle" ∧ (parseMethodDescriptor (yX9_checkWord : MethodName).desc).map (fun d => d.parameters.length) = some 2 := by decide +kernel
theorem hd_69 : (yX9_makeOrThrow : MethodName).cls ≠ "java/lang/invoke/MethodHandle" ∧ (yX9_makeOrThrow : MethodName).cls ≠ "java/lang/invoke/VarHandle" ∧ (parseMethodDescriptor (yX9_makeOrThrow : MethodName).desc).map (fun d => d.parameters.length) = some 3 := by decide +kernel
theorem hd_70 : (yX5_isTakingLongOnes : MethodName).cls ≠ "java/lang/invoke/MethodHandle" ∧ (yX5_isTakingLongOnes : MethodName).cls ≠ "java/lang/invoke/VarHandle" ∧ (parseMethodDescriptor (yX5_isTakingLongOnes : MethodName).desc).map (fun d => d.parameters.length) = some 0 := by decide +kernel
theorem hd_71 : (yX8_count : MethodName).cls ≠ "java/lang/invoke/MethodHandle" ∧ (yX8_count : MethodName).cls ≠ "java/lang/invoke/VarHandle" ∧ (parseMethodDescriptor (yX8_count : MethodName).desc).map (fun d => d.parameters.length) = some 1 := by decide +kernel
theorem hd_72 : (yX2_countOneByOne : MethodName).cls ≠ "java/lang/invoke/MethodHandle" ∧ (yX2_countOneByOne : MethodName).cls ≠ "java/lang/invoke/VarHandle" ∧ (parseMethodDescriptor (yX2_countOneByOne : MethodName).desc).map (fun d => d.parameters.length) = some 1 := by decide +kernel
theorem hd_73 : (yX5_isSameAs : MethodName).cls ≠ "java/lang/invoke/MethodHandle" ∧ (yX5_isSameAs : MethodName).cls ≠ "java/lang/invoke/VarHandle" ∧ (parseMethodDescriptor (yX5_isSameAs : MethodName).desc).map (fun d => d.parameters.length) = some 1 := by decide +kernel
theorem hd_74 : (yX9_meetOrThrow : MethodName).cls ≠ "java/lang/invoke/MethodHandle" ∧ (yX9_meetOrThrow : MethodName).cls ≠ "java/lang/invoke/VarHandle" ∧ (parseMethodDescriptor (yX9_meetOrThrow : MethodName).desc).map (fun d => d.parameters.length) = some 2 := by decide +kernel
theorem hd_75 : (yX9_isTakingTheSame : MethodName).cls ≠ "java/lang/invoke/MethodHandle" ∧ (yX9_isTakingTheSame : MethodName).cls ≠ "java/lang/invoke/VarHandle" ∧ (parseMethodDescriptor (yX9_isTakingTheSame : MethodName).desc).map (fun d => d.parameters.length) = some 1 := by decide +kernel
theorem hd_76 : (yX9_addMachine : MethodName).cls ≠ "java/lang/invoke/MethodHandle" ∧ (yX9_addMachine : MethodName).cls ≠ "java/lang/invoke/VarHandle" ∧ (parseMethodDescriptor (yX9_addMachine : MethodName).desc).map (fun d => d.parameters.length) = some 2 := by decide +kernel
theorem hd_77 : (yX9_isSound : MethodName).cls ≠ "java/lang/invoke/MethodHandle" ∧ (yX9_isSound : MethodName).cls ≠ "java/lang/invoke/VarHandle" ∧ (parseMethodDescriptor (yX9_isSound : MethodName).desc).map (fun d => d.parameters.length) = some 0 := by decide +kernel
end
/-! part 11.dec2 -/
section
set_option maxRecDepth 100000 in
theorem db_cX9_machineAt_dX9_machineAt_0_0 : (decode cX9_machineAt 0 = .ok (.iload_n 1, 1)) ∧ (decode cX9_machineAt 1 = .ok (.ifCond .lt 12, 3)) ∧ (decode cX9_machineAt 4 = .ok (.iload_n 1, 1)) ∧ (decode cX9_machineAt 5 = .ok (.aload_n 0, 1)) ∧ (decode cX9_machineAt 6 = .ok (.getfield 11, 3)) ∧ (decode cX9_machineAt 9 = .ok (.arraylength, 1)) ∧ (decode cX9_machineAt 10 = .ok (.if_icmp .lt 14, 3)) ∧ (decode cX9_machineAt 13 = .ok (.new 272, 3)) ∧ (decode cX9_machineAt 16 = .ok (.dup, 1)) ∧ (decode cX9_machineAt 17 = .ok (.ldc_w 274, 3)) ∧ (decode cX9_machineAt 20 = .ok (.invokespecial 276, 3)) ∧ (decode cX9_machineAt 23 = .ok (.athrow, 1)) := by decide +kernel
def dX9_machineAt_0 := db_cX9_machineAt_dX9_machineAt_0_0.1
def dX9_machineAt_1 := db_cX9_machineAt_dX9_machineAt_0_0.2.1
def dX9_machineAt_4 := db_cX9_machineAt_dX9_machineAt_0_0.2.2.1
def dX9_machineAt_5 := db_cX9_machineAt_dX9_machineAt_0_0.2.2.2.1
def dX9_machineAt_6 := db_cX9_machineAt_dX9_machineAt_0_0.2.2.2.2.1
def dX9_machineAt_9 := db_cX9_machineAt_dX9_machineAt_0_0.2.2.2.2.2.1
def dX9_machineAt_10 := db_cX9_machineAt_dX9_machineAt_0_0.2.2.2.2.2.2.1
def dX9_machineAt_13 := db_cX9_machineAt_dX9_machineAt_0_0.2.2.2.2.2.2.2.1
def dX9_machineAt_16 := db_cX9_machineAt_dX9_machineAt_0_0.2.2.2.2.2.2.2.2.1
def dX9_machineAt_17 := db_cX9_machineAt_dX9_machineAt_0_0.2.2.2.2.2.2.2.2.2.1
def dX9_machineAt_20 := db_cX9_machineAt_dX9_machineAt_0_0.2.2.2.2.2.2.2.2.2.2.1
def dX9_machineAt_23 := db_cX9_machineAt_dX9_machineAt_0_0.2.2.2.2.2.2.2.2.2.2.2
set_option maxRecDepth 100000 in
theorem db_cX9_machineAt_dX9_machineAt_24_1 : (decode cX9_machineAt 24 = .ok (.aload_n 0, 1)) ∧ (decode cX9_machineAt 25 = .ok (.getfield 11, 3)) ∧ (decode cX9_machineAt 28 = .ok (.iload_n 1, 1)) ∧ (decode cX9_machineAt 29 = .ok (.aaload, 1)) ∧ (decode cX9_machineAt 30 = .ok (.areturn, 1)) := by decide +kernel
def dX9_machineAt_24 := db_cX9_machineAt_dX9_machineAt_24_1.1
def dX9_machineAt_25 := db_cX9_machineAt_dX9_machineAt_24_1.2.1
def dX9_machineAt_28 := db_cX9_machineAt_dX9_machineAt_24_1.2.2.1
def dX9_machineAt_29 := db_cX9_machineAt_dX9_machineAt_24_1.2.2.2.1
def dX9_machineAt_30 := db_cX9_machineAt_dX9_machineAt_24_1.2.2.2.2
set_option maxRecDepth 100000 in
theorem db_cX9_checkRange_dX9_checkRange_0_0 : (decode cX9_checkRange 0 = .ok (.iload_n 0, 1)) ∧ (decode cX9_checkRange 1 = .ok (.iload_n 1, 1)) ∧ (decode cX9_checkRange 2 = .ok (.if_icmp .lt 8, 3)) ∧ (decode cX9_checkRange 5 = .ok (.iload_n 0, 1)) ∧ (decode cX9_checkRange 6 = .ok (.iload_n 2, 1)) ∧ (decode cX9_checkRange 7 = .ok (.if_icmp .le 14, 3)) ∧ (decode cX9_checkRange 10 = .ok (.new 212, 3)) ∧ (decode cX9_checkRange 13 = .ok (.dup, 1)) ∧ (decode cX9_checkRange 14 = .ok (.ldc_w 282, 3)) ∧ (decode cX9_checkRange 17 = .ok (.invokespecial 216, 3)) ∧ (decode cX9_checkRange 20 = .ok (.athrow, 1)) ∧ (decode cX9_checkRange 21 = .ok (.return_, 1)) := by decide +kernel
def dX9_checkRange_0 := db_cX9_checkRange_dX9_checkRange_0_0.1
def dX9_checkRange_1 := db_cX9_checkRange_dX9_checkRange_0_0.2.1
def dX9_checkRange_2 := db_cX9_checkRange_dX9_checkRange_0_0.2.2.1
def dX9_checkRange_5 := db_cX9_checkRange_dX9_checkRange_0_0.2.2.2.1
def dX9_checkRange_6 := db_cX9_checkRange_dX9_checkRange_0_0.2.2.2.2.1
def dX9_checkRange_7 := db_cX9_checkRange_dX9_checkRange_0_0.2.2.2.2.2.1
def dX9_checkRange_10 := db_cX9_checkRange_dX9_checkRange_0_0.2.2.2.2.2.2.1
def dX9_checkRange_13 := db_cX9_checkRange_dX9_checkRange_0_0.2.2.2.2.2.2.2.1
def dX9_checkRange_14 := db_cX9_checkRange_dX9_checkRange_0_0.2.2.2.2.2.2.2.2.1
def dX9_checkRange_17 := db_cX9_checkRange_dX9_checkRange_0_0.2.2.2.2.2.2.2.2.2.1
def dX9_checkRange_20 := db_cX9_checkRange_dX9_checkRange_0_0.2.2.2.2.2.2.2.2.2.2.1
def dX9_checkRange_21 := db_cX9_checkRange_dX9_checkRange_0_0.2.2.2.2.2.2.2.2.2.2.2
set_option maxRecDepth 100000 in
theorem db_cX9_begin_dX9_begin_0_0 : (decode cX9_begin 0 = .ok (.aload_n 0, 1)) ∧ (decode cX9_begin 1 = .ok (.iload_n 1, 1)) ∧ (decode cX9_begin 2 = .ok (.invokevirtual 69, 3)) ∧ (decode cX9_begin 5 = .ok (.astore_n 3, 1)) ∧ (decode cX9_begin 6 = .ok (.iload_n 2, 1)) ∧ (decode cX9_begin 7 = .ok (.iconst 1, 1)) ∧ (decode cX9_begin 8 = .ok (.bipush 7, 2)) ∧ (decode cX9_begin 10 = .ok (.invokestatic 73, 3)) ∧ (decode cX9_begin 13 = .ok (.aload_n 3, 1)) ∧ (decode cX9_begin 14 = .ok (.invokevirtual 77, 3)) ∧ (decode cX9_begin 17 = .ok (.istore 4, 2)) ∧ (decode cX9_begin 19 = .ok (.aload_n 3, 1)) := by decide +kernel
def dX9_begin_0 := db_cX9_begin_dX9_begin_0_0.1
def dX9_begin_1 := db_cX9_begin_dX9_begin_0_0.2.1
def dX9_begin_2 := db_cX9_begin_dX9_begin_0_0.2.2.1
def dX9_begin_5 := db_cX9_begin_dX9_begin_0_0.2.2.2.1
def dX9_begin_6 := db_cX9_begin_dX9_begin_0_0.2.2.2.2.1
def dX9_begin_7 := db_cX9_begin_dX9_begin_0_0.2.2.2.2.2.1
def dX9_begin_8 := db_cX9_begin_dX9_begin_0_0.2.2.2.2.2.2.1
def dX9_begin_10 := db_cX9_begin_dX9_begin_0_0.2.2.2.2.2.2.2.1
def dX9_begin_13 := db_cX9_begin_dX9_begin_0_0.2.2.2.2.2.2.2.2.1
def dX9_begin_14 := db_cX9_begin_dX9_begin_0_0.2.2.2.2.2.2.2.2.2.1
def dX9_begin_17 := db_cX9_begin_dX9_begin_0_0.2.2.2.2.2.2.2.2.2.2.1
def dX9_begin_19 := db_cX9_begin_dX9_begin_0_0.2.2.2.2.2.2.2.2.2.2.2
set_option maxRecDepth 100000 in
theorem db_cX9_begin_dX9_begin_20_1 : (decode cX9_begin 20 = .ok (.iload_n 2, 1)) ∧ (decode cX9_begin 21 = .ok (.invokevirtual 81, 3)) ∧ (decode cX9_begin 24 = .ok (.aload_n 0, 1)) ∧ (decode cX9_begin 25 = .ok (.iload 4, 2)) ∧ (decode cX9_begin 27 = .ok (.invokevirtual 84, 3)) ∧ (decode cX9_begin 30 = .ok (.ireturn, 1)) := by decide +kernel
def dX9_begin_20 := db_cX9_begin_dX9_begin_20_1.1
def dX9_begin_21 := db_cX9_begin_dX9_begin_20_1.2.1
def dX9_begin_24 := db_cX9_begin_dX9_begin_20_1.2.2.1
def dX9_begin_25 := db_cX9_begin_dX9_begin_20_1.2.2.2.1
def dX9_begin_27 := db_cX9_begin_dX9_begin_20_1.2.2.2.2.1
def dX9_begin_30 := db_cX9_begin_dX9_begin_20_1.2.2.2.2.2
set_option maxRecDepth 100000 in
theorem db_cX9_checkState_dX9_checkState_0_0 : (decode cX9_checkState 0 = .ok (.iload_n 1, 1)) ∧ (decode cX9_checkState 1 = .ok (.ifCond .lt 11, 3)) ∧ (decode cX9_checkState 4 = .ok (.iload_n 1, 1)) ∧ (decode cX9_checkState 5 = .ok (.aload_n 0, 1)) ∧ (decode cX9_checkState 6 = .ok (.getfield 151, 3)) ∧ (decode cX9_checkState 9 = .ok (.if_icmp .lt 14, 3)) ∧ (decode cX9_checkState 12 = .ok (.new 272, 3)) ∧ (decode cX9_checkState 15 = .ok (.dup, 1)) ∧ (decode cX9_checkState 16 = .ok (.ldc_w 277, 3)) ∧ (decode cX9_checkState 19 = .ok (.invokespecial 276, 3)) ∧ (decode cX9_checkState 22 = .ok (.athrow, 1)) ∧ (decode cX9_checkState 23 = .ok (.return_, 1)) := by decide +kernel
def dX9_checkState_0 := db_cX9_checkState_dX9_checkState_0_0.1
def dX9_checkState_1 := db_cX9_checkState_dX9_checkState_0_0.2.1
def dX9_checkState_4 := db_cX9_checkState_dX9_checkState_0_0.2.2.1
def dX9_checkState_5 := db_cX9_checkState_dX9_checkState_0_0.2.2.2.1
def dX9_checkState_6 := db_cX9_checkState_dX9_checkState_0_0.2.2.2.2.1
def dX9_checkState_9 := db_cX9_checkState_dX9_checkState_0_0.2.2.2.2.2.1
def dX9_checkState_12 := db_cX9_checkState_dX9_checkState_0_0.2.2.2.2.2.2.1
def dX9_checkState_15 := db_cX9_checkState_dX9_checkState_0_0.2.2.2.2.2.2.2.1
def dX9_checkState_16 := db_cX9_checkState_dX9_checkState_0_0.2.2.2.2.2.2.2.2.1
def dX9_checkState_19 := db_cX9_checkState_dX9_checkState_0_0.2.2.2.2.2.2.2.2.2.1
def dX9_checkState_22 := db_cX9_checkState_dX9_checkState_0_0.2.2.2.2.2.2.2.2.2.2.1
def dX9_checkState_23 := db_cX9_checkState_dX9_checkState_0_0.2.2.2.2.2.2.2.2.2.2.2
set_option maxRecDepth 100000 in
theorem db_cX9_checkSign_dX9_checkSign_0_0 : (decode cX9_checkSign 0 = .ok (.iload_n 0, 1)) ∧ (decode cX9_checkSign 1 = .ok (.iconst 0, 1)) ∧ (decode cX9_checkSign 2 = .ok (.iconst 2, 1)) ∧ (decode cX9_checkSign 3 = .ok (.invokestatic 73, 3)) ∧ (decode cX9_checkSign 6 = .ok (.return_, 1)) := by decide +kernel
def dX9_checkSign_0 := db_cX9_checkSign_dX9_checkSign_0_0.1
def dX9_checkSign_1 := db_cX9_checkSign_dX9_checkSign_0_0.2.1
def dX9_checkSign_2 := db_cX9_checkSign_dX9_checkSign_0_0.2.2.1
def dX9_checkSign_3 := db_cX9_checkSign_dX9_checkSign_0_0.2.2.2.1
def dX9_checkSign_6 := db_cX9_checkSign_dX9_checkSign_0_0.2.2.2.2
set_option maxRecDepth 100000 in
theorem db_cX9_arrow_dX9_arrow_0_0 : (decode cX9_arrow 0 = .ok (.aload_n 0, 1)) ∧ (decode cX9_arrow 1 = .ok (.iload_n 1, 1)) ∧ (decode cX9_arrow 2 = .ok (.invokevirtual 69, 3)) ∧ (decode cX9_arrow 5 = .ok (.astore 6, 2)) ∧ (decode cX9_arrow 7 = .ok (.aload 6, 2)) ∧ (decode cX9_arrow 9 = .ok (.iload_n 2, 1)) ∧ (decode cX9_arrow 10 = .ok (.invokestatic 88, 3)) ∧ (decode cX9_arrow 13 = .ok (.aload 6, 2)) ∧ (decode cX9_arrow 15 = .ok (.iload 4, 2)) ∧ (decode cX9_arrow 17 = .ok (.invokestatic 88, 3)) ∧ (decode cX9_arrow 20 = .ok (.iload_n 3, 1)) ∧ (decode cX9_arrow 21 = .ok (.invokestatic 92, 3)) := by decide +kernel
def dX9_arrow_0 := db_cX9_arrow_dX9_arrow_0_0.1
def dX9_arrow_1 := db_cX9_arrow_dX9_arrow_0_0.2.1
def dX9_arrow_2 := db_cX9_arrow_dX9_arrow_0_0.2.2.1
def dX9_arrow_5 := db_cX9_arrow_dX9_arrow_0_0.2.2.2.1
def dX9_arrow_7 := db_cX9_arrow_dX9_arrow_0_0.2.2.2.2.1
def dX9_arrow_9 := db_cX9_arrow_dX9_arrow_0_0.2.2.2.2.2.1
def dX9_arrow_10 := db_cX9_arrow_dX9_arrow_0_0.2.2.2.2.2.2.1
def dX9_arrow_13 := db_cX9_arrow_dX9_arrow_0_0.2.2.2.2.2.2.2.1
def dX9_arrow_15 := db_cX9_arrow_dX9_arrow_0_0.2.2.2.2.2.2.2.2.1
def dX9_arrow_17 := db_cX9_arrow_dX9_arrow_0_0.2.2.2.2.2.2.2.2.2.1
def dX9_arrow_20 := db_cX9_arrow_dX9_arrow_0_0.2.2.2.2.2.2.2.2.2.2.1
def dX9_arrow_21 := db_cX9_arrow_dX9_arrow_0_0.2.2.2.2.2.2.2.2.2.2.2
set_option maxRecDepth 100000 in
theorem db_cX9_arrow_dX9_arrow_24_1 : (decode cX9_arrow 24 = .ok (.aload 6, 2)) ∧ (decode cX9_arrow 26 = .ok (.iload_n 2, 1)) ∧ (decode cX9_arrow 27 = .ok (.iload_n 3, 1)) ∧ (decode cX9_arrow 28 = .ok (.invokevirtual 95, 3)) ∧ (decode cX9_arrow 31 = .ok (.istore 7, 2)) ∧ (decode cX9_arrow 33 = .ok (.iload 7, 2)) ∧ (decode cX9_arrow 35 = .ok (.iload 4, 2)) ∧ (decode cX9_arrow 37 = .ok (.iload 5, 2)) ∧ (decode cX9_arrow 39 = .ok (.invokestatic 99, 3)) ∧ (decode cX9_arrow 42 = .ok (.istore 8, 2)) ∧ (decode cX9_arrow 44 = .ok (.aload 6, 2)) ∧ (decode cX9_arrow 46 = .ok (.iload_n 2, 1)) := by decide +kernel
def dX9_arrow_24 := db_cX9_arrow_dX9_arrow_24_1.1
def dX9_arrow_26 := db_cX9_arrow_dX9_arrow_24_1.2.1
def dX9_arrow_27 := db_cX9_arrow_dX9_arrow_24_1.2.2.1
def dX9_arrow_28 := db_cX9_arrow_dX9_arrow_24_1.2.2.2.1
def dX9_arrow_31 := db_cX9_arrow_dX9_arrow_24_1.2.2.2.2.1
def dX9_arrow_33 := db_cX9_arrow_dX9_arrow_24_1.2.2.2.2.2.1
def dX9_arrow_35 := db_cX9_arrow_dX9_arrow_24_1.2.2.2.2.2.2.1
def dX9_arrow_37 := db_cX9_arrow_dX9_arrow_24_1.2.2.2.2.2.2.2.1
def dX9_arrow_39 := db_cX9_arrow_dX9_arrow_24_1.2.2.2.2.2.2.2.2.1
def dX9_arrow_42 := db_cX9_arrow_dX9_arrow_24_1.2.2.2.2.2.2.2.2.2.1
def dX9_arrow_44 := db_cX9_arrow_dX9_arrow_24_1.2.2.2.2.2.2.2.2.2.2.1
def dX9_arrow_46 := db_cX9_arrow_dX9_arrow_24_1.2.2.2.2.2.2.2.2.2.2.2
set_option maxRecDepth 100000 in
theorem db_cX9_arrow_dX9_arrow_47_2 : (decode cX9_arrow 47 = .ok (.iload_n 3, 1)) ∧ (decode cX9_arrow 48 = .ok (.iload 8, 2)) ∧ (decode cX9_arrow 50 = .ok (.invokevirtual 103, 3)) ∧ (decode cX9_arrow 53 = .ok (.aload_n 0, 1)) ∧ (decode cX9_arrow 54 = .ok (.iload 8, 2)) ∧ (decode cX9_arrow 56 = .ok (.iload 7, 2)) ∧ (decode cX9_arrow 58 = .ok (.if_icmp .eq 7, 3)) ∧ (decode cX9_arrow 61 = .ok (.iconst 1, 1)) ∧ (decode cX9_arrow 62 = .ok (.goto 4, 3)) ∧ (decode cX9_arrow 65 = .ok (.iconst 0, 1)) ∧ (decode cX9_arrow 66 = .ok (.invokevirtual 84, 3)) ∧ (decode cX9_arrow 69 = .ok (.ireturn, 1)) := by decide +kernel
def dX9_arrow_47 := db_cX9_arrow_dX9_arrow_47_2.1
def dX9_arrow_48 := db_cX9_arrow_dX9_arrow_47_2.2.1
def dX9_arrow_50 := db_cX9_arrow_dX9_arrow_47_2.2.2.1
def dX9_arrow_53 := db_cX9_arrow_dX9_arrow_47_2.2.2.2.1
def dX9_arrow_54 := db_cX9_arrow_dX9_arrow_47_2.2.2.2.2.1
def dX9_arrow_56 := db_cX9_arrow_dX9_arrow_47_2.2.2.2.2.2.1
def dX9_arrow_58 := db_cX9_arrow_dX9_arrow_47_2.2.2.2.2.2.2.1
def dX9_arrow_61 := db_cX9_arrow_dX9_arrow_47_2.2.2.2.2.2.2.2.1
def dX9_arrow_62 := db_cX9_arrow_dX9_arrow_47_2.2.2.2.2.2.2.2.2.1
def dX9_arrow_65 := db_cX9_arrow_dX9_arrow_47_2.2.2.2.2.2.2.2.2.2.1
def dX9_arrow_66 := db_cX9_arrow_dX9_arrow_47_2.2.2.2.2.2.2.2.2.2.2.1
def dX9_arrow_69 := db_cX9_arrow_dX9_arrow_47_2.2.2.2.2.2.2.2.2.2.2.2
set_option maxRecDepth 100000 in
theorem db_cX9_lead_dX9_lead_0_0 : (decode cX9_lead 0 = .ok (.aload_n 0, 1)) ∧ (decode cX9_lead 1 = .ok (.iload_n 1, 1)) ∧ (decode cX9_lead 2 = .ok (.invokevirtual 69, 3)) ∧ (decode cX9_lead 5 = .ok (.astore 5, 2)) ∧ (decode cX9_lead 7 = .ok (.aload 5, 2)) ∧ (decode cX9_lead 9 = .ok (.iload_n 2, 1)) ∧ (decode cX9_lead 10 = .ok (.invokestatic 88, 3)) ∧ (decode cX9_lead 13 = .ok (.aload 5, 2)) ∧ (decode cX9_lead 15 = .ok (.iload 4, 2)) ∧ (decode cX9_lead 17 = .ok (.invokestatic 88, 3)) ∧ (decode cX9_lead 20 = .ok (.iload_n 3, 1)) ∧ (decode cX9_lead 21 = .ok (.invokestatic 92, 3)) := by decide +kernel
def dX9_lead_0 := db_cX9_lead_dX9_lead_0_0.1
def dX9_lead_1 := db_cX9_lead_dX9_lead_0_0.2.1
def dX9_lead_2 := db_cX9_lead_dX9_lead_0_0.2.2.1
def dX9_lead_5 := db_cX9_lead_dX9_lead_0_0.2.2.2.1
def dX9_lead_7 := db_cX9_lead_dX9_lead_0_0.2.2.2.2.1
def dX9_lead_9 := db_cX9_lead_dX9_lead_0_0.2.2.2.2.2.1
def dX9_lead_10 := db_cX9_lead_dX9_lead_0_0.2.2.2.2.2.2.1
def dX9_lead_13 := db_cX9_lead_dX9_lead_0_0.2.2.2.2.2.2.2.1
def dX9_lead_15 := db_cX9_lead_dX9_lead_0_0.2.2.2.2.2.2.2.2.1
def dX9_lead_17 := db_cX9_lead_dX9_lead_0_0.2.2.2.2.2.2.2.2.2.1
def dX9_lead_20 := db_cX9_lead_dX9_lead_0_0.2.2.2.2.2.2.2.2.2.2.1
def dX9_lead_21 := db_cX9_lead_dX9_lead_0_0.2.2.2.2.2.2.2.2.2.2.2
set_option maxRecDepth 100000 in
theorem db_cX9_lead_dX9_lead_24_1 : (decode cX9_lead 24 = .ok (.aload 5, 2)) ∧ (decode cX9_lead 26 = .ok (.iload_n 2, 1)) ∧ (decode cX9_lead 27 = .ok (.iload_n 3, 1)) ∧ (decode cX9_lead 28 = .ok (.invokevirtual 95, 3)) ∧ (decode cX9_lead 31 = .ok (.istore 6, 2)) ∧ (decode cX9_lead 33 = .ok (.aload 5, 2)) ∧ (decode cX9_lead 35 = .ok (.iload_n 2, 1)) ∧ (decode cX9_lead 36 = .ok (.iload_n 3, 1)) ∧ (decode cX9_lead 37 = .ok (.iconst 1, 1)) ∧ (decode cX9_lead 38 = .ok (.iload 4, 2)) ∧ (decode cX9_lead 40 = .ok (.ishl, 1)) ∧ (decode cX9_lead 41 = .ok (.invokevirtual 103, 3)) := by decide +kernel
def dX9_lead_24 := db_cX9_lead_dX9_lead_24_1.1
def dX9_lead_26 := db_cX9_lead_dX9_lead_24_1.2.1
def dX9_lead_27 := db_cX9_lead_dX9_lead_24_1.2.2.1
def dX9_lead_28 := db_cX9_lead_dX9_lead_24_1.2.2.2.1
def dX9_lead_31 := db_cX9_lead_dX9_lead_24_1.2.2.2.2.1
def dX9_lead_33 := db_cX9_lead_dX9_lead_24_1.2.2.2.2.2.1
def dX9_lead_35 := db_cX9_lead_dX9_lead_24_1.2.2.2.2.2.2.1
def dX9_lead_36 := db_cX9_lead_dX9_lead_24_1.2.2.2.2.2.2.2.1
def dX9_lead_37 := db_cX9_lead_dX9_lead_24_1.2.2.2.2.2.2.2.2.1
def dX9_lead_38 := db_cX9_lead_dX9_lead_24_1.2.2.2.2.2.2.2.2.2.1
def dX9_lead_40 := db_cX9_lead_dX9_lead_24_1.2.2.2.2.2.2.2.2.2.2.1
def dX9_lead_41 := db_cX9_lead_dX9_lead_24_1.2.2.2.2.2.2.2.2.2.2.2
set_option maxRecDepth 100000 in
theorem db_cX9_lead_dX9_lead_44_2 : (decode cX9_lead 44 = .ok (.aload_n 0, 1)) ∧ (decode cX9_lead 45 = .ok (.iload 6, 2)) ∧ (decode cX9_lead 47 = .ok (.invokestatic 106, 3)) ∧ (decode cX9_lead 50 = .ok (.invokevirtual 84, 3)) ∧ (decode cX9_lead 53 = .ok (.ireturn, 1)) := by decide +kernel
def dX9_lead_44 := db_cX9_lead_dX9_lead_44_2.1
def dX9_lead_45 := db_cX9_lead_dX9_lead_44_2.2.1
def dX9_lead_47 := db_cX9_lead_dX9_lead_44_2.2.2.1
def dX9_lead_50 := db_cX9_lead_dX9_lead_44_2.2.2.2.1
def dX9_lead_53 := db_cX9_lead_dX9_lead_44_2.2.2.2.2
set_option maxRecDepth 100000 in
theorem db_cX9_mark_dX9_mark_0_0 : (decode cX9_mark 0 = .ok (.aload_n 0, 1)) ∧ (decode cX9_mark 1 = .ok (.iload_n 1, 1)) ∧ (decode cX9_mark 2 = .ok (.invokevirtual 69, 3)) ∧ (decode cX9_mark 5 = .ok (.astore 5, 2)) ∧ (decode cX9_mark 7 = .ok (.aload 5, 2)) ∧ (decode cX9_mark 9 = .ok (.iload_n 2, 1)) ∧ (decode cX9_mark 10 = .ok (.invokestatic 88, 3)) ∧ (decode cX9_mark 13 = .ok (.iload_n 3, 1)) ∧ (decode cX9_mark 14 = .ok (.ifCond .eq 11, 3)) ∧ (decode cX9_mark 17 = .ok (.aload 5, 2)) ∧ (decode cX9_mark 19 = .ok (.getfield 111, 3)) ∧ (decode cX9_mark 22 = .ok (.goto 8, 3)) := by decide +kernel
def dX9_mark_0 := db_cX9_mark_dX9_mark_0_0.1
def dX9_mark_1 := db_cX9_mark_dX9_mark_0_0.2.1
def dX9_mark_2 := db_cX9_mark_dX9_mark_0_0.2.2.1
def dX9_mark_5 := db_cX9_mark_dX9_mark_0_0.2.2.2.1
def dX9_mark_7 := db_cX9_mark_dX9_mark_0_0.2.2.2.2.1
def dX9_mark_9 := db_cX9_mark_dX9_mark_0_0.2.2.2.2.2.1
def dX9_mark_10 := db_cX9_mark_dX9_mark_0_0.2.2.2.2.2.2.1
def dX9_mark_13 := db_cX9_mark_dX9_mark_0_0.2.2.2.2.2.2.2.1
def dX9_mark_14 := db_cX9_mark_dX9_mark_0_0.2.2.2.2.2.2.2.2.1
def dX9_mark_17 := db_cX9_mark_dX9_mark_0_0.2.2.2.2.2.2.2.2.2.1
def dX9_mark_19 := db_cX9_mark_dX9_mark_0_0.2.2.2.2.2.2.2.2.2.2.1
def dX9_mark_22 := db_cX9_mark_dX9_mark_0_0.2.2.2.2.2.2.2.2.2.2.2
set_option maxRecDepth 100000 in
theorem db_cX9_mark_dX9_mark_25_1 : (decode cX9_mark 25 = .ok (.aload 5, 2)) ∧ (decode cX9_mark 27 = .ok (.getfield 115, 3)) ∧ (decode cX9_mark 30 = .ok (.istore 6, 2)) ∧ (decode cX9_mark 32 = .ok (.iload 6, 2)) ∧ (decode cX9_mark 34 = .ok (.iload_n 2, 1)) ∧ (decode cX9_mark 35 = .ok (.iload 4, 2)) ∧ (decode cX9_mark 37 = .ok (.invokestatic 99, 3)) ∧ (decode cX9_mark 40 = .ok (.istore 7, 2)) ∧ (decode cX9_mark 42 = .ok (.iload_n 3, 1)) ∧ (decode cX9_mark 43 = .ok (.ifCond .eq 13, 3)) ∧ (decode cX9_mark 46 = .ok (.aload 5, 2)) ∧ (decode cX9_mark 48 = .ok (.iload 7, 2)) := by decide +kernel
def dX9_mark_25 := db_cX9_mark_dX9_mark_25_1.1
def dX9_mark_27 := db_cX9_mark_dX9_mark_25_1.2.1
def dX9_mark_30 := db_cX9_mark_dX9_mark_25_1.2.2.1
def dX9_mark_32 := db_cX9_mark_dX9_mark_25_1.2.2.2.1
def dX9_mark_34 := db_cX9_mark_dX9_mark_25_1.2.2.2.2.1
def dX9_mark_35 := db_cX9_mark_dX9_mark_25_1.2.2.2.2.2.1
def dX9_mark_37 := db_cX9_mark_dX9_mark_25_1.2.2.2.2.2.2.1
def dX9_mark_40 := db_cX9_mark_dX9_mark_25_1.2.2.2.2.2.2.2.1
def dX9_mark_42 := db_cX9_mark_dX9_mark_25_1.2.2.2.2.2.2.2.2.1
def dX9_mark_43 := db_cX9_mark_dX9_mark_25_1.2.2.2.2.2.2.2.2.2.1
def dX9_mark_46 := db_cX9_mark_dX9_mark_25_1.2.2.2.2.2.2.2.2.2.2.1
def dX9_mark_48 := db_cX9_mark_dX9_mark_25_1.2.2.2.2.2.2.2.2.2.2.2
set_option maxRecDepth 100000 in
theorem db_cX9_mark_dX9_mark_50_2 : (decode cX9_mark 50 = .ok (.putfield 111, 3)) ∧ (decode cX9_mark 53 = .ok (.goto 10, 3)) ∧ (decode cX9_mark 56 = .ok (.aload 5, 2)) ∧ (decode cX9_mark 58 = .ok (.iload 7, 2)) ∧ (decode cX9_mark 60 = .ok (.putfield 115, 3)) ∧ (decode cX9_mark 63 = .ok (.aload_n 0, 1)) ∧ (decode cX9_mark 64 = .ok (.iload 7, 2)) ∧ (decode cX9_mark 66 = .ok (.iload 6, 2)) ∧ (decode cX9_mark 68 = .ok (.if_icmp .eq 7, 3)) ∧ (decode cX9_mark 71 = .ok (.iconst 1, 1)) ∧ (decode cX9_mark 72 = .ok (.goto 4, 3)) ∧ (decode cX9_mark 75 = .ok (.iconst 0, 1)) := by decide +kernel
def dX9_mark_50 := db_cX9_mark_dX9_mark_50_2.1
def dX9_mark_53 := db_cX9_mark_dX9_mark_50_2.2.1
def dX9_mark_56 := db_cX9_mark_dX9_mark_50_2.2.2.1
def dX9_mark_58 := db_cX9_mark_dX9_mark_50_2.2.2.2.1
def dX9_mark_60 := db_cX9_mark_dX9_mark_50_2.2.2.2.2.1
def dX9_mark_63 := db_cX9_mark_dX9_mark_50_2.2.2.2.2.2.1
def dX9_mark_64 := db_cX9_mark_dX9_mark_50_2.2.2.2.2.2.2.1
def dX9_mark_66 := db_cX9_mark_dX9_mark_50_2.2.2.2.2.2.2.2.1
def dX9_mark_68 := db_cX9_mark_dX9_mark_50_2.2.2.2.2.2.2.2.2.1
def dX9_mark_71 := db_cX9_mark_dX9_mark_50_2.2.2.2.2.2.2.2.2.2.1
def dX9_mark_72 := db_cX9_mark_dX9_mark_50_2.2.2.2.2.2.2.2.2.2.2.1
def dX9_mark_75 := db_cX9_mark_dX9_mark_50_2.2.2.2.2.2.2.2.2.2.2.2
theorem dX9_mark_76 : decode cX9_mark 76 = .ok (.invokevirtual 84, 3) := by decide +kernel
theorem dX9_mark_79 : decode cX9_mark 79 = .ok (.ireturn, 1) := by decide +kernel
set_option maxRecDepth 100000 in
theorem db_cX9_sow_dX9_sow_0_0 : (decode cX9_sow 0 = .ok (.aload_n 0, 1)) ∧ (decode cX9_sow 1 = .ok (.iload_n 1, 1)) ∧ (decode cX9_sow 2 = .ok (.invokevirtual 69, 3)) ∧ (decode cX9_sow 5 = .ok (.astore 5, 2)) ∧ (decode cX9_sow 7 = .ok (.iload_n 2, 1)) ∧ (decode cX9_sow 8 = .ok (.iconst 0, 1)) ∧ (decode cX9_sow 9 = .ok (.ldc 118, 2)) ∧ (decode cX9_sow 11 = .ok (.invokestatic 73, 3)) ∧ (decode cX9_sow 14 = .ok (.iload_n 3, 1)) ∧ (decode cX9_sow 15 = .ok (.iconst 1, 1)) ∧ (decode cX9_sow 16 = .ok (.bipush 7, 2)) ∧ (decode cX9_sow 18 = .ok (.invokestatic 73, 3)) := by decide +kernel
def dX9_sow_0 := db_cX9_sow_dX9_sow_0_0.1
def dX9_sow_1 := db_cX9_sow_dX9_sow_0_0.2.1
def dX9_sow_2 := db_cX9_sow_dX9_sow_0_0.2.2.1
def dX9_sow_5 := db_cX9_sow_dX9_sow_0_0.2.2.2.1
def dX9_sow_7 := db_cX9_sow_dX9_sow_0_0.2.2.2.2.1
def dX9_sow_8 := db_cX9_sow_dX9_sow_0_0.2.2.2.2.2.1
def dX9_sow_9 := db_cX9_sow_dX9_sow_0_0.2.2.2.2.2.2.1
def dX9_sow_11 := db_cX9_sow_dX9_sow_0_0.2.2.2.2.2.2.2.1
def dX9_sow_14 := db_cX9_sow_dX9_sow_0_0.2.2.2.2.2.2.2.2.1
def dX9_sow_15 := db_cX9_sow_dX9_sow_0_0.2.2.2.2.2.2.2.2.2.1
def dX9_sow_16 := db_cX9_sow_dX9_sow_0_0.2.2.2.2.2.2.2.2.2.2.1
def dX9_sow_18 := db_cX9_sow_dX9_sow_0_0.2.2.2.2.2.2.2.2.2.2.2
set_option maxRecDepth 100000 in
theorem db_cX9_sow_dX9_sow_21_1 : (decode cX9_sow 21 = .ok (.iload 4, 2)) ∧ (decode cX9_sow 23 = .ok (.iconst 0, 1)) ∧ (decode cX9_sow 24 = .ok (.bipush 6, 2)) ∧ (decode cX9_sow 26 = .ok (.invokestatic 73, 3)) ∧ (decode cX9_sow 29 = .ok (.aload_n 0, 1)) ∧ (decode cX9_sow 30 = .ok (.getfield 28, 3)) ∧ (decode cX9_sow 33 = .ok (.iload_n 2, 1)) ∧ (decode cX9_sow 34 = .ok (.invokevirtual 119, 3)) ∧ (decode cX9_sow 37 = .ok (.aload 5, 2)) ∧ (decode cX9_sow 39 = .ok (.iload_n 3, 1)) ∧ (decode cX9_sow 40 = .ok (.invokevirtual 81, 3)) ∧ (decode cX9_sow 43 = .ok (.aload 5, 2)) := by decide +kernel
def dX9_sow_21 := db_cX9_sow_dX9_sow_21_1.1
def dX9_sow_23 := db_cX9_sow_dX9_sow_21_1.2.1
def dX9_sow_24 := db_cX9_sow_dX9_sow_21_1.2.2.1
def dX9_sow_26 := db_cX9_sow_dX9_sow_21_1.2.2.2.1
def dX9_sow_29 := db_cX9_sow_dX9_sow_21_1.2.2.2.2.1
def dX9_sow_30 := db_cX9_sow_dX9_sow_21_1.2.2.2.2.2.1
def dX9_sow_33 := db_cX9_sow_dX9_sow_21_1.2.2.2.2.2.2.1
def dX9_sow_34 := db_cX9_sow_dX9_sow_21_1.2.2.2.2.2.2.2.1
def dX9_sow_37 := db_cX9_sow_dX9_sow_21_1.2.2.2.2.2.2.2.2.1
def dX9_sow_39 := db_cX9_sow_dX9_sow_21_1.2.2.2.2.2.2.2.2.2.1
def dX9_sow_40 := db_cX9_sow_dX9_sow_21_1.2.2.2.2.2.2.2.2.2.2.1
def dX9_sow_43 := db_cX9_sow_dX9_sow_21_1.2.2.2.2.2.2.2.2.2.2.2
set_option maxRecDepth 100000 in
theorem db_cX9_sow_dX9_sow_45_2 : (decode cX9_sow 45 = .ok (.aload_n 0, 1)) ∧ (decode cX9_sow 46 = .ok (.getfield 28, 3)) ∧ (decode cX9_sow 49 = .ok (.iload 4, 2)) ∧ (decode cX9_sow 51 = .ok (.invokevirtual 122, 3)) ∧ (decode cX9_sow 54 = .ok (.aload 5, 2)) ∧ (decode cX9_sow 56 = .ok (.aload_n 0, 1)) ∧ (decode cX9_sow 57 = .ok (.getfield 28, 3)) ∧ (decode cX9_sow 60 = .ok (.invokevirtual 126, 3)) ∧ (decode cX9_sow 63 = .ok (.aload_n 0, 1)) ∧ (decode cX9_sow 64 = .ok (.aload 5, 2)) ∧ (decode cX9_sow 66 = .ok (.invokevirtual 77, 3)) ∧ (decode cX9_sow 69 = .ok (.invokevirtual 84, 3)) := by decide +kernel
def dX9_sow_45 := db_cX9_sow_dX9_sow_45_2.1
def dX9_sow_46 := db_cX9_sow_dX9_sow_45_2.2.1
def dX9_sow_49 := db_cX9_sow_dX9_sow_45_2.2.2.1
def dX9_sow_51 := db_cX9_sow_dX9_sow_45_2.2.2.2.1
def dX9_sow_54 := db_cX9_sow_dX9_sow_45_2.2.2.2.2.1
def dX9_sow_56 := db_cX9_sow_dX9_sow_45_2.2.2.2.2.2.1
def dX9_sow_57 := db_cX9_sow_dX9_sow_45_2.2.2.2.2.2.2.1
def dX9_sow_60 := db_cX9_sow_dX9_sow_45_2.2.2.2.2.2.2.2.1
def dX9_sow_63 := db_cX9_sow_dX9_sow_45_2.2.2.2.2.2.2.2.2.1
def dX9_sow_64 := db_cX9_sow_dX9_sow_45_2.2.2.2.2.2.2.2.2.2.1
def dX9_sow_66 := db_cX9_sow_dX9_sow_45_2.2.2.2.2.2.2.2.2.2.2.1
def dX9_sow_69 := db_cX9_sow_dX9_sow_45_2.2.2.2.2.2.2.2.2.2.2.2
theorem dX9_sow_72 : decode cX9_sow 72 = .ok (.ireturn, 1) := by decide +kernel
set_option maxRecDepth 100000 in
theorem db_cX9_copy_dX9_copy_0_0 : (decode cX9_copy 0 = .ok (.aload_n 0, 1)) ∧ (decode cX9_copy 1 = .ok (.iload_n 1, 1)) ∧ (decode cX9_copy 2 = .ok (.invokevirtual 69, 3)) ∧ (decode cX9_copy 5 = .ok (.astore_n 3, 1)) ∧ (decode cX9_copy 6 = .ok (.aload_n 0, 1)) ∧ (decode cX9_copy 7 = .ok (.iload_n 2, 1)) ∧ (decode cX9_copy 8 = .ok (.invokevirtual 69, 3)) ∧ (decode cX9_copy 11 = .ok (.astore 4, 2)) ∧ (decode cX9_copy 13 = .ok (.aload 4, 2)) ∧ (decode cX9_copy 15 = .ok (.aload_n 3, 1)) ∧ (decode cX9_copy 16 = .ok (.invokevirtual 130, 3)) ∧ (decode cX9_copy 19 = .ok (.istore 5, 2)) := by decide +kernel
def dX9_copy_0 := db_cX9_copy_dX9_copy_0_0.1
def dX9_copy_1 := db_cX9_copy_dX9_copy_0_0.2.1
def dX9_copy_2 := db_cX9_copy_dX9_copy_0_0.2.2.1
def dX9_copy_5 := db_cX9_copy_dX9_copy_0_0.2.2.2.1
def dX9_copy_6 := db_cX9_copy_dX9_copy_0_0.2.2.2.2.1
def dX9_copy_7 := db_cX9_copy_dX9_copy_0_0.2.2.2.2.2.1
def dX9_copy_8 := db_cX9_copy_dX9_copy_0_0.2.2.2.2.2.2.1
def dX9_copy_11 := db_cX9_copy_dX9_copy_0_0.2.2.2.2.2.2.2.1
def dX9_copy_13 := db_cX9_copy_dX9_copy_0_0.2.2.2.2.2.2.2.2.1
def dX9_copy_15 := db_cX9_copy_dX9_copy_0_0.2.2.2.2.2.2.2.2.2.1
def dX9_copy_16 := db_cX9_copy_dX9_copy_0_0.2.2.2.2.2.2.2.2.2.2.1
def dX9_copy_19 := db_cX9_copy_dX9_copy_0_0.2.2.2.2.2.2.2.2.2.2.2
set_option maxRecDepth 100000 in
theorem db_cX9_copy_dX9_copy_21_1 : (decode cX9_copy 21 = .ok (.aload 4, 2)) ∧ (decode cX9_copy 23 = .ok (.aload_n 3, 1)) ∧ (decode cX9_copy 24 = .ok (.invokevirtual 134, 3)) ∧ (decode cX9_copy 27 = .ok (.aload_n 0, 1)) ∧ (decode cX9_copy 28 = .ok (.iload 5, 2)) ∧ (decode cX9_copy 30 = .ok (.ifCond .eq 7, 3)) ∧ (decode cX9_copy 33 = .ok (.iconst 0, 1)) ∧ (decode cX9_copy 34 = .ok (.goto 4, 3)) ∧ (decode cX9_copy 37 = .ok (.iconst 1, 1)) ∧ (decode cX9_copy 38 = .ok (.invokevirtual 84, 3)) ∧ (decode cX9_copy 41 = .ok (.ireturn, 1)) := by decide +kernel
def dX9_copy_21 := db_cX9_copy_dX9_copy_21_1.1
def dX9_copy_23 := db_cX9_copy_dX9_copy_21_1.2.1
def dX9_copy_24 := db_cX9_copy_dX9_copy_21_1.2.2.1
def dX9_copy_27 := db_cX9_copy_dX9_copy_21_1.2.2.2.1
def dX9_copy_28 := db_cX9_copy_dX9_copy_21_1.2.2.2.2.1
def dX9_copy_30 := db_cX9_copy_dX9_copy_21_1.2.2.2.2.2.1
def dX9_copy_33 := db_cX9_copy_dX9_copy_21_1.2.2.2.2.2.2.1
def dX9_copy_34 := db_cX9_copy_dX9_copy_21_1.2.2.2.2.2.2.2.1
def dX9_copy_37 := db_cX9_copy_dX9_copy_21_1.2.2.2.2.2.2.2.2.1
def dX9_copy_38 := db_cX9_copy_dX9_copy_21_1.2.2.2.2.2.2.2.2.2.1
def dX9_copy_41 := db_cX9_copy_dX9_copy_21_1.2.2.2.2.2.2.2.2.2.2
set_option maxRecDepth 100000 in
theorem db_cX9_swap_dX9_swap_0_0 : (decode cX9_swap 0 = .ok (.aload_n 0, 1)) ∧ (decode cX9_swap 1 = .ok (.iload_n 1, 1)) ∧ (decode cX9_swap 2 = .ok (.invokevirtual 69, 3)) ∧ (decode cX9_swap 5 = .ok (.astore_n 3, 1)) ∧ (decode cX9_swap 6 = .ok (.aload_n 0, 1)) ∧ (decode cX9_swap 7 = .ok (.iload_n 2, 1)) ∧ (decode cX9_swap 8 = .ok (.invokevirtual 69, 3)) ∧ (decode cX9_swap 11 = .ok (.astore 4, 2)) ∧ (decode cX9_swap 13 = .ok (.aload_n 3, 1)) ∧ (decode cX9_swap 14 = .ok (.aload 4, 2)) ∧ (decode cX9_swap 16 = .ok (.invokevirtual 130, 3)) ∧ (decode cX9_swap 19 = .ok (.istore 5, 2)) := by decide +kernel
def dX9_swap_0 := db_cX9_swap_dX9_swap_0_0.1
def dX9_swap_1 := db_cX9_swap_dX9_swap_0_0.2.1
def dX9_swap_2 := db_cX9_swap_dX9_swap_0_0.2.2.1
def dX9_swap_5 := db_cX9_swap_dX9_swap_0_0.2.2.2.1
def dX9_swap_6 := db_cX9_swap_dX9_swap_0_0.2.2.2.2.1
def dX9_swap_7 := db_cX9_swap_dX9_swap_0_0.2.2.2.2.2.1
def dX9_swap_8 := db_cX9_swap_dX9_swap_0_0.2.2.2.2.2.2.1
def dX9_swap_11 := db_cX9_swap_dX9_swap_0_0.2.2.2.2.2.2.2.1
def dX9_swap_13 := db_cX9_swap_dX9_swap_0_0.2.2.2.2.2.2.2.2.1
def dX9_swap_14 := db_cX9_swap_dX9_swap_0_0.2.2.2.2.2.2.2.2.2.1
def dX9_swap_16 := db_cX9_swap_dX9_swap_0_0.2.2.2.2.2.2.2.2.2.2.1
def dX9_swap_19 := db_cX9_swap_dX9_swap_0_0.2.2.2.2.2.2.2.2.2.2.2
set_option maxRecDepth 100000 in
theorem db_cX9_swap_dX9_swap_21_1 : (decode cX9_swap 21 = .ok (.aload_n 0, 1)) ∧ (decode cX9_swap 22 = .ok (.getfield 18, 3)) ∧ (decode cX9_swap 25 = .ok (.aload_n 3, 1)) ∧ (decode cX9_swap 26 = .ok (.invokevirtual 134, 3)) ∧ (decode cX9_swap 29 = .ok (.aload_n 3, 1)) ∧ (decode cX9_swap 30 = .ok (.aload 4, 2)) ∧ (decode cX9_swap 32 = .ok (.invokevirtual 134, 3)) ∧ (decode cX9_swap 35 = .ok (.aload 4, 2)) ∧ (decode cX9_swap 37 = .ok (.aload_n 0, 1)) ∧ (decode cX9_swap 38 = .ok (.getfield 18, 3)) ∧ (decode cX9_swap 41 = .ok (.invokevirtual 134, 3)) ∧ (decode cX9_swap 44 = .ok (.aload_n 0, 1)) := by decide +kernel
def dX9_swap_21 := db_cX9_swap_dX9_swap_21_1.1
def dX9_swap_22 := db_cX9_swap_dX9_swap_21_1.2.1
def dX9_swap_25 := db_cX9_swap_dX9_swap_21_1.2.2.1
def dX9_swap_26 := db_cX9_swap_dX9_swap_21_1.2.2.2.1
def dX9_swap_29 := db_cX9_swap_dX9_swap_21_1.2.2.2.2.1
def dX9_swap_30 := db_cX9_swap_dX9_swap_21_1.2.2.2.2.2.1
def dX9_swap_32 := db_cX9_swap_dX9_swap_21_1.2.2.2.2.2.2.1
def dX9_swap_35 := db_cX9_swap_dX9_swap_21_1.2.2.2.2.2.2.2.1
def dX9_swap_37 := db_cX9_swap_dX9_swap_21_1.2.2.2.2.2.2.2.2.1
def dX9_swap_38 := db_cX9_swap_dX9_swap_21_1.2.2.2.2.2.2.2.2.2.1
def dX9_swap_41 := db_cX9_swap_dX9_swap_21_1.2.2.2.2.2.2.2.2.2.2.1
def dX9_swap_44 := db_cX9_swap_dX9_swap_21_1.2.2.2.2.2.2.2.2.2.2.2
set_option maxRecDepth 100000 in
theorem db_cX9_swap_dX9_swap_45_2 : (decode cX9_swap 45 = .ok (.iload 5, 2)) ∧ (decode cX9_swap 47 = .ok (.ifCond .eq 7, 3)) ∧ (decode cX9_swap 50 = .ok (.iconst 0, 1)) ∧ (decode cX9_swap 51 = .ok (.goto 4, 3)) ∧ (decode cX9_swap 54 = .ok (.iconst 1, 1)) ∧ (decode cX9_swap 55 = .ok (.invokevirtual 84, 3)) ∧ (decode cX9_swap 58 = .ok (.ireturn, 1)) := by decide +kernel
def dX9_swap_45 := db_cX9_swap_dX9_swap_45_2.1
def dX9_swap_47 := db_cX9_swap_dX9_swap_45_2.2.1
def dX9_swap_50 := db_cX9_swap_dX9_swap_45_2.2.2.1
def dX9_swap_51 := db_cX9_swap_dX9_swap_45_2.2.2.2.1
def dX9_swap_54 := db_cX9_swap_dX9_swap_45_2.2.2.2.2.1
def dX9_swap_55 := db_cX9_swap_dX9_swap_45_2.2.2.2.2.2.1
def dX9_swap_58 := db_cX9_swap_dX9_swap_45_2.2.2.2.2.2.2
set_option maxRecDepth 100000 in
theorem db_cX9_turn_dX9_turn_0_0 : (decode cX9_turn 0 = .ok (.aload_n 0, 1)) ∧ (decode cX9_turn 1 = .ok (.iload_n 1, 1)) ∧ (decode cX9_turn 2 = .ok (.invokevirtual 69, 3)) ∧ (decode cX9_turn 5 = .ok (.astore_n 2, 1)) ∧ (decode cX9_turn 6 = .ok (.aload_n 0, 1)) ∧ (decode cX9_turn 7 = .ok (.getfield 18, 3)) ∧ (decode cX9_turn 10 = .ok (.aload_n 2, 1)) ∧ (decode cX9_turn 11 = .ok (.invokevirtual 134, 3)) ∧ (decode cX9_turn 14 = .ok (.aload_n 2, 1)) ∧ (decode cX9_turn 15 = .ok (.aload_n 0, 1)) ∧ (decode cX9_turn 16 = .ok (.getfield 18, 3)) ∧ (decode cX9_turn 19 = .ok (.invokevirtual 138, 3)) := by decide +kernel
def dX9_turn_0 := db_cX9_turn_dX9_turn_0_0.1
def dX9_turn_1 := db_cX9_turn_dX9_turn_0_0.2.1
def dX9_turn_2 := db_cX9_turn_dX9_turn_0_0.2.2.1
def dX9_turn_5 := db_cX9_turn_dX9_turn_0_0.2.2.2.1
def dX9_turn_6 := db_cX9_turn_dX9_turn_0_0.2.2.2.2.1
def dX9_turn_7 := db_cX9_turn_dX9_turn_0_0.2.2.2.2.2.1
def dX9_turn_10 := db_cX9_turn_dX9_turn_0_0.2.2.2.2.2.2.1
def dX9_turn_11 := db_cX9_turn_dX9_turn_0_0.2.2.2.2.2.2.2.1
def dX9_turn_14 := db_cX9_turn_dX9_turn_0_0.2.2.2.2.2.2.2.2.1
def dX9_turn_15 := db_cX9_turn_dX9_turn_0_0.2.2.2.2.2.2.2.2.2.1
def dX9_turn_16 := db_cX9_turn_dX9_turn_0_0.2.2.2.2.2.2.2.2.2.2.1
def dX9_turn_19 := db_cX9_turn_dX9_turn_0_0.2.2.2.2.2.2.2.2.2.2.2
set_option maxRecDepth 100000 in
theorem db_cX9_turn_dX9_turn_22_1 : (decode cX9_turn 22 = .ok (.aload_n 0, 1)) ∧ (decode cX9_turn 23 = .ok (.aload_n 2, 1)) ∧ (decode cX9_turn 24 = .ok (.invokevirtual 77, 3)) ∧ (decode cX9_turn 27 = .ok (.invokevirtual 84, 3)) ∧ (decode cX9_turn 30 = .ok (.ireturn, 1)) := by decide +kernel
def dX9_turn_22 := db_cX9_turn_dX9_turn_22_1.1
def dX9_turn_23 := db_cX9_turn_dX9_turn_22_1.2.1
def dX9_turn_24 := db_cX9_turn_dX9_turn_22_1.2.2.1
def dX9_turn_27 := db_cX9_turn_dX9_turn_22_1.2.2.2.1
def dX9_turn_30 := db_cX9_turn_dX9_turn_22_1.2.2.2.2
set_option maxRecDepth 100000 in
theorem db_cX9_other_dX9_other_0_0 : (decode cX9_other 0 = .ok (.aload_n 0, 1)) ∧ (decode cX9_other 1 = .ok (.iload_n 1, 1)) ∧ (decode cX9_other 2 = .ok (.invokevirtual 69, 3)) ∧ (decode cX9_other 5 = .ok (.astore_n 2, 1)) ∧ (decode cX9_other 6 = .ok (.aload_n 2, 1)) ∧ (decode cX9_other 7 = .ok (.invokevirtual 141, 3)) ∧ (decode cX9_other 10 = .ok (.ifCond .ne 8, 3)) ∧ (decode cX9_other 13 = .ok (.aload_n 0, 1)) ∧ (decode cX9_other 14 = .ok (.invokevirtual 145, 3)) ∧ (decode cX9_other 17 = .ok (.ireturn, 1)) ∧ (decode cX9_other 18 = .ok (.aload_n 2, 1)) ∧ (decode cX9_other 19 = .ok (.aload_n 2, 1)) := by decide +kernel
def dX9_other_0 := db_cX9_other_dX9_other_0_0.1
def dX9_other_1 := db_cX9_other_dX9_other_0_0.2.1
def dX9_other_2 := db_cX9_other_dX9_other_0_0.2.2.1
def dX9_other_5 := db_cX9_other_dX9_other_0_0.2.2.2.1
def dX9_other_6 := db_cX9_other_dX9_other_0_0.2.2.2.2.1
def dX9_other_7 := db_cX9_other_dX9_other_0_0.2.2.2.2.2.1
def dX9_other_10 := db_cX9_other_dX9_other_0_0.2.2.2.2.2.2.1
def dX9_other_13 := db_cX9_other_dX9_other_0_0.2.2.2.2.2.2.2.1
def dX9_other_14 := db_cX9_other_dX9_other_0_0.2.2.2.2.2.2.2.2.1
def dX9_other_17 := db_cX9_other_dX9_other_0_0.2.2.2.2.2.2.2.2.2.1
def dX9_other_18 := db_cX9_other_dX9_other_0_0.2.2.2.2.2.2.2.2.2.2.1
def dX9_other_19 := db_cX9_other_dX9_other_0_0.2.2.2.2.2.2.2.2.2.2.2
set_option maxRecDepth 100000 in
theorem db_cX9_other_dX9_other_20_1 : (decode cX9_other 20 = .ok (.invokevirtual 148, 3)) ∧ (decode cX9_other 23 = .ok (.aload_n 2, 1)) ∧ (decode cX9_other 24 = .ok (.getfield 111, 3)) ∧ (decode cX9_other 27 = .ok (.iconst (-1), 1)) ∧ (decode cX9_other 28 = .ok (.ixor, 1)) ∧ (decode cX9_other 29 = .ok (.iand, 1)) ∧ (decode cX9_other 30 = .ok (.putfield 111, 3)) ∧ (decode cX9_other 33 = .ok (.aload_n 0, 1)) ∧ (decode cX9_other 34 = .ok (.aload_n 2, 1)) ∧ (decode cX9_other 35 = .ok (.getfield 111, 3)) ∧ (decode cX9_other 38 = .ok (.invokestatic 106, 3)) ∧ (decode cX9_other 41 = .ok (.invokevirtual 84, 3)) := by decide +kernel
def dX9_other_20 := db_cX9_other_dX9_other_20_1.1
def dX9_other_23 := db_cX9_other_dX9_other_20_1.2.1
def dX9_other_24 := db_cX9_other_dX9_other_20_1.2.2.1
def dX9_other_27 := db_cX9_other_dX9_other_20_1.2.2.2.1
def dX9_other_28 := db_cX9_other_dX9_other_20_1.2.2.2.2.1
def dX9_other_29 := db_cX9_other_dX9_other_20_1.2.2.2.2.2.1
def dX9_other_30 := db_cX9_other_dX9_other_20_1.2.2.2.2.2.2.1
def dX9_other_33 := db_cX9_other_dX9_other_20_1.2.2.2.2.2.2.2.1
def dX9_other_34 := db_cX9_other_dX9_other_20_1.2.2.2.2.2.2.2.2.1
def dX9_other_35 := db_cX9_other_dX9_other_20_1.2.2.2.2.2.2.2.2.2.1
def dX9_other_38 := db_cX9_other_dX9_other_20_1.2.2.2.2.2.2.2.2.2.2.1
def dX9_other_41 := db_cX9_other_dX9_other_20_1.2.2.2.2.2.2.2.2.2.2.2
theorem dX9_other_44 : decode cX9_other 44 = .ok (.ireturn, 1) := by decide +kernel
set_option maxRecDepth 100000 in
theorem db_cX9_grow_dX9_grow_0_0 : (decode cX9_grow 0 = .ok (.aload_n 0, 1)) ∧ (decode cX9_grow 1 = .ok (.iload_n 1, 1)) ∧ (decode cX9_grow 2 = .ok (.invokevirtual 69, 3)) ∧ (decode cX9_grow 5 = .ok (.astore_n 2, 1)) ∧ (decode cX9_grow 6 = .ok (.aload_n 2, 1)) ∧ (decode cX9_grow 7 = .ok (.getfield 151, 3)) ∧ (decode cX9_grow 10 = .ok (.bipush 7, 2)) ∧ (decode cX9_grow 12 = .ok (.if_icmp .lt 8, 3)) ∧ (decode cX9_grow 15 = .ok (.aload_n 0, 1)) ∧ (decode cX9_grow 16 = .ok (.invokevirtual 145, 3)) ∧ (decode cX9_grow 19 = .ok (.ireturn, 1)) ∧ (decode cX9_grow 20 = .ok (.aload_n 2, 1)) := by decide +kernel
def dX9_grow_0 := db_cX9_grow_dX9_grow_0_0.1
def dX9_grow_1 := db_cX9_grow_dX9_grow_0_0.2.1
def dX9_grow_2 := db_cX9_grow_dX9_grow_0_0.2.2.1
def dX9_grow_5 := db_cX9_grow_dX9_grow_0_0.2.2.2.1
def dX9_grow_6 := db_cX9_grow_dX9_grow_0_0.2.2.2.2.1
def dX9_grow_7 := db_cX9_grow_dX9_grow_0_0.2.2.2.2.2.1
def dX9_grow_10 := db_cX9_grow_dX9_grow_0_0.2.2.2.2.2.2.1
def dX9_grow_12 := db_cX9_grow_dX9_grow_0_0.2.2.2.2.2.2.2.1
def dX9_grow_15 := db_cX9_grow_dX9_grow_0_0.2.2.2.2.2.2.2.2.1
def dX9_grow_16 := db_cX9_grow_dX9_grow_0_0.2.2.2.2.2.2.2.2.2.1
def dX9_grow_19 := db_cX9_grow_dX9_grow_0_0.2.2.2.2.2.2.2.2.2.2.1
def dX9_grow_20 := db_cX9_grow_dX9_grow_0_0.2.2.2.2.2.2.2.2.2.2.2
set_option maxRecDepth 100000 in
theorem db_cX9_grow_dX9_grow_21_1 : (decode cX9_grow 21 = .ok (.invokevirtual 154, 3)) ∧ (decode cX9_grow 24 = .ok (.aload_n 0, 1)) ∧ (decode cX9_grow 25 = .ok (.aload_n 2, 1)) ∧ (decode cX9_grow 26 = .ok (.getfield 151, 3)) ∧ (decode cX9_grow 29 = .ok (.iconst 1, 1)) ∧ (decode cX9_grow 30 = .ok (.isub, 1)) ∧ (decode cX9_grow 31 = .ok (.invokevirtual 84, 3)) ∧ (decode cX9_grow 34 = .ok (.ireturn, 1)) := by decide +kernel
def dX9_grow_21 := db_cX9_grow_dX9_grow_21_1.1
def dX9_grow_24 := db_cX9_grow_dX9_grow_21_1.2.1
def dX9_grow_25 := db_cX9_grow_dX9_grow_21_1.2.2.1
def dX9_grow_26 := db_cX9_grow_dX9_grow_21_1.2.2.2.1
def dX9_grow_29 := db_cX9_grow_dX9_grow_21_1.2.2.2.2.1
def dX9_grow_30 := db_cX9_grow_dX9_grow_21_1.2.2.2.2.2.1
def dX9_grow_31 := db_cX9_grow_dX9_grow_21_1.2.2.2.2.2.2.1
def dX9_grow_34 := db_cX9_grow_dX9_grow_21_1.2.2.2.2.2.2.2
set_option maxRecDepth 100000 in
theorem db_cX9_drop_dX9_drop_0_0 : (decode cX9_drop 0 = .ok (.aload_n 0, 1)) ∧ (decode cX9_drop 1 = .ok (.iload_n 1, 1)) ∧ (decode cX9_drop 2 = .ok (.invokevirtual 69, 3)) ∧ (decode cX9_drop 5 = .ok (.astore_n 3, 1)) ∧ (decode cX9_drop 6 = .ok (.aload_n 3, 1)) ∧ (decode cX9_drop 7 = .ok (.iload_n 2, 1)) ∧ (decode cX9_drop 8 = .ok (.invokestatic 88, 3)) ∧ (decode cX9_drop 11 = .ok (.aload_n 3, 1)) ∧ (decode cX9_drop 12 = .ok (.getfield 151, 3)) ∧ (decode cX9_drop 15 = .ok (.iconst 1, 1)) ∧ (decode cX9_drop 16 = .ok (.if_icmp .ne 8, 3)) ∧ (decode cX9_drop 19 = .ok (.aload_n 0, 1)) := by decide +kernel
def dX9_drop_0 := db_cX9_drop_dX9_drop_0_0.1
def dX9_drop_1 := db_cX9_drop_dX9_drop_0_0.2.1
def dX9_drop_2 := db_cX9_drop_dX9_drop_0_0.2.2.1
def dX9_drop_5 := db_cX9_drop_dX9_drop_0_0.2.2.2.1
def dX9_drop_6 := db_cX9_drop_dX9_drop_0_0.2.2.2.2.1
def dX9_drop_7 := db_cX9_drop_dX9_drop_0_0.2.2.2.2.2.1
def dX9_drop_8 := db_cX9_drop_dX9_drop_0_0.2.2.2.2.2.2.1
def dX9_drop_11 := db_cX9_drop_dX9_drop_0_0.2.2.2.2.2.2.2.1
def dX9_drop_12 := db_cX9_drop_dX9_drop_0_0.2.2.2.2.2.2.2.2.1
def dX9_drop_15 := db_cX9_drop_dX9_drop_0_0.2.2.2.2.2.2.2.2.2.1
def dX9_drop_16 := db_cX9_drop_dX9_drop_0_0.2.2.2.2.2.2.2.2.2.2.1
def dX9_drop_19 := db_cX9_drop_dX9_drop_0_0.2.2.2.2.2.2.2.2.2.2.2
set_option maxRecDepth 100000 in
theorem db_cX9_drop_dX9_drop_20_1 : (decode cX9_drop 20 = .ok (.invokevirtual 145, 3)) ∧ (decode cX9_drop 23 = .ok (.ireturn, 1)) ∧ (decode cX9_drop 24 = .ok (.aload_n 3, 1)) ∧ (decode cX9_drop 25 = .ok (.invokevirtual 77, 3)) ∧ (decode cX9_drop 28 = .ok (.istore 4, 2)) ∧ (decode cX9_drop 30 = .ok (.aload_n 3, 1)) ∧ (decode cX9_drop 31 = .ok (.iload_n 2, 1)) ∧ (decode cX9_drop 32 = .ok (.invokevirtual 157, 3)) ∧ (decode cX9_drop 35 = .ok (.aload_n 0, 1)) ∧ (decode cX9_drop 36 = .ok (.iload 4, 2)) ∧ (decode cX9_drop 38 = .ok (.aload_n 3, 1)) ∧ (decode cX9_drop 39 = .ok (.invokevirtual 77, 3)) := by decide +kernel
def dX9_drop_20 := db_cX9_drop_dX9_drop_20_1.1
def dX9_drop_23 := db_cX9_drop_dX9_drop_20_1.2.1
def dX9_drop_24 := db_cX9_drop_dX9_drop_20_1.2.2.1
def dX9_drop_25 := db_cX9_drop_dX9_drop_20_1.2.2.2.1
def dX9_drop_28 := db_cX9_drop_dX9_drop_20_1.2.2.2.2.1
def dX9_drop_30 := db_cX9_drop_dX9_drop_20_1.2.2.2.2.2.1
def dX9_drop_31 := db_cX9_drop_dX9_drop_20_1.2.2.2.2.2.2.1
def dX9_drop_32 := db_cX9_drop_dX9_drop_20_1.2.2.2.2.2.2.2.1
def dX9_drop_35 := db_cX9_drop_dX9_drop_20_1.2.2.2.2.2.2.2.2.1
def dX9_drop_36 := db_cX9_drop_dX9_drop_20_1.2.2.2.2.2.2.2.2.2.1
def dX9_drop_38 := db_cX9_drop_dX9_drop_20_1.2.2.2.2.2.2.2.2.2.2.1
def dX9_drop_39 := db_cX9_drop_dX9_drop_20_1.2.2.2.2.2.2.2.2.2.2.2
set_option maxRecDepth 100000 in
theorem db_cX9_drop_dX9_drop_42_2 : (decode cX9_drop 42 = .ok (.isub, 1)) ∧ (decode cX9_drop 43 = .ok (.invokevirtual 84, 3)) ∧ (decode cX9_drop 46 = .ok (.ireturn, 1)) := by decide +kernel
def dX9_drop_42 := db_cX9_drop_dX9_drop_42_2.1
def dX9_drop_43 := db_cX9_drop_dX9_drop_42_2.2.1
def dX9_drop_46 := db_cX9_drop_dX9_drop_42_2.2.2
set_option maxRecDepth 100000 in
theorem db_cX9_make_dX9_make_0_0 : (decode cX9_make 0 = .ok (.aload_n 0, 1)) ∧ (decode cX9_make 1 = .ok (.iload_n 1, 1)) ∧ (decode cX9_make 2 = .ok (.invokevirtual 69, 3)) ∧ (decode cX9_make 5 = .ok (.astore 4, 2)) ∧ (decode cX9_make 7 = .ok (.aload_n 0, 1)) ∧ (decode cX9_make 8 = .ok (.iload_n 3, 1)) ∧ (decode cX9_make 9 = .ok (.invokevirtual 69, 3)) ∧ (decode cX9_make 12 = .ok (.astore 5, 2)) ∧ (decode cX9_make 14 = .ok (.aload_n 0, 1)) ∧ (decode cX9_make 15 = .ok (.getfield 35, 3)) ∧ (decode cX9_make 18 = .ok (.iload_n 2, 1)) ∧ (decode cX9_make 19 = .ok (.ifCond .eq 7, 3)) := by decide +kernel
def dX9_make_0 := db_cX9_make_dX9_make_0_0.1
def dX9_make_1 := db_cX9_make_dX9_make_0_0.2.1
def dX9_make_2 := db_cX9_make_dX9_make_0_0.2.2.1
def dX9_make_5 := db_cX9_make_dX9_make_0_0.2.2.2.1
def dX9_make_7 := db_cX9_make_dX9_make_0_0.2.2.2.2.1
def dX9_make_8 := db_cX9_make_dX9_make_0_0.2.2.2.2.2.1
def dX9_make_9 := db_cX9_make_dX9_make_0_0.2.2.2.2.2.2.1
def dX9_make_12 := db_cX9_make_dX9_make_0_0.2.2.2.2.2.2.2.1
def dX9_make_14 := db_cX9_make_dX9_make_0_0.2.2.2.2.2.2.2.2.1
def dX9_make_15 := db_cX9_make_dX9_make_0_0.2.2.2.2.2.2.2.2.2.1
def dX9_make_18 := db_cX9_make_dX9_make_0_0.2.2.2.2.2.2.2.2.2.2.1
def dX9_make_19 := db_cX9_make_dX9_make_0_0.2.2.2.2.2.2.2.2.2.2.2
set_option maxRecDepth 100000 in
theorem db_cX9_make_dX9_make_22_1 : (decode cX9_make 22 = .ok (.iconst 0, 1)) ∧ (decode cX9_make 23 = .ok (.goto 4, 3)) ∧ (decode cX9_make 26 = .ok (.iconst 3, 1)) ∧ (decode cX9_make 27 = .ok (.aload 4, 2)) ∧ (decode cX9_make 29 = .ok (.aload_n 0, 1)) ∧ (decode cX9_make 30 = .ok (.getfield 66, 3)) ∧ (decode cX9_make 33 = .ok (.invokevirtual 160, 3)) ∧ (decode cX9_make 36 = .ok (.ifCond .ne 8, 3)) ∧ (decode cX9_make 39 = .ok (.aload_n 0, 1)) ∧ (decode cX9_make 40 = .ok (.invokevirtual 145, 3)) ∧ (decode cX9_make 43 = .ok (.ireturn, 1)) ∧ (decode cX9_make 44 = .ok (.aload_n 0, 1)) := by decide +kernel
def dX9_make_22 := db_cX9_make_dX9_make_22_1.1
def dX9_make_23 := db_cX9_make_dX9_make_22_1.2.1
def dX9_make_26 := db_cX9_make_dX9_make_22_1.2.2.1
def dX9_make_27 := db_cX9_make_dX9_make_22_1.2.2.2.1
def dX9_make_29 := db_cX9_make_dX9_make_22_1.2.2.2.2.1
def dX9_make_30 := db_cX9_make_dX9_make_22_1.2.2.2.2.2.1
def dX9_make_33 := db_cX9_make_dX9_make_22_1.2.2.2.2.2.2.1
def dX9_make_36 := db_cX9_make_dX9_make_22_1.2.2.2.2.2.2.2.1
def dX9_make_39 := db_cX9_make_dX9_make_22_1.2.2.2.2.2.2.2.2.1
def dX9_make_40 := db_cX9_make_dX9_make_22_1.2.2.2.2.2.2.2.2.2.1
def dX9_make_43 := db_cX9_make_dX9_make_22_1.2.2.2.2.2.2.2.2.2.2.1
def dX9_make_44 := db_cX9_make_dX9_make_22_1.2.2.2.2.2.2.2.2.2.2.2
set_option maxRecDepth 100000 in
theorem db_cX9_make_dX9_make_45_2 : (decode cX9_make 45 = .ok (.aload 5, 2)) ∧ (decode cX9_make 47 = .ok (.invokevirtual 164, 3)) ∧ (decode cX9_make 50 = .ok (.ireturn, 1)) := by decide +kernel
def dX9_make_45 := db_cX9_make_dX9_make_45_2.1
def dX9_make_47 := db_cX9_make_dX9_make_45_2.2.1
def dX9_make_50 := db_cX9_make_dX9_make_45_2.2.2
set_option maxRecDepth 100000 in
theorem db_cX9_combine_dX9_combine_0_0 : (decode cX9_combine 0 = .ok (.aload_n 0, 1)) ∧ (decode cX9_combine 1 = .ok (.iload_n 1, 1)) ∧ (decode cX9_combine 2 = .ok (.invokevirtual 69, 3)) ∧ (decode cX9_combine 5 = .ok (.astore 5, 2)) ∧ (decode cX9_combine 7 = .ok (.aload_n 0, 1)) ∧ (decode cX9_combine 8 = .ok (.iload_n 2, 1)) ∧ (decode cX9_combine 9 = .ok (.invokevirtual 69, 3)) ∧ (decode cX9_combine 12 = .ok (.astore 6, 2)) ∧ (decode cX9_combine 14 = .ok (.aload_n 0, 1)) ∧ (decode cX9_combine 15 = .ok (.iload 4, 2)) ∧ (decode cX9_combine 17 = .ok (.invokevirtual 69, 3)) ∧ (decode cX9_combine 20 = .ok (.astore 7, 2)) := by decide +kernel
def dX9_combine_0 := db_cX9_combine_dX9_combine_0_0.1
def dX9_combine_1 := db_cX9_combine_dX9_combine_0_0.2.1
def dX9_combine_2 := db_cX9_combine_dX9_combine_0_0.2.2.1
def dX9_combine_5 := db_cX9_combine_dX9_combine_0_0.2.2.2.1
def dX9_combine_7 := db_cX9_combine_dX9_combine_0_0.2.2.2.2.1
def dX9_combine_8 := db_cX9_combine_dX9_combine_0_0.2.2.2.2.2.1
def dX9_combine_9 := db_cX9_combine_dX9_combine_0_0.2.2.2.2.2.2.1
def dX9_combine_12 := db_cX9_combine_dX9_combine_0_0.2.2.2.2.2.2.2.1
def dX9_combine_14 := db_cX9_combine_dX9_combine_0_0.2.2.2.2.2.2.2.2.1
def dX9_combine_15 := db_cX9_combine_dX9_combine_0_0.2.2.2.2.2.2.2.2.2.1
def dX9_combine_17 := db_cX9_combine_dX9_combine_0_0.2.2.2.2.2.2.2.2.2.2.1
def dX9_combine_20 := db_cX9_combine_dX9_combine_0_0.2.2.2.2.2.2.2.2.2.2.2
set_option maxRecDepth 100000 in
theorem db_cX9_combine_dX9_combine_22_1 : (decode cX9_combine 22 = .ok (.iload_n 3, 1)) ∧ (decode cX9_combine 23 = .ok (.iconst 0, 1)) ∧ (decode cX9_combine 24 = .ok (.iconst 3, 1)) ∧ (decode cX9_combine 25 = .ok (.invokestatic 73, 3)) ∧ (decode cX9_combine 28 = .ok (.aload_n 0, 1)) ∧ (decode cX9_combine 29 = .ok (.aload 5, 2)) ∧ (decode cX9_combine 31 = .ok (.aload 6, 2)) ∧ (decode cX9_combine 33 = .ok (.iload_n 3, 1)) ∧ (decode cX9_combine 34 = .ok (.invokevirtual 168, 3)) ∧ (decode cX9_combine 37 = .ok (.ifCond .ne 8, 3)) ∧ (decode cX9_combine 40 = .ok (.aload_n 0, 1)) ∧ (decode cX9_combine 41 = .ok (.invokevirtual 145, 3)) := by decide +kernel
def dX9_combine_22 := db_cX9_combine_dX9_combine_22_1.1
def dX9_combine_23 := db_cX9_combine_dX9_combine_22_1.2.1
def dX9_combine_24 := db_cX9_combine_dX9_combine_22_1.2.2.1
def dX9_combine_25 := db_cX9_combine_dX9_combine_22_1.2.2.2.1
def dX9_combine_28 := db_cX9_combine_dX9_combine_22_1.2.2.2.2.1
def dX9_combine_29 := db_cX9_combine_dX9_combine_22_1.2.2.2.2.2.1
def dX9_combine_31 := db_cX9_combine_dX9_combine_22_1.2.2.2.2.2.2.1
def dX9_combine_33 := db_cX9_combine_dX9_combine_22_1.2.2.2.2.2.2.2.1
def dX9_combine_34 := db_cX9_combine_dX9_combine_22_1.2.2.2.2.2.2.2.2.1
def dX9_combine_37 := db_cX9_combine_dX9_combine_22_1.2.2.2.2.2.2.2.2.2.1
def dX9_combine_40 := db_cX9_combine_dX9_combine_22_1.2.2.2.2.2.2.2.2.2.2.1
def dX9_combine_41 := db_cX9_combine_dX9_combine_22_1.2.2.2.2.2.2.2.2.2.2.2
set_option maxRecDepth 100000 in
theorem db_cX9_combine_dX9_combine_44_2 : (decode cX9_combine 44 = .ok (.ireturn, 1)) ∧ (decode cX9_combine 45 = .ok (.aload_n 0, 1)) ∧ (decode cX9_combine 46 = .ok (.aload 7, 2)) ∧ (decode cX9_combine 48 = .ok (.invokevirtual 164, 3)) ∧ (decode cX9_combine 51 = .ok (.ireturn, 1)) := by decide +kernel
def dX9_combine_44 := db_cX9_combine_dX9_combine_44_2.1
def dX9_combine_45 := db_cX9_combine_dX9_combine_44_2.2.1
def dX9_combine_46 := db_cX9_combine_dX9_combine_44_2.2.2.1
def dX9_combine_48 := db_cX9_combine_dX9_combine_44_2.2.2.2.1
def dX9_combine_51 := db_cX9_combine_dX9_combine_44_2.2.2.2.2
set_option maxRecDepth 100000 in
theorem db_cX9_tell_dX9_tell_0_0 : (decode cX9_tell 0 = .ok (.aload_n 0, 1)) ∧ (decode cX9_tell 1 = .ok (.iload_n 1, 1)) ∧ (decode cX9_tell 2 = .ok (.invokevirtual 69, 3)) ∧ (decode cX9_tell 5 = .ok (.astore_n 3, 1)) ∧ (decode cX9_tell 6 = .ok (.iload_n 2, 1)) ∧ (decode cX9_tell 7 = .ok (.iconst 0, 1)) ∧ (decode cX9_tell 8 = .ok (.iconst 4, 1)) ∧ (decode cX9_tell 9 = .ok (.invokestatic 73, 3)) ∧ (decode cX9_tell 12 = .ok (.iload_n 2, 1)) ∧ (decode cX9_tell 13 = .ok (.tableswitch 51 0 3 #[31, 36, 41, 46], 31)) ∧ (decode cX9_tell 44 = .ok (.aload_n 3, 1)) ∧ (decode cX9_tell 45 = .ok (.getfield 151, 3)) := by decide +kernel
def dX9_tell_0 := db_cX9_tell_dX9_tell_0_0.1
def dX9_tell_1 := db_cX9_tell_dX9_tell_0_0.2.1
def dX9_tell_2 := db_cX9_tell_dX9_tell_0_0.2.2.1
def dX9_tell_5 := db_cX9_tell_dX9_tell_0_0.2.2.2.1
def dX9_tell_6 := db_cX9_tell_dX9_tell_0_0.2.2.2.2.1
def dX9_tell_7 := db_cX9_tell_dX9_tell_0_0.2.2.2.2.2.1
def dX9_tell_8 := db_cX9_tell_dX9_tell_0_0.2.2.2.2.2.2.1
def dX9_tell_9 := db_cX9_tell_dX9_tell_0_0.2.2.2.2.2.2.2.1
def dX9_tell_12 := db_cX9_tell_dX9_tell_0_0.2.2.2.2.2.2.2.2.1
def dX9_tell_13 := db_cX9_tell_dX9_tell_0_0.2.2.2.2.2.2.2.2.2.1
def dX9_tell_44 := db_cX9_tell_dX9_tell_0_0.2.2.2.2.2.2.2.2.2.2.1
def dX9_tell_45 := db_cX9_tell_dX9_tell_0_0.2.2.2.2.2.2.2.2.2.2.2
set_option maxRecDepth 100000 in
theorem db_cX9_tell_dX9_tell_48_1 : (decode cX9_tell 48 = .ok (.ireturn, 1)) ∧ (decode cX9_tell 49 = .ok (.aload_n 3, 1)) ∧ (decode cX9_tell 50 = .ok (.invokevirtual 77, 3)) ∧ (decode cX9_tell 53 = .ok (.ireturn, 1)) ∧ (decode cX9_tell 54 = .ok (.aload_n 3, 1)) ∧ (decode cX9_tell 55 = .ok (.getfield 115, 3)) ∧ (decode cX9_tell 58 = .ok (.ireturn, 1)) ∧ (decode cX9_tell 59 = .ok (.aload_n 3, 1)) ∧ (decode cX9_tell 60 = .ok (.getfield 111, 3)) ∧ (decode cX9_tell 63 = .ok (.ireturn, 1)) ∧ (decode cX9_tell 64 = .ok (.aload_n 3, 1)) ∧ (decode cX9_tell 65 = .ok (.invokevirtual 141, 3)) := by decide +kernel
def dX9_tell_48 := db_cX9_tell_dX9_tell_48_1.1
def dX9_tell_49 := db_cX9_tell_dX9_tell_48_1.2.1
def dX9_tell_50 := db_cX9_tell_dX9_tell_48_1.2.2.1
def dX9_tell_53 := db_cX9_tell_dX9_tell_48_1.2.2.2.1
def dX9_tell_54 := db_cX9_tell_dX9_tell_48_1.2.2.2.2.1
def dX9_tell_55 := db_cX9_tell_dX9_tell_48_1.2.2.2.2.2.1
def dX9_tell_58 := db_cX9_tell_dX9_tell_48_1.2.2.2.2.2.2.1
def dX9_tell_59 := db_cX9_tell_dX9_tell_48_1.2.2.2.2.2.2.2.1
def dX9_tell_60 := db_cX9_tell_dX9_tell_48_1.2.2.2.2.2.2.2.2.1
def dX9_tell_63 := db_cX9_tell_dX9_tell_48_1.2.2.2.2.2.2.2.2.2.1
def dX9_tell_64 := db_cX9_tell_dX9_tell_48_1.2.2.2.2.2.2.2.2.2.2.1
def dX9_tell_65 := db_cX9_tell_dX9_tell_48_1.2.2.2.2.2.2.2.2.2.2.2
set_option maxRecDepth 100000 in
theorem db_cX9_tell_dX9_tell_68_2 : (decode cX9_tell 68 = .ok (.ifCond .eq 7, 3)) ∧ (decode cX9_tell 71 = .ok (.iconst 1, 1)) ∧ (decode cX9_tell 72 = .ok (.goto 4, 3)) ∧ (decode cX9_tell 75 = .ok (.iconst 0, 1)) ∧ (decode cX9_tell 76 = .ok (.ireturn, 1)) := by decide +kernel
def dX9_tell_68 := db_cX9_tell_dX9_tell_68_2.1
def dX9_tell_71 := db_cX9_tell_dX9_tell_68_2.2.1
def dX9_tell_72 := db_cX9_tell_dX9_tell_68_2.2.2.1
def dX9_tell_75 := db_cX9_tell_dX9_tell_68_2.2.2.2.1
def dX9_tell_76 := db_cX9_tell_dX9_tell_68_2.2.2.2.2
set_option maxRecDepth 100000 in
theorem db_cX9_arrows_dX9_arrows_0_0 : (decode cX9_arrows 0 = .ok (.aload_n 0, 1)) ∧ (decode cX9_arrows 1 = .ok (.iload_n 1, 1)) ∧ (decode cX9_arrows 2 = .ok (.invokevirtual 69, 3)) ∧ (decode cX9_arrows 5 = .ok (.astore 4, 2)) ∧ (decode cX9_arrows 7 = .ok (.aload 4, 2)) ∧ (decode cX9_arrows 9 = .ok (.iload_n 2, 1)) ∧ (decode cX9_arrows 10 = .ok (.invokestatic 88, 3)) ∧ (decode cX9_arrows 13 = .ok (.iload_n 3, 1)) ∧ (decode cX9_arrows 14 = .ok (.invokestatic 92, 3)) ∧ (decode cX9_arrows 17 = .ok (.aload 4, 2)) ∧ (decode cX9_arrows 19 = .ok (.iload_n 2, 1)) ∧ (decode cX9_arrows 20 = .ok (.iload_n 3, 1)) := by decide +kernel
def dX9_arrows_0 := db_cX9_arrows_dX9_arrows_0_0.1
def dX9_arrows_1 := db_cX9_arrows_dX9_arrows_0_0.2.1
def dX9_arrows_2 := db_cX9_arrows_dX9_arrows_0_0.2.2.1
def dX9_arrows_5 := db_cX9_arrows_dX9_arrows_0_0.2.2.2.1
def dX9_arrows_7 := db_cX9_arrows_dX9_arrows_0_0.2.2.2.2.1
def dX9_arrows_9 := db_cX9_arrows_dX9_arrows_0_0.2.2.2.2.2.1
def dX9_arrows_10 := db_cX9_arrows_dX9_arrows_0_0.2.2.2.2.2.2.1
def dX9_arrows_13 := db_cX9_arrows_dX9_arrows_0_0.2.2.2.2.2.2.2.1
def dX9_arrows_14 := db_cX9_arrows_dX9_arrows_0_0.2.2.2.2.2.2.2.2.1
def dX9_arrows_17 := db_cX9_arrows_dX9_arrows_0_0.2.2.2.2.2.2.2.2.2.1
def dX9_arrows_19 := db_cX9_arrows_dX9_arrows_0_0.2.2.2.2.2.2.2.2.2.2.1
def dX9_arrows_20 := db_cX9_arrows_dX9_arrows_0_0.2.2.2.2.2.2.2.2.2.2.2
theorem dX9_arrows_21 : decode cX9_arrows 21 = .ok (.invokevirtual 95, 3) := by decide +kernel
theorem dX9_arrows_24 : decode cX9_arrows 24 = .ok (.ireturn, 1) := by decide +kernel
set_option maxRecDepth 100000 in
theorem db_cX9_checkWord_dX9_checkWord_0_0 : (decode cX9_checkWord 0 = .ok (.iload_n 0, 1)) ∧ (decode cX9_checkWord 1 = .ok (.iconst 0, 1)) ∧ (decode cX9_checkWord 2 = .ok (.bipush 12, 2)) ∧ (decode cX9_checkWord 4 = .ok (.invokestatic 73, 3)) ∧ (decode cX9_checkWord 7 = .ok (.iload_n 1, 1)) ∧ (decode cX9_checkWord 8 = .ok (.iconst 0, 1)) ∧ (decode cX9_checkWord 9 = .ok (.iload_n 0, 1)) ∧ (decode cX9_checkWord 10 = .ok (.invokestatic 279, 3)) ∧ (decode cX9_checkWord 13 = .ok (.iconst 1, 1)) ∧ (decode cX9_checkWord 14 = .ok (.isub, 1)) ∧ (decode cX9_checkWord 15 = .ok (.invokestatic 73, 3)) ∧ (decode cX9_checkWord 18 = .ok (.return_, 1)) := by decide +kernel
def dX9_checkWord_0 := db_cX9_checkWord_dX9_checkWord_0_0.1
def dX9_checkWord_1 := db_cX9_checkWord_dX9_checkWord_0_0.2.1
def dX9_checkWord_2 := db_cX9_checkWord_dX9_checkWord_0_0.2.2.1
def dX9_checkWord_4 := db_cX9_checkWord_dX9_checkWord_0_0.2.2.2.1
def dX9_checkWord_7 := db_cX9_checkWord_dX9_checkWord_0_0.2.2.2.2.1
def dX9_checkWord_8 := db_cX9_checkWord_dX9_checkWord_0_0.2.2.2.2.2.1
def dX9_checkWord_9 := db_cX9_checkWord_dX9_checkWord_0_0.2.2.2.2.2.2.1
def dX9_checkWord_10 := db_cX9_checkWord_dX9_checkWord_0_0.2.2.2.2.2.2.2.1
def dX9_checkWord_13 := db_cX9_checkWord_dX9_checkWord_0_0.2.2.2.2.2.2.2.2.1
def dX9_checkWord_14 := db_cX9_checkWord_dX9_checkWord_0_0.2.2.2.2.2.2.2.2.2.1
def dX9_checkWord_15 := db_cX9_checkWord_dX9_checkWord_0_0.2.2.2.2.2.2.2.2.2.2.1
def dX9_checkWord_18 := db_cX9_checkWord_dX9_checkWord_0_0.2.2.2.2.2.2.2.2.2.2.2
set_option maxRecDepth 100000 in
theorem db_cX9_takes_dX9_takes_0_0 : (decode cX9_takes 0 = .ok (.aload_n 0, 1)) ∧ (decode cX9_takes 1 = .ok (.iload_n 1, 1)) ∧ (decode cX9_takes 2 = .ok (.invokevirtual 69, 3)) ∧ (decode cX9_takes 5 = .ok (.astore 4, 2)) ∧ (decode cX9_takes 7 = .ok (.iload_n 2, 1)) ∧ (decode cX9_takes 8 = .ok (.iload_n 3, 1)) ∧ (decode cX9_takes 9 = .ok (.invokestatic 172, 3)) ∧ (decode cX9_takes 12 = .ok (.aload 4, 2)) ∧ (decode cX9_takes 14 = .ok (.iload_n 2, 1)) ∧ (decode cX9_takes 15 = .ok (.iload_n 3, 1)) ∧ (decode cX9_takes 16 = .ok (.invokevirtual 176, 3)) ∧ (decode cX9_takes 19 = .ok (.ireturn, 1)) := by decide +kernel
def dX9_takes_0 := db_cX9_takes_dX9_takes_0_0.1
def dX9_takes_1 := db_cX9_takes_dX9_takes_0_0.2.1
def dX9_takes_2 := db_cX9_takes_dX9_takes_0_0.2.2.1
def dX9_takes_5 := db_cX9_takes_dX9_takes_0_0.2.2.2.1
def dX9_takes_7 := db_cX9_takes_dX9_takes_0_0.2.2.2.2.1
def dX9_takes_8 := db_cX9_takes_dX9_takes_0_0.2.2.2.2.2.1
def dX9_takes_9 := db_cX9_takes_dX9_takes_0_0.2.2.2.2.2.2.1
def dX9_takes_12 := db_cX9_takes_dX9_takes_0_0.2.2.2.2.2.2.2.1
def dX9_takes_14 := db_cX9_takes_dX9_takes_0_0.2.2.2.2.2.2.2.2.1
def dX9_takes_15 := db_cX9_takes_dX9_takes_0_0.2.2.2.2.2.2.2.2.2.1
def dX9_takes_16 := db_cX9_takes_dX9_takes_0_0.2.2.2.2.2.2.2.2.2.2.1
def dX9_takes_19 := db_cX9_takes_dX9_takes_0_0.2.2.2.2.2.2.2.2.2.2.2
set_option maxRecDepth 100000 in
theorem db_cX9_makeOrThrow_dX9_makeOrThrow_0_0 : (decode cX9_makeOrThrow 0 = .ok (.aload_n 0, 1)) ∧ (decode cX9_makeOrThrow 1 = .ok (.getfield 35, 3)) ∧ (decode cX9_makeOrThrow 4 = .ok (.iload_n 1, 1)) ∧ (decode cX9_makeOrThrow 5 = .ok (.aload_n 2, 1)) ∧ (decode cX9_makeOrThrow 6 = .ok (.aload_n 3, 1)) ∧ (decode cX9_makeOrThrow 7 = .ok (.invokevirtual 160, 3)) ∧ (decode cX9_makeOrThrow 10 = .ok (.ifCond .ne 13, 3)) ∧ (decode cX9_makeOrThrow 13 = .ok (.new 241, 3)) ∧ (decode cX9_makeOrThrow 16 = .ok (.dup, 1)) ∧ (decode cX9_makeOrThrow 17 = .ok (.ldc 243, 2)) ∧ (decode cX9_makeOrThrow 19 = .ok (.invokespecial 245, 3)) ∧ (decode cX9_makeOrThrow 22 = .ok (.athrow, 1)) := by decide +kernel
def dX9_makeOrThrow_0 := db_cX9_makeOrThrow_dX9_makeOrThrow_0_0.1
def dX9_makeOrThrow_1 := db_cX9_makeOrThrow_dX9_makeOrThrow_0_0.2.1
def dX9_makeOrThrow_4 := db_cX9_makeOrThrow_dX9_makeOrThrow_0_0.2.2.1
def dX9_makeOrThrow_5 := db_cX9_makeOrThrow_dX9_makeOrThrow_0_0.2.2.2.1
def dX9_makeOrThrow_6 := db_cX9_makeOrThrow_dX9_makeOrThrow_0_0.2.2.2.2.1
def dX9_makeOrThrow_7 := db_cX9_makeOrThrow_dX9_makeOrThrow_0_0.2.2.2.2.2.1
def dX9_makeOrThrow_10 := db_cX9_makeOrThrow_dX9_makeOrThrow_0_0.2.2.2.2.2.2.1
def dX9_makeOrThrow_13 := db_cX9_makeOrThrow_dX9_makeOrThrow_0_0.2.2.2.2.2.2.2.1
def dX9_makeOrThrow_16 := db_cX9_makeOrThrow_dX9_makeOrThrow_0_0.2.2.2.2.2.2.2.2.1
def dX9_makeOrThrow_17 := db_cX9_makeOrThrow_dX9_makeOrThrow_0_0.2.2.2.2.2.2.2.2.2.1
def dX9_makeOrThrow_19 := db_cX9_makeOrThrow_dX9_makeOrThrow_0_0.2.2.2.2.2.2.2.2.2.2.1
def dX9_makeOrThrow_22 := db_cX9_makeOrThrow_dX9_makeOrThrow_0_0.2.2.2.2.2.2.2.2.2.2.2
theorem dX9_makeOrThrow_23 : decode cX9_makeOrThrow 23 = .ok (.return_, 1) := by decide +kernel
set_option maxRecDepth 100000 in
theorem db_cX9_after_dX9_after_0_0 : (decode cX9_after 0 = .ok (.aload_n 0, 1)) ∧ (decode cX9_after 1 = .ok (.iload_n 1, 1)) ∧ (decode cX9_after 2 = .ok (.invokevirtual 69, 3)) ∧ (decode cX9_after 5 = .ok (.astore 5, 2)) ∧ (decode cX9_after 7 = .ok (.iload_n 2, 1)) ∧ (decode cX9_after 8 = .ok (.iload_n 3, 1)) ∧ (decode cX9_after 9 = .ok (.invokestatic 172, 3)) ∧ (decode cX9_after 12 = .ok (.iload 4, 2)) ∧ (decode cX9_after 14 = .ok (.iconst 0, 1)) ∧ (decode cX9_after 15 = .ok (.iconst 2, 1)) ∧ (decode cX9_after 16 = .ok (.invokestatic 73, 3)) ∧ (decode cX9_after 19 = .ok (.iload 4, 2)) := by decide +kernel
def dX9_after_0 := db_cX9_after_dX9_after_0_0.1
def dX9_after_1 := db_cX9_after_dX9_after_0_0.2.1
def dX9_after_2 := db_cX9_after_dX9_after_0_0.2.2.1
def dX9_after_5 := db_cX9_after_dX9_after_0_0.2.2.2.1
def dX9_after_7 := db_cX9_after_dX9_after_0_0.2.2.2.2.1
def dX9_after_8 := db_cX9_after_dX9_after_0_0.2.2.2.2.2.1
def dX9_after_9 := db_cX9_after_dX9_after_0_0.2.2.2.2.2.2.1
def dX9_after_12 := db_cX9_after_dX9_after_0_0.2.2.2.2.2.2.2.1
def dX9_after_14 := db_cX9_after_dX9_after_0_0.2.2.2.2.2.2.2.2.1
def dX9_after_15 := db_cX9_after_dX9_after_0_0.2.2.2.2.2.2.2.2.2.1
def dX9_after_16 := db_cX9_after_dX9_after_0_0.2.2.2.2.2.2.2.2.2.2.1
def dX9_after_19 := db_cX9_after_dX9_after_0_0.2.2.2.2.2.2.2.2.2.2.2
set_option maxRecDepth 100000 in
theorem db_cX9_after_dX9_after_21_1 : (decode cX9_after 21 = .ok (.ifCond .ne 11, 3)) ∧ (decode cX9_after 24 = .ok (.aload 5, 2)) ∧ (decode cX9_after 26 = .ok (.iload_n 2, 1)) ∧ (decode cX9_after 27 = .ok (.iload_n 3, 1)) ∧ (decode cX9_after 28 = .ok (.invokevirtual 180, 3)) ∧ (decode cX9_after 31 = .ok (.ireturn, 1)) ∧ (decode cX9_after 32 = .ok (.aload_n 0, 1)) ∧ (decode cX9_after 33 = .ok (.iload 4, 2)) ∧ (decode cX9_after 35 = .ok (.iconst 1, 1)) ∧ (decode cX9_after 36 = .ok (.if_icmp .ne 7, 3)) ∧ (decode cX9_after 39 = .ok (.iconst 3, 1)) ∧ (decode cX9_after 40 = .ok (.goto 4, 3)) := by decide +kernel
def dX9_after_21 := db_cX9_after_dX9_after_21_1.1
def dX9_after_24 := db_cX9_after_dX9_after_21_1.2.1
def dX9_after_26 := db_cX9_after_dX9_after_21_1.2.2.1
def dX9_after_27 := db_cX9_after_dX9_after_21_1.2.2.2.1
def dX9_after_28 := db_cX9_after_dX9_after_21_1.2.2.2.2.1
def dX9_after_31 := db_cX9_after_dX9_after_21_1.2.2.2.2.2.1
def dX9_after_32 := db_cX9_after_dX9_after_21_1.2.2.2.2.2.2.1
def dX9_after_33 := db_cX9_after_dX9_after_21_1.2.2.2.2.2.2.2.1
def dX9_after_35 := db_cX9_after_dX9_after_21_1.2.2.2.2.2.2.2.2.1
def dX9_after_36 := db_cX9_after_dX9_after_21_1.2.2.2.2.2.2.2.2.2.1
def dX9_after_39 := db_cX9_after_dX9_after_21_1.2.2.2.2.2.2.2.2.2.2.1
def dX9_after_40 := db_cX9_after_dX9_after_21_1.2.2.2.2.2.2.2.2.2.2.2
set_option maxRecDepth 100000 in
theorem db_cX9_after_dX9_after_43_2 : (decode cX9_after 43 = .ok (.iconst 0, 1)) ∧ (decode cX9_after 44 = .ok (.aload 5, 2)) ∧ (decode cX9_after 46 = .ok (.aload_n 0, 1)) ∧ (decode cX9_after 47 = .ok (.getfield 66, 3)) ∧ (decode cX9_after 50 = .ok (.invokevirtual 183, 3)) ∧ (decode cX9_after 53 = .ok (.aload_n 0, 1)) ∧ (decode cX9_after 54 = .ok (.getfield 66, 3)) ∧ (decode cX9_after 57 = .ok (.iload_n 2, 1)) ∧ (decode cX9_after 58 = .ok (.iload_n 3, 1)) ∧ (decode cX9_after 59 = .ok (.invokevirtual 187, 3)) ∧ (decode cX9_after 62 = .ok (.ireturn, 1)) := by decide +kernel
def dX9_after_43 := db_cX9_after_dX9_after_43_2.1
def dX9_after_44 := db_cX9_after_dX9_after_43_2.2.1
def dX9_after_46 := db_cX9_after_dX9_after_43_2.2.2.1
def dX9_after_47 := db_cX9_after_dX9_after_43_2.2.2.2.1
def dX9_after_50 := db_cX9_after_dX9_after_43_2.2.2.2.2.1
def dX9_after_53 := db_cX9_after_dX9_after_43_2.2.2.2.2.2.1
def dX9_after_54 := db_cX9_after_dX9_after_43_2.2.2.2.2.2.2.1
def dX9_after_57 := db_cX9_after_dX9_after_43_2.2.2.2.2.2.2.2.1
def dX9_after_58 := db_cX9_after_dX9_after_43_2.2.2.2.2.2.2.2.2.1
def dX9_after_59 := db_cX9_after_dX9_after_43_2.2.2.2.2.2.2.2.2.2.1
def dX9_after_62 := db_cX9_after_dX9_after_43_2.2.2.2.2.2.2.2.2.2.2
set_option maxRecDepth 100000 in
theorem db_cX9_size_dX9_size_0_0 : (decode cX9_size 0 = .ok (.aload_n 0, 1)) ∧ (decode cX9_size 1 = .ok (.iload_n 1, 1)) ∧ (decode cX9_size 2 = .ok (.invokevirtual 69, 3)) ∧ (decode cX9_size 5 = .ok (.astore_n 3, 1)) ∧ (decode cX9_size 6 = .ok (.iload_n 2, 1)) ∧ (decode cX9_size 7 = .ok (.iconst 0, 1)) ∧ (decode cX9_size 8 = .ok (.iconst 3, 1)) ∧ (decode cX9_size 9 = .ok (.invokestatic 73, 3)) ∧ (decode cX9_size 12 = .ok (.aload_n 0, 1)) ∧ (decode cX9_size 13 = .ok (.iload_n 2, 1)) ∧ (decode cX9_size 14 = .ok (.aload_n 3, 1)) ∧ (decode cX9_size 15 = .ok (.aload_n 0, 1)) := by decide +kernel
def dX9_size_0 := db_cX9_size_dX9_size_0_0.1
def dX9_size_1 := db_cX9_size_dX9_size_0_0.2.1
def dX9_size_2 := db_cX9_size_dX9_size_0_0.2.2.1
def dX9_size_5 := db_cX9_size_dX9_size_0_0.2.2.2.1
def dX9_size_6 := db_cX9_size_dX9_size_0_0.2.2.2.2.1
def dX9_size_7 := db_cX9_size_dX9_size_0_0.2.2.2.2.2.1
def dX9_size_8 := db_cX9_size_dX9_size_0_0.2.2.2.2.2.2.1
def dX9_size_9 := db_cX9_size_dX9_size_0_0.2.2.2.2.2.2.2.1
def dX9_size_12 := db_cX9_size_dX9_size_0_0.2.2.2.2.2.2.2.2.1
def dX9_size_13 := db_cX9_size_dX9_size_0_0.2.2.2.2.2.2.2.2.2.1
def dX9_size_14 := db_cX9_size_dX9_size_0_0.2.2.2.2.2.2.2.2.2.2.1
def dX9_size_15 := db_cX9_size_dX9_size_0_0.2.2.2.2.2.2.2.2.2.2.2
set_option maxRecDepth 100000 in
theorem db_cX9_size_dX9_size_16_1 : (decode cX9_size 16 = .ok (.getfield 66, 3)) ∧ (decode cX9_size 19 = .ok (.invokevirtual 183, 3)) ∧ (decode cX9_size 22 = .ok (.aload_n 0, 1)) ∧ (decode cX9_size 23 = .ok (.getfield 66, 3)) ∧ (decode cX9_size 26 = .ok (.getfield 190, 3)) ∧ (decode cX9_size 29 = .ok (.ireturn, 1)) := by decide +kernel
def dX9_size_16 := db_cX9_size_dX9_size_16_1.1
def dX9_size_19 := db_cX9_size_dX9_size_16_1.2.1
def dX9_size_22 := db_cX9_size_dX9_size_16_1.2.2.1
def dX9_size_23 := db_cX9_size_dX9_size_16_1.2.2.2.1
def dX9_size_26 := db_cX9_size_dX9_size_16_1.2.2.2.2.1
def dX9_size_29 := db_cX9_size_dX9_size_16_1.2.2.2.2.2
set_option maxRecDepth 100000 in
theorem db_cX9_kind_dX9_kind_0_0 : (decode cX9_kind 0 = .ok (.aload_n 0, 1)) ∧ (decode cX9_kind 1 = .ok (.iconst 0, 1)) ∧ (decode cX9_kind 2 = .ok (.aload_n 0, 1)) ∧ (decode cX9_kind 3 = .ok (.iload_n 1, 1)) ∧ (decode cX9_kind 4 = .ok (.invokevirtual 69, 3)) ∧ (decode cX9_kind 7 = .ok (.aload_n 0, 1)) ∧ (decode cX9_kind 8 = .ok (.getfield 66, 3)) ∧ (decode cX9_kind 11 = .ok (.invokevirtual 183, 3)) ∧ (decode cX9_kind 14 = .ok (.aload_n 0, 1)) ∧ (decode cX9_kind 15 = .ok (.getfield 66, 3)) ∧ (decode cX9_kind 18 = .ok (.getfield 190, 3)) ∧ (decode cX9_kind 21 = .ok (.iconst 1, 1)) := by decide +kernel
def dX9_kind_0 := db_cX9_kind_dX9_kind_0_0.1
def dX9_kind_1 := db_cX9_kind_dX9_kind_0_0.2.1
def dX9_kind_2 := db_cX9_kind_dX9_kind_0_0.2.2.1
def dX9_kind_3 := db_cX9_kind_dX9_kind_0_0.2.2.2.1
def dX9_kind_4 := db_cX9_kind_dX9_kind_0_0.2.2.2.2.1
def dX9_kind_7 := db_cX9_kind_dX9_kind_0_0.2.2.2.2.2.1
def dX9_kind_8 := db_cX9_kind_dX9_kind_0_0.2.2.2.2.2.2.1
def dX9_kind_11 := db_cX9_kind_dX9_kind_0_0.2.2.2.2.2.2.2.1
def dX9_kind_14 := db_cX9_kind_dX9_kind_0_0.2.2.2.2.2.2.2.2.1
def dX9_kind_15 := db_cX9_kind_dX9_kind_0_0.2.2.2.2.2.2.2.2.2.1
def dX9_kind_18 := db_cX9_kind_dX9_kind_0_0.2.2.2.2.2.2.2.2.2.2.1
def dX9_kind_21 := db_cX9_kind_dX9_kind_0_0.2.2.2.2.2.2.2.2.2.2.2
set_option maxRecDepth 100000 in
theorem db_cX9_kind_dX9_kind_22_1 : (decode cX9_kind 22 = .ok (.if_icmp .ne 20, 3)) ∧ (decode cX9_kind 25 = .ok (.aload_n 0, 1)) ∧ (decode cX9_kind 26 = .ok (.getfield 66, 3)) ∧ (decode cX9_kind 29 = .ok (.iconst 0, 1)) ∧ (decode cX9_kind 30 = .ok (.invokevirtual 195, 3)) ∧ (decode cX9_kind 33 = .ok (.ifCond .eq 7, 3)) ∧ (decode cX9_kind 36 = .ok (.iconst 1, 1)) ∧ (decode cX9_kind 37 = .ok (.goto 4, 3)) ∧ (decode cX9_kind 40 = .ok (.iconst 0, 1)) ∧ (decode cX9_kind 41 = .ok (.ireturn, 1)) ∧ (decode cX9_kind 42 = .ok (.aload_n 0, 1)) ∧ (decode cX9_kind 43 = .ok (.getfield 66, 3)) := by decide +kernel
def dX9_kind_22 := db_cX9_kind_dX9_kind_22_1.1
def dX9_kind_25 := db_cX9_kind_dX9_kind_22_1.2.1
def dX9_kind_26 := db_cX9_kind_dX9_kind_22_1.2.2.1
def dX9_kind_29 := db_cX9_kind_dX9_kind_22_1.2.2.2.1
def dX9_kind_30 := db_cX9_kind_dX9_kind_22_1.2.2.2.2.1
def dX9_kind_33 := db_cX9_kind_dX9_kind_22_1.2.2.2.2.2.1
def dX9_kind_36 := db_cX9_kind_dX9_kind_22_1.2.2.2.2.2.2.1
def dX9_kind_37 := db_cX9_kind_dX9_kind_22_1.2.2.2.2.2.2.2.1
def dX9_kind_40 := db_cX9_kind_dX9_kind_22_1.2.2.2.2.2.2.2.2.1
def dX9_kind_41 := db_cX9_kind_dX9_kind_22_1.2.2.2.2.2.2.2.2.2.1
def dX9_kind_42 := db_cX9_kind_dX9_kind_22_1.2.2.2.2.2.2.2.2.2.2.1
def dX9_kind_43 := db_cX9_kind_dX9_kind_22_1.2.2.2.2.2.2.2.2.2.2.2
set_option maxRecDepth 100000 in
theorem db_cX9_kind_dX9_kind_46_2 : (decode cX9_kind 46 = .ok (.invokevirtual 199, 3)) ∧ (decode cX9_kind 49 = .ok (.ifCond .eq 7, 3)) ∧ (decode cX9_kind 52 = .ok (.iconst 3, 1)) ∧ (decode cX9_kind 53 = .ok (.goto 4, 3)) ∧ (decode cX9_kind 56 = .ok (.iconst 2, 1)) ∧ (decode cX9_kind 57 = .ok (.ireturn, 1)) := by decide +kernel
def dX9_kind_46 := db_cX9_kind_dX9_kind_46_2.1
def dX9_kind_49 := db_cX9_kind_dX9_kind_46_2.2.1
def dX9_kind_52 := db_cX9_kind_dX9_kind_46_2.2.2.1
def dX9_kind_53 := db_cX9_kind_dX9_kind_46_2.2.2.2.1
def dX9_kind_56 := db_cX9_kind_dX9_kind_46_2.2.2.2.2.1
def dX9_kind_57 := db_cX9_kind_dX9_kind_46_2.2.2.2.2.2
set_option maxRecDepth 100000 in
theorem db_cX9_many_dX9_many_0_0 : (decode cX9_many 0 = .ok (.aload_n 0, 1)) ∧ (decode cX9_many 1 = .ok (.iload_n 1, 1)) ∧ (decode cX9_many 2 = .ok (.invokevirtual 69, 3)) ∧ (decode cX9_many 5 = .ok (.astore 4, 2)) ∧ (decode cX9_many 7 = .ok (.iload_n 3, 1)) ∧ (decode cX9_many 8 = .ok (.iconst 0, 1)) ∧ (decode cX9_many 9 = .ok (.iconst 1, 1)) ∧ (decode cX9_many 10 = .ok (.invokestatic 73, 3)) ∧ (decode cX9_many 13 = .ok (.iload_n 2, 1)) ∧ (decode cX9_many 14 = .ok (.iconst 0, 1)) ∧ (decode cX9_many 15 = .ok (.iload_n 3, 1)) ∧ (decode cX9_many 16 = .ok (.iconst 1, 1)) := by decide +kernel
def dX9_many_0 := db_cX9_many_dX9_many_0_0.1
def dX9_many_1 := db_cX9_many_dX9_many_0_0.2.1
def dX9_many_2 := db_cX9_many_dX9_many_0_0.2.2.1
def dX9_many_5 := db_cX9_many_dX9_many_0_0.2.2.2.1
def dX9_many_7 := db_cX9_many_dX9_many_0_0.2.2.2.2.1
def dX9_many_8 := db_cX9_many_dX9_many_0_0.2.2.2.2.2.1
def dX9_many_9 := db_cX9_many_dX9_many_0_0.2.2.2.2.2.2.1
def dX9_many_10 := db_cX9_many_dX9_many_0_0.2.2.2.2.2.2.2.1
def dX9_many_13 := db_cX9_many_dX9_many_0_0.2.2.2.2.2.2.2.2.1
def dX9_many_14 := db_cX9_many_dX9_many_0_0.2.2.2.2.2.2.2.2.2.1
def dX9_many_15 := db_cX9_many_dX9_many_0_0.2.2.2.2.2.2.2.2.2.2.1
def dX9_many_16 := db_cX9_many_dX9_many_0_0.2.2.2.2.2.2.2.2.2.2.2
set_option maxRecDepth 100000 in
theorem db_cX9_many_dX9_many_17_1 : (decode cX9_many 17 = .ok (.if_icmp .ne 7, 3)) ∧ (decode cX9_many 20 = .ok (.iconst 5, 1)) ∧ (decode cX9_many 21 = .ok (.goto 5, 3)) ∧ (decode cX9_many 24 = .ok (.bipush 12, 2)) ∧ (decode cX9_many 26 = .ok (.invokestatic 73, 3)) ∧ (decode cX9_many 29 = .ok (.iload_n 3, 1)) ∧ (decode cX9_many 30 = .ok (.iconst 1, 1)) ∧ (decode cX9_many 31 = .ok (.if_icmp .ne 10, 3)) ∧ (decode cX9_many 34 = .ok (.aload 4, 2)) ∧ (decode cX9_many 36 = .ok (.iload_n 2, 1)) ∧ (decode cX9_many 37 = .ok (.invokevirtual 202, 3)) ∧ (decode cX9_many 40 = .ok (.ireturn, 1)) := by decide +kernel
def dX9_many_17 := db_cX9_many_dX9_many_17_1.1
def dX9_many_20 := db_cX9_many_dX9_many_17_1.2.1
def dX9_many_21 := db_cX9_many_dX9_many_17_1.2.2.1
def dX9_many_24 := db_cX9_many_dX9_many_17_1.2.2.2.1
def dX9_many_26 := db_cX9_many_dX9_many_17_1.2.2.2.2.1
def dX9_many_29 := db_cX9_many_dX9_many_17_1.2.2.2.2.2.1
def dX9_many_30 := db_cX9_many_dX9_many_17_1.2.2.2.2.2.2.1
def dX9_many_31 := db_cX9_many_dX9_many_17_1.2.2.2.2.2.2.2.1
def dX9_many_34 := db_cX9_many_dX9_many_17_1.2.2.2.2.2.2.2.2.1
def dX9_many_36 := db_cX9_many_dX9_many_17_1.2.2.2.2.2.2.2.2.2.1
def dX9_many_37 := db_cX9_many_dX9_many_17_1.2.2.2.2.2.2.2.2.2.2.1
def dX9_many_40 := db_cX9_many_dX9_many_17_1.2.2.2.2.2.2.2.2.2.2.2
set_option maxRecDepth 100000 in
theorem db_cX9_many_dX9_many_41_2 : (decode cX9_many 41 = .ok (.aload_n 0, 1)) ∧ (decode cX9_many 42 = .ok (.iconst 0, 1)) ∧ (decode cX9_many 43 = .ok (.aload 4, 2)) ∧ (decode cX9_many 45 = .ok (.aload_n 0, 1)) ∧ (decode cX9_many 46 = .ok (.getfield 66, 3)) ∧ (decode cX9_many 49 = .ok (.invokevirtual 183, 3)) ∧ (decode cX9_many 52 = .ok (.aload_n 0, 1)) ∧ (decode cX9_many 53 = .ok (.getfield 49, 3)) ∧ (decode cX9_many 56 = .ok (.aload_n 0, 1)) ∧ (decode cX9_many 57 = .ok (.getfield 66, 3)) ∧ (decode cX9_many 60 = .ok (.invokevirtual 205, 3)) ∧ (decode cX9_many 63 = .ok (.aload_n 0, 1)) := by decide +kernel
def dX9_many_41 := db_cX9_many_dX9_many_41_2.1
def dX9_many_42 := db_cX9_many_dX9_many_41_2.2.1
def dX9_many_43 := db_cX9_many_dX9_many_41_2.2.2.1
def dX9_many_45 := db_cX9_many_dX9_many_41_2.2.2.2.1
def dX9_many_46 := db_cX9_many_dX9_many_41_2.2.2.2.2.1
def dX9_many_49 := db_cX9_many_dX9_many_41_2.2.2.2.2.2.1
def dX9_many_52 := db_cX9_many_dX9_many_41_2.2.2.2.2.2.2.1
def dX9_many_53 := db_cX9_many_dX9_many_41_2.2.2.2.2.2.2.2.1
def dX9_many_56 := db_cX9_many_dX9_many_41_2.2.2.2.2.2.2.2.2.1
def dX9_many_57 := db_cX9_many_dX9_many_41_2.2.2.2.2.2.2.2.2.2.1
def dX9_many_60 := db_cX9_many_dX9_many_41_2.2.2.2.2.2.2.2.2.2.2.1
def dX9_many_63 := db_cX9_many_dX9_many_41_2.2.2.2.2.2.2.2.2.2.2.2
set_option maxRecDepth 100000 in
theorem db_cX9_many_dX9_many_64_3 : (decode cX9_many 64 = .ok (.getfield 49, 3)) ∧ (decode cX9_many 67 = .ok (.iconst 0, 1)) ∧ (decode cX9_many 68 = .ok (.iload_n 2, 1)) ∧ (decode cX9_many 69 = .ok (.invokevirtual 209, 3)) ∧ (decode cX9_many 72 = .ok (.ireturn, 1)) := by decide +kernel
def dX9_many_64 := db_cX9_many_dX9_many_64_3.1
def dX9_many_67 := db_cX9_many_dX9_many_64_3.2.1
def dX9_many_68 := db_cX9_many_dX9_many_64_3.2.2.1
def dX9_many_69 := db_cX9_many_dX9_many_64_3.2.2.2.1
def dX9_many_72 := db_cX9_many_dX9_many_64_3.2.2.2.2
set_option maxRecDepth 100000 in
theorem db_cX9_meetOrThrow_dX9_meetOrThrow_0_0 : (decode cX9_meetOrThrow 0 = .ok (.aload_n 0, 1)) ∧ (decode cX9_meetOrThrow 1 = .ok (.aload_n 1, 1)) ∧ (decode cX9_meetOrThrow 2 = .ok (.aload_n 2, 1)) ∧ (decode cX9_meetOrThrow 3 = .ok (.sipush 200, 3)) ∧ (decode cX9_meetOrThrow 6 = .ok (.iconst 0, 1)) ∧ (decode cX9_meetOrThrow 7 = .ok (.invokevirtual 284, 3)) ∧ (decode cX9_meetOrThrow 10 = .ok (.ifCond .ne 13, 3)) ∧ (decode cX9_meetOrThrow 13 = .ok (.new 241, 3)) ∧ (decode cX9_meetOrThrow 16 = .ok (.dup, 1)) ∧ (decode cX9_meetOrThrow 17 = .ok (.ldc 243, 2)) ∧ (decode cX9_meetOrThrow 19 = .ok (.invokespecial 245, 3)) ∧ (decode cX9_meetOrThrow 22 = .ok (.athrow, 1)) := by decide +kernel
def dX9_meetOrThrow_0 := db_cX9_meetOrThrow_dX9_meetOrThrow_0_0.1
def dX9_meetOrThrow_1 := db_cX9_meetOrThrow_dX9_meetOrThrow_0_0.2.1
def dX9_meetOrThrow_2 := db_cX9_meetOrThrow_dX9_meetOrThrow_0_0.2.2.1
def dX9_meetOrThrow_3 := db_cX9_meetOrThrow_dX9_meetOrThrow_0_0.2.2.2.1
def dX9_meetOrThrow_6 := db_cX9_meetOrThrow_dX9_meetOrThrow_0_0.2.2.2.2.1
def dX9_meetOrThrow_7 := db_cX9_meetOrThrow_dX9_meetOrThrow_0_0.2.2.2.2.2.1
def dX9_meetOrThrow_10 := db_cX9_meetOrThrow_dX9_meetOrThrow_0_0.2.2.2.2.2.2.1
def dX9_meetOrThrow_13 := db_cX9_meetOrThrow_dX9_meetOrThrow_0_0.2.2.2.2.2.2.2.1
def dX9_meetOrThrow_16 := db_cX9_meetOrThrow_dX9_meetOrThrow_0_0.2.2.2.2.2.2.2.2.1
def dX9_meetOrThrow_17 := db_cX9_meetOrThrow_dX9_meetOrThrow_0_0.2.2.2.2.2.2.2.2.2.1
def dX9_meetOrThrow_19 := db_cX9_meetOrThrow_dX9_meetOrThrow_0_0.2.2.2.2.2.2.2.2.2.2.1
def dX9_meetOrThrow_22 := db_cX9_meetOrThrow_dX9_meetOrThrow_0_0.2.2.2.2.2.2.2.2.2.2.2
theorem dX9_meetOrThrow_23 : decode cX9_meetOrThrow 23 = .ok (.return_, 1) := by decide +kernel
set_option maxRecDepth 100000 in
theorem db_cX9_isAlike_dX9_isAlike_0_0 : (decode cX9_isAlike 0 = .ok (.aload_n 0, 1)) ∧ (decode cX9_isAlike 1 = .ok (.iload_n 1, 1)) ∧ (decode cX9_isAlike 2 = .ok (.invokevirtual 69, 3)) ∧ (decode cX9_isAlike 5 = .ok (.astore 4, 2)) ∧ (decode cX9_isAlike 7 = .ok (.aload_n 0, 1)) ∧ (decode cX9_isAlike 8 = .ok (.iload_n 2, 1)) ∧ (decode cX9_isAlike 9 = .ok (.invokevirtual 69, 3)) ∧ (decode cX9_isAlike 12 = .ok (.astore 5, 2)) ∧ (decode cX9_isAlike 14 = .ok (.iload_n 3, 1)) ∧ (decode cX9_isAlike 15 = .ok (.iconst 0, 1)) ∧ (decode cX9_isAlike 16 = .ok (.iconst 1, 1)) ∧ (decode cX9_isAlike 17 = .ok (.invokestatic 73, 3)) := by decide +kernel
def dX9_isAlike_0 := db_cX9_isAlike_dX9_isAlike_0_0.1
def dX9_isAlike_1 := db_cX9_isAlike_dX9_isAlike_0_0.2.1
def dX9_isAlike_2 := db_cX9_isAlike_dX9_isAlike_0_0.2.2.1
def dX9_isAlike_5 := db_cX9_isAlike_dX9_isAlike_0_0.2.2.2.1
def dX9_isAlike_7 := db_cX9_isAlike_dX9_isAlike_0_0.2.2.2.2.1
def dX9_isAlike_8 := db_cX9_isAlike_dX9_isAlike_0_0.2.2.2.2.2.1
def dX9_isAlike_9 := db_cX9_isAlike_dX9_isAlike_0_0.2.2.2.2.2.2.1
def dX9_isAlike_12 := db_cX9_isAlike_dX9_isAlike_0_0.2.2.2.2.2.2.2.1
def dX9_isAlike_14 := db_cX9_isAlike_dX9_isAlike_0_0.2.2.2.2.2.2.2.2.1
def dX9_isAlike_15 := db_cX9_isAlike_dX9_isAlike_0_0.2.2.2.2.2.2.2.2.2.1
def dX9_isAlike_16 := db_cX9_isAlike_dX9_isAlike_0_0.2.2.2.2.2.2.2.2.2.2.1
def dX9_isAlike_17 := db_cX9_isAlike_dX9_isAlike_0_0.2.2.2.2.2.2.2.2.2.2.2
set_option maxRecDepth 100000 in
theorem db_cX9_isAlike_dX9_isAlike_20_1 : (decode cX9_isAlike 20 = .ok (.iload_n 3, 1)) ∧ (decode cX9_isAlike 21 = .ok (.ifCond .ne 28, 3)) ∧ (decode cX9_isAlike 24 = .ok (.aload_n 0, 1)) ∧ (decode cX9_isAlike 25 = .ok (.aload 4, 2)) ∧ (decode cX9_isAlike 27 = .ok (.aload 5, 2)) ∧ (decode cX9_isAlike 29 = .ok (.invokevirtual 223, 3)) ∧ (decode cX9_isAlike 32 = .ok (.aload_n 0, 1)) ∧ (decode cX9_isAlike 33 = .ok (.getfield 42, 3)) ∧ (decode cX9_isAlike 36 = .ok (.getfield 227, 3)) ∧ (decode cX9_isAlike 39 = .ok (.iconst (-1), 1)) ∧ (decode cX9_isAlike 40 = .ok (.if_icmp .ne 7, 3)) ∧ (decode cX9_isAlike 43 = .ok (.iconst 1, 1)) := by decide +kernel
def dX9_isAlike_20 := db_cX9_isAlike_dX9_isAlike_20_1.1
def dX9_isAlike_21 := db_cX9_isAlike_dX9_isAlike_20_1.2.1
def dX9_isAlike_24 := db_cX9_isAlike_dX9_isAlike_20_1.2.2.1
def dX9_isAlike_25 := db_cX9_isAlike_dX9_isAlike_20_1.2.2.2.1
def dX9_isAlike_27 := db_cX9_isAlike_dX9_isAlike_20_1.2.2.2.2.1
def dX9_isAlike_29 := db_cX9_isAlike_dX9_isAlike_20_1.2.2.2.2.2.1
def dX9_isAlike_32 := db_cX9_isAlike_dX9_isAlike_20_1.2.2.2.2.2.2.1
def dX9_isAlike_33 := db_cX9_isAlike_dX9_isAlike_20_1.2.2.2.2.2.2.2.1
def dX9_isAlike_36 := db_cX9_isAlike_dX9_isAlike_20_1.2.2.2.2.2.2.2.2.1
def dX9_isAlike_39 := db_cX9_isAlike_dX9_isAlike_20_1.2.2.2.2.2.2.2.2.2.1
def dX9_isAlike_40 := db_cX9_isAlike_dX9_isAlike_20_1.2.2.2.2.2.2.2.2.2.2.1
def dX9_isAlike_43 := db_cX9_isAlike_dX9_isAlike_20_1.2.2.2.2.2.2.2.2.2.2.2
set_option maxRecDepth 100000 in
theorem db_cX9_isAlike_dX9_isAlike_44_2 : (decode cX9_isAlike 44 = .ok (.goto 4, 3)) ∧ (decode cX9_isAlike 47 = .ok (.iconst 0, 1)) ∧ (decode cX9_isAlike 48 = .ok (.ireturn, 1)) ∧ (decode cX9_isAlike 49 = .ok (.aload_n 0, 1)) ∧ (decode cX9_isAlike 50 = .ok (.iconst 0, 1)) ∧ (decode cX9_isAlike 51 = .ok (.aload 4, 2)) ∧ (decode cX9_isAlike 53 = .ok (.aload_n 0, 1)) ∧ (decode cX9_isAlike 54 = .ok (.getfield 56, 3)) ∧ (decode cX9_isAlike 57 = .ok (.invokevirtual 183, 3)) ∧ (decode cX9_isAlike 60 = .ok (.aload_n 0, 1)) ∧ (decode cX9_isAlike 61 = .ok (.iconst 0, 1)) ∧ (decode cX9_isAlike 62 = .ok (.aload 5, 2)) := by decide +kernel
def dX9_isAlike_44 := db_cX9_isAlike_dX9_isAlike_44_2.1
def dX9_isAlike_47 := db_cX9_isAlike_dX9_isAlike_44_2.2.1
def dX9_isAlike_48 := db_cX9_isAlike_dX9_isAlike_44_2.2.2.1
def dX9_isAlike_49 := db_cX9_isAlike_dX9_isAlike_44_2.2.2.2.1
def dX9_isAlike_50 := db_cX9_isAlike_dX9_isAlike_44_2.2.2.2.2.1
def dX9_isAlike_51 := db_cX9_isAlike_dX9_isAlike_44_2.2.2.2.2.2.1
def dX9_isAlike_53 := db_cX9_isAlike_dX9_isAlike_44_2.2.2.2.2.2.2.1
def dX9_isAlike_54 := db_cX9_isAlike_dX9_isAlike_44_2.2.2.2.2.2.2.2.1
def dX9_isAlike_57 := db_cX9_isAlike_dX9_isAlike_44_2.2.2.2.2.2.2.2.2.1
def dX9_isAlike_60 := db_cX9_isAlike_dX9_isAlike_44_2.2.2.2.2.2.2.2.2.2.1
def dX9_isAlike_61 := db_cX9_isAlike_dX9_isAlike_44_2.2.2.2.2.2.2.2.2.2.2.1
def dX9_isAlike_62 := db_cX9_isAlike_dX9_isAlike_44_2.2.2.2.2.2.2.2.2.2.2.2
set_option maxRecDepth 100000 in
theorem db_cX9_isAlike_dX9_isAlike_64_3 : (decode cX9_isAlike 64 = .ok (.aload_n 0, 1)) ∧ (decode cX9_isAlike 65 = .ok (.getfield 60, 3)) ∧ (decode cX9_isAlike 68 = .ok (.invokevirtual 183, 3)) ∧ (decode cX9_isAlike 71 = .ok (.aload_n 0, 1)) ∧ (decode cX9_isAlike 72 = .ok (.getfield 56, 3)) ∧ (decode cX9_isAlike 75 = .ok (.aload_n 0, 1)) ∧ (decode cX9_isAlike 76 = .ok (.getfield 60, 3)) ∧ (decode cX9_isAlike 79 = .ok (.invokevirtual 230, 3)) ∧ (decode cX9_isAlike 82 = .ok (.ireturn, 1)) := by decide +kernel
def dX9_isAlike_64 := db_cX9_isAlike_dX9_isAlike_64_3.1
def dX9_isAlike_65 := db_cX9_isAlike_dX9_isAlike_64_3.2.1
def dX9_isAlike_68 := db_cX9_isAlike_dX9_isAlike_64_3.2.2.1
def dX9_isAlike_71 := db_cX9_isAlike_dX9_isAlike_64_3.2.2.2.1
def dX9_isAlike_72 := db_cX9_isAlike_dX9_isAlike_64_3.2.2.2.2.1
def dX9_isAlike_75 := db_cX9_isAlike_dX9_isAlike_64_3.2.2.2.2.2.1
def dX9_isAlike_76 := db_cX9_isAlike_dX9_isAlike_64_3.2.2.2.2.2.2.1
def dX9_isAlike_79 := db_cX9_isAlike_dX9_isAlike_64_3.2.2.2.2.2.2.2.1
def dX9_isAlike_82 := db_cX9_isAlike_dX9_isAlike_64_3.2.2.2.2.2.2.2.2
set_option maxRecDepth 100000 in
theorem db_cX9_pairs_dX9_pairs_0_0 : (decode cX9_pairs 0 = .ok (.aload_n 0, 1)) ∧ (decode cX9_pairs 1 = .ok (.iload_n 1, 1)) ∧ (decode cX9_pairs 2 = .ok (.invokevirtual 69, 3)) ∧ (decode cX9_pairs 5 = .ok (.astore_n 3, 1)) ∧ (decode cX9_pairs 6 = .ok (.aload_n 0, 1)) ∧ (decode cX9_pairs 7 = .ok (.iload_n 2, 1)) ∧ (decode cX9_pairs 8 = .ok (.invokevirtual 69, 3)) ∧ (decode cX9_pairs 11 = .ok (.astore 4, 2)) ∧ (decode cX9_pairs 13 = .ok (.aload_n 0, 1)) ∧ (decode cX9_pairs 14 = .ok (.aload_n 3, 1)) ∧ (decode cX9_pairs 15 = .ok (.aload 4, 2)) ∧ (decode cX9_pairs 17 = .ok (.invokevirtual 223, 3)) := by decide +kernel
def dX9_pairs_0 := db_cX9_pairs_dX9_pairs_0_0.1
def dX9_pairs_1 := db_cX9_pairs_dX9_pairs_0_0.2.1
def dX9_pairs_2 := db_cX9_pairs_dX9_pairs_0_0.2.2.1
def dX9_pairs_5 := db_cX9_pairs_dX9_pairs_0_0.2.2.2.1
def dX9_pairs_6 := db_cX9_pairs_dX9_pairs_0_0.2.2.2.2.1
def dX9_pairs_7 := db_cX9_pairs_dX9_pairs_0_0.2.2.2.2.2.1
def dX9_pairs_8 := db_cX9_pairs_dX9_pairs_0_0.2.2.2.2.2.2.1
def dX9_pairs_11 := db_cX9_pairs_dX9_pairs_0_0.2.2.2.2.2.2.2.1
def dX9_pairs_13 := db_cX9_pairs_dX9_pairs_0_0.2.2.2.2.2.2.2.2.1
def dX9_pairs_14 := db_cX9_pairs_dX9_pairs_0_0.2.2.2.2.2.2.2.2.2.1
def dX9_pairs_15 := db_cX9_pairs_dX9_pairs_0_0.2.2.2.2.2.2.2.2.2.2.1
def dX9_pairs_17 := db_cX9_pairs_dX9_pairs_0_0.2.2.2.2.2.2.2.2.2.2.2
set_option maxRecDepth 100000 in
theorem db_cX9_pairs_dX9_pairs_20_1 : (decode cX9_pairs 20 = .ok (.aload_n 0, 1)) ∧ (decode cX9_pairs 21 = .ok (.getfield 42, 3)) ∧ (decode cX9_pairs 24 = .ok (.getfield 239, 3)) ∧ (decode cX9_pairs 27 = .ok (.ireturn, 1)) := by decide +kernel
def dX9_pairs_20 := db_cX9_pairs_dX9_pairs_20_1.1
def dX9_pairs_21 := db_cX9_pairs_dX9_pairs_20_1.2.1
def dX9_pairs_24 := db_cX9_pairs_dX9_pairs_20_1.2.2.1
def dX9_pairs_27 := db_cX9_pairs_dX9_pairs_20_1.2.2.2
set_option maxRecDepth 100000 in
theorem db_cX9_together_dX9_together_0_0 : (decode cX9_together 0 = .ok (.aload_n 0, 1)) ∧ (decode cX9_together 1 = .ok (.iload_n 1, 1)) ∧ (decode cX9_together 2 = .ok (.invokevirtual 69, 3)) ∧ (decode cX9_together 5 = .ok (.astore 5, 2)) ∧ (decode cX9_together 7 = .ok (.aload_n 0, 1)) ∧ (decode cX9_together 8 = .ok (.iload_n 2, 1)) ∧ (decode cX9_together 9 = .ok (.invokevirtual 69, 3)) ∧ (decode cX9_together 12 = .ok (.astore 6, 2)) ∧ (decode cX9_together 14 = .ok (.iload_n 3, 1)) ∧ (decode cX9_together 15 = .ok (.iconst 0, 1)) ∧ (decode cX9_together 16 = .ok (.iconst 3, 1)) ∧ (decode cX9_together 17 = .ok (.invokestatic 73, 3)) := by decide +kernel
def dX9_together_0 := db_cX9_together_dX9_together_0_0.1
def dX9_together_1 := db_cX9_together_dX9_together_0_0.2.1
def dX9_together_2 := db_cX9_together_dX9_together_0_0.2.2.1
def dX9_together_5 := db_cX9_together_dX9_together_0_0.2.2.2.1
def dX9_together_7 := db_cX9_together_dX9_together_0_0.2.2.2.2.1
def dX9_together_8 := db_cX9_together_dX9_together_0_0.2.2.2.2.2.1
def dX9_together_9 := db_cX9_together_dX9_together_0_0.2.2.2.2.2.2.1
def dX9_together_12 := db_cX9_together_dX9_together_0_0.2.2.2.2.2.2.2.1
def dX9_together_14 := db_cX9_together_dX9_together_0_0.2.2.2.2.2.2.2.2.1
def dX9_together_15 := db_cX9_together_dX9_together_0_0.2.2.2.2.2.2.2.2.2.1
def dX9_together_16 := db_cX9_together_dX9_together_0_0.2.2.2.2.2.2.2.2.2.2.1
def dX9_together_17 := db_cX9_together_dX9_together_0_0.2.2.2.2.2.2.2.2.2.2.2
set_option maxRecDepth 100000 in
theorem db_cX9_together_dX9_together_20_1 : (decode cX9_together 20 = .ok (.iload 4, 2)) ∧ (decode cX9_together 22 = .ok (.iconst (-1), 1)) ∧ (decode cX9_together 23 = .ok (.bipush 12, 2)) ∧ (decode cX9_together 25 = .ok (.invokestatic 73, 3)) ∧ (decode cX9_together 28 = .ok (.aload_n 0, 1)) ∧ (decode cX9_together 29 = .ok (.aload 5, 2)) ∧ (decode cX9_together 31 = .ok (.aload 6, 2)) ∧ (decode cX9_together 33 = .ok (.iload_n 3, 1)) ∧ (decode cX9_together 34 = .ok (.invokevirtual 168, 3)) ∧ (decode cX9_together 37 = .ok (.ifCond .ne 13, 3)) ∧ (decode cX9_together 40 = .ok (.new 241, 3)) ∧ (decode cX9_together 43 = .ok (.dup, 1)) := by decide +kernel
def dX9_together_20 := db_cX9_together_dX9_together_20_1.1
def dX9_together_22 := db_cX9_together_dX9_together_20_1.2.1
def dX9_together_23 := db_cX9_together_dX9_together_20_1.2.2.1
def dX9_together_25 := db_cX9_together_dX9_together_20_1.2.2.2.1
def dX9_together_28 := db_cX9_together_dX9_together_20_1.2.2.2.2.1
def dX9_together_29 := db_cX9_together_dX9_together_20_1.2.2.2.2.2.1
def dX9_together_31 := db_cX9_together_dX9_together_20_1.2.2.2.2.2.2.1
def dX9_together_33 := db_cX9_together_dX9_together_20_1.2.2.2.2.2.2.2.1
def dX9_together_34 := db_cX9_together_dX9_together_20_1.2.2.2.2.2.2.2.2.1
def dX9_together_37 := db_cX9_together_dX9_together_20_1.2.2.2.2.2.2.2.2.2.1
def dX9_together_40 := db_cX9_together_dX9_together_20_1.2.2.2.2.2.2.2.2.2.2.1
def dX9_together_43 := db_cX9_together_dX9_together_20_1.2.2.2.2.2.2.2.2.2.2.2
set_option maxRecDepth 100000 in
theorem db_cX9_together_dX9_together_44_2 : (decode cX9_together 44 = .ok (.ldc 243, 2)) ∧ (decode cX9_together 46 = .ok (.invokespecial 245, 3)) ∧ (decode cX9_together 49 = .ok (.athrow, 1)) ∧ (decode cX9_together 50 = .ok (.iload 4, 2)) ∧ (decode cX9_together 52 = .ok (.iconst (-1), 1)) ∧ (decode cX9_together 53 = .ok (.if_icmp .ne 11, 3)) ∧ (decode cX9_together 56 = .ok (.aload_n 0, 1)) ∧ (decode cX9_together 57 = .ok (.getfield 66, 3)) ∧ (decode cX9_together 60 = .ok (.getfield 190, 3)) ∧ (decode cX9_together 63 = .ok (.ireturn, 1)) ∧ (decode cX9_together 64 = .ok (.aload_n 0, 1)) ∧ (decode cX9_together 65 = .ok (.getfield 49, 3)) := by decide +kernel
def dX9_together_44 := db_cX9_together_dX9_together_44_2.1
def dX9_together_46 := db_cX9_together_dX9_together_44_2.2.1
def dX9_together_49 := db_cX9_together_dX9_together_44_2.2.2.1
def dX9_together_50 := db_cX9_together_dX9_together_44_2.2.2.2.1
def dX9_together_52 := db_cX9_together_dX9_together_44_2.2.2.2.2.1
def dX9_together_53 := db_cX9_together_dX9_together_44_2.2.2.2.2.2.1
def dX9_together_56 := db_cX9_together_dX9_together_44_2.2.2.2.2.2.2.1
def dX9_together_57 := db_cX9_together_dX9_together_44_2.2.2.2.2.2.2.2.1
def dX9_together_60 := db_cX9_together_dX9_together_44_2.2.2.2.2.2.2.2.2.1
def dX9_together_63 := db_cX9_together_dX9_together_44_2.2.2.2.2.2.2.2.2.2.1
def dX9_together_64 := db_cX9_together_dX9_together_44_2.2.2.2.2.2.2.2.2.2.2.1
def dX9_together_65 := db_cX9_together_dX9_together_44_2.2.2.2.2.2.2.2.2.2.2.2
set_option maxRecDepth 100000 in
theorem db_cX9_together_dX9_together_68_3 : (decode cX9_together 68 = .ok (.aload_n 0, 1)) ∧ (decode cX9_together 69 = .ok (.getfield 66, 3)) ∧ (decode cX9_together 72 = .ok (.invokevirtual 205, 3)) ∧ (decode cX9_together 75 = .ok (.aload_n 0, 1)) ∧ (decode cX9_together 76 = .ok (.getfield 49, 3)) ∧ (decode cX9_together 79 = .ok (.iconst 0, 1)) ∧ (decode cX9_together 80 = .ok (.iload 4, 2)) ∧ (decode cX9_together 82 = .ok (.invokevirtual 209, 3)) ∧ (decode cX9_together 85 = .ok (.ireturn, 1)) := by decide +kernel
def dX9_together_68 := db_cX9_together_dX9_together_68_3.1
def dX9_together_69 := db_cX9_together_dX9_together_68_3.2.1
def dX9_together_72 := db_cX9_together_dX9_together_68_3.2.2.1
def dX9_together_75 := db_cX9_together_dX9_together_68_3.2.2.2.1
def dX9_together_76 := db_cX9_together_dX9_together_68_3.2.2.2.2.1
def dX9_together_79 := db_cX9_together_dX9_together_68_3.2.2.2.2.2.1
def dX9_together_80 := db_cX9_together_dX9_together_68_3.2.2.2.2.2.2.1
def dX9_together_82 := db_cX9_together_dX9_together_68_3.2.2.2.2.2.2.2.1
def dX9_together_85 := db_cX9_together_dX9_together_68_3.2.2.2.2.2.2.2.2
set_option maxRecDepth 100000 in
theorem db_cX9_house_dX9_house_0_0 : (decode cX9_house 0 = .ok (.iload_n 1, 1)) ∧ (decode cX9_house 1 = .ok (.iconst 0, 1)) ∧ (decode cX9_house 2 = .ok (.iconst 2, 1)) ∧ (decode cX9_house 3 = .ok (.invokestatic 73, 3)) ∧ (decode cX9_house 6 = .ok (.iload_n 1, 1)) ∧ (decode cX9_house 7 = .ok (.lookupswitch 35 #[(0, 25), (1, 30)], 25)) ∧ (decode cX9_house 32 = .ok (.aload_n 0, 1)) ∧ (decode cX9_house 33 = .ok (.getfield 246, 3)) ∧ (decode cX9_house 36 = .ok (.ireturn, 1)) ∧ (decode cX9_house 37 = .ok (.aload_n 0, 1)) ∧ (decode cX9_house 38 = .ok (.getfield 249, 3)) ∧ (decode cX9_house 41 = .ok (.ireturn, 1)) := by decide +kernel
def dX9_house_0 := db_cX9_house_dX9_house_0_0.1
def dX9_house_1 := db_cX9_house_dX9_house_0_0.2.1
def dX9_house_2 := db_cX9_house_dX9_house_0_0.2.2.1
def dX9_house_3 := db_cX9_house_dX9_house_0_0.2.2.2.1
def dX9_house_6 := db_cX9_house_dX9_house_0_0.2.2.2.2.1
def dX9_house_7 := db_cX9_house_dX9_house_0_0.2.2.2.2.2.1
def dX9_house_32 := db_cX9_house_dX9_house_0_0.2.2.2.2.2.2.1
def dX9_house_33 := db_cX9_house_dX9_house_0_0.2.2.2.2.2.2.2.1
def dX9_house_36 := db_cX9_house_dX9_house_0_0.2.2.2.2.2.2.2.2.1
def dX9_house_37 := db_cX9_house_dX9_house_0_0.2.2.2.2.2.2.2.2.2.1
def dX9_house_38 := db_cX9_house_dX9_house_0_0.2.2.2.2.2.2.2.2.2.2.1
def dX9_house_41 := db_cX9_house_dX9_house_0_0.2.2.2.2.2.2.2.2.2.2.2
set_option maxRecDepth 100000 in
theorem db_cX9_house_dX9_house_42_1 : (decode cX9_house 42 = .ok (.aload_n 0, 1)) ∧ (decode cX9_house 43 = .ok (.getfield 252, 3)) ∧ (decode cX9_house 46 = .ok (.ireturn, 1)) := by decide +kernel
def dX9_house_42 := db_cX9_house_dX9_house_42_1.1
def dX9_house_43 := db_cX9_house_dX9_house_42_1.2.1
def dX9_house_46 := db_cX9_house_dX9_house_42_1.2.2
set_option maxRecDepth 100000 in
theorem db_cX9_isSound_dX9_isSound_0_0 : (decode cX9_isSound 0 = .ok (.aload_n 0, 1)) ∧ (decode cX9_isSound 1 = .ok (.iconst 0, 1)) ∧ (decode cX9_isSound 2 = .ok (.invokevirtual 69, 3)) ∧ (decode cX9_isSound 5 = .ok (.astore_n 1, 1)) ∧ (decode cX9_isSound 6 = .ok (.aload_n 0, 1)) ∧ (decode cX9_isSound 7 = .ok (.getfield 35, 3)) ∧ (decode cX9_isSound 10 = .ok (.iconst 0, 1)) ∧ (decode cX9_isSound 11 = .ok (.aload_n 1, 1)) ∧ (decode cX9_isSound 12 = .ok (.aload_n 0, 1)) ∧ (decode cX9_isSound 13 = .ok (.getfield 66, 3)) ∧ (decode cX9_isSound 16 = .ok (.invokevirtual 160, 3)) ∧ (decode cX9_isSound 19 = .ok (.ifCond .ne 5, 3)) := by decide +kernel
def dX9_isSound_0 := db_cX9_isSound_dX9_isSound_0_0.1
def dX9_isSound_1 := db_cX9_isSound_dX9_isSound_0_0.2.1
def dX9_isSound_2 := db_cX9_isSound_dX9_isSound_0_0.2.2.1
def dX9_isSound_5 := db_cX9_isSound_dX9_isSound_0_0.2.2.2.1
def dX9_isSound_6 := db_cX9_isSound_dX9_isSound_0_0.2.2.2.2.1
def dX9_isSound_7 := db_cX9_isSound_dX9_isSound_0_0.2.2.2.2.2.1
def dX9_isSound_10 := db_cX9_isSound_dX9_isSound_0_0.2.2.2.2.2.2.1
def dX9_isSound_11 := db_cX9_isSound_dX9_isSound_0_0.2.2.2.2.2.2.2.1
def dX9_isSound_12 := db_cX9_isSound_dX9_isSound_0_0.2.2.2.2.2.2.2.2.1
def dX9_isSound_13 := db_cX9_isSound_dX9_isSound_0_0.2.2.2.2.2.2.2.2.2.1
def dX9_isSound_16 := db_cX9_isSound_dX9_isSound_0_0.2.2.2.2.2.2.2.2.2.2.1
def dX9_isSound_19 := db_cX9_isSound_dX9_isSound_0_0.2.2.2.2.2.2.2.2.2.2.2
set_option maxRecDepth 100000 in
theorem db_cX9_isSound_dX9_isSound_22_1 : (decode cX9_isSound 22 = .ok (.iconst 1, 1)) ∧ (decode cX9_isSound 23 = .ok (.ireturn, 1)) ∧ (decode cX9_isSound 24 = .ok (.aload_n 0, 1)) ∧ (decode cX9_isSound 25 = .ok (.getfield 35, 3)) ∧ (decode cX9_isSound 28 = .ok (.iconst 1, 1)) ∧ (decode cX9_isSound 29 = .ok (.aload_n 1, 1)) ∧ (decode cX9_isSound 30 = .ok (.aload_n 0, 1)) ∧ (decode cX9_isSound 31 = .ok (.getfield 56, 3)) ∧ (decode cX9_isSound 34 = .ok (.invokevirtual 160, 3)) ∧ (decode cX9_isSound 37 = .ok (.ifCond .eq 17, 3)) ∧ (decode cX9_isSound 40 = .ok (.aload_n 0, 1)) ∧ (decode cX9_isSound 41 = .ok (.getfield 56, 3)) := by decide +kernel
def dX9_isSound_22 := db_cX9_isSound_dX9_isSound_22_1.1
def dX9_isSound_23 := db_cX9_isSound_dX9_isSound_22_1.2.1
def dX9_isSound_24 := db_cX9_isSound_dX9_isSound_22_1.2.2.1
def dX9_isSound_25 := db_cX9_isSound_dX9_isSound_22_1.2.2.2.1
def dX9_isSound_28 := db_cX9_isSound_dX9_isSound_22_1.2.2.2.2.1
def dX9_isSound_29 := db_cX9_isSound_dX9_isSound_22_1.2.2.2.2.2.1
def dX9_isSound_30 := db_cX9_isSound_dX9_isSound_22_1.2.2.2.2.2.2.1
def dX9_isSound_31 := db_cX9_isSound_dX9_isSound_22_1.2.2.2.2.2.2.2.1
def dX9_isSound_34 := db_cX9_isSound_dX9_isSound_22_1.2.2.2.2.2.2.2.2.1
def dX9_isSound_37 := db_cX9_isSound_dX9_isSound_22_1.2.2.2.2.2.2.2.2.2.1
def dX9_isSound_40 := db_cX9_isSound_dX9_isSound_22_1.2.2.2.2.2.2.2.2.2.2.1
def dX9_isSound_41 := db_cX9_isSound_dX9_isSound_22_1.2.2.2.2.2.2.2.2.2.2.2
set_option maxRecDepth 100000 in
theorem db_cX9_isSound_dX9_isSound_44_2 : (decode cX9_isSound 44 = .ok (.aload_n 0, 1)) ∧ (decode cX9_isSound 45 = .ok (.getfield 66, 3)) ∧ (decode cX9_isSound 48 = .ok (.invokevirtual 230, 3)) ∧ (decode cX9_isSound 51 = .ok (.ifCond .ne 5, 3)) ∧ (decode cX9_isSound 54 = .ok (.iconst 0, 1)) ∧ (decode cX9_isSound 55 = .ok (.ireturn, 1)) ∧ (decode cX9_isSound 56 = .ok (.aload_n 0, 1)) ∧ (decode cX9_isSound 57 = .ok (.getfield 35, 3)) ∧ (decode cX9_isSound 60 = .ok (.iconst 2, 1)) ∧ (decode cX9_isSound 61 = .ok (.aload_n 1, 1)) ∧ (decode cX9_isSound 62 = .ok (.aload_n 0, 1)) ∧ (decode cX9_isSound 63 = .ok (.getfield 56, 3)) := by decide +kernel
def dX9_isSound_44 := db_cX9_isSound_dX9_isSound_44_2.1
def dX9_isSound_45 := db_cX9_isSound_dX9_isSound_44_2.2.1
def dX9_isSound_48 := db_cX9_isSound_dX9_isSound_44_2.2.2.1
def dX9_isSound_51 := db_cX9_isSound_dX9_isSound_44_2.2.2.2.1
def dX9_isSound_54 := db_cX9_isSound_dX9_isSound_44_2.2.2.2.2.1
def dX9_isSound_55 := db_cX9_isSound_dX9_isSound_44_2.2.2.2.2.2.1
def dX9_isSound_56 := db_cX9_isSound_dX9_isSound_44_2.2.2.2.2.2.2.1
def dX9_isSound_57 := db_cX9_isSound_dX9_isSound_44_2.2.2.2.2.2.2.2.1
def dX9_isSound_60 := db_cX9_isSound_dX9_isSound_44_2.2.2.2.2.2.2.2.2.1
def dX9_isSound_61 := db_cX9_isSound_dX9_isSound_44_2.2.2.2.2.2.2.2.2.2.1
def dX9_isSound_62 := db_cX9_isSound_dX9_isSound_44_2.2.2.2.2.2.2.2.2.2.2.1
def dX9_isSound_63 := db_cX9_isSound_dX9_isSound_44_2.2.2.2.2.2.2.2.2.2.2.2
set_option maxRecDepth 100000 in
theorem db_cX9_isSound_dX9_isSound_66_3 : (decode cX9_isSound 66 = .ok (.invokevirtual 160, 3)) ∧ (decode cX9_isSound 69 = .ok (.ifCond .eq 19, 3)) ∧ (decode cX9_isSound 72 = .ok (.aload_n 0, 1)) ∧ (decode cX9_isSound 73 = .ok (.getfield 56, 3)) ∧ (decode cX9_isSound 76 = .ok (.aload_n 0, 1)) ∧ (decode cX9_isSound 77 = .ok (.getfield 66, 3)) ∧ (decode cX9_isSound 80 = .ok (.invokevirtual 230, 3)) ∧ (decode cX9_isSound 83 = .ok (.ifCond .ne 5, 3)) ∧ (decode cX9_isSound 86 = .ok (.iconst 0, 1)) ∧ (decode cX9_isSound 87 = .ok (.ireturn, 1)) ∧ (decode cX9_isSound 88 = .ok (.aload_n 0, 1)) ∧ (decode cX9_isSound 89 = .ok (.getfield 22, 3)) := by decide +kernel
def dX9_isSound_66 := db_cX9_isSound_dX9_isSound_66_3.1
def dX9_isSound_69 := db_cX9_isSound_dX9_isSound_66_3.2.1
def dX9_isSound_72 := db_cX9_isSound_dX9_isSound_66_3.2.2.1
def dX9_isSound_73 := db_cX9_isSound_dX9_isSound_66_3.2.2.2.1
def dX9_isSound_76 := db_cX9_isSound_dX9_isSound_66_3.2.2.2.2.1
def dX9_isSound_77 := db_cX9_isSound_dX9_isSound_66_3.2.2.2.2.2.1
def dX9_isSound_80 := db_cX9_isSound_dX9_isSound_66_3.2.2.2.2.2.2.1
def dX9_isSound_83 := db_cX9_isSound_dX9_isSound_66_3.2.2.2.2.2.2.2.1
def dX9_isSound_86 := db_cX9_isSound_dX9_isSound_66_3.2.2.2.2.2.2.2.2.1
def dX9_isSound_87 := db_cX9_isSound_dX9_isSound_66_3.2.2.2.2.2.2.2.2.2.1
def dX9_isSound_88 := db_cX9_isSound_dX9_isSound_66_3.2.2.2.2.2.2.2.2.2.2.1
def dX9_isSound_89 := db_cX9_isSound_dX9_isSound_66_3.2.2.2.2.2.2.2.2.2.2.2
set_option maxRecDepth 100000 in
theorem db_cX9_isSound_dX9_isSound_92_4 : (decode cX9_isSound 92 = .ok (.aload_n 0, 1)) ∧ (decode cX9_isSound 93 = .ok (.getfield 66, 3)) ∧ (decode cX9_isSound 96 = .ok (.invokevirtual 255, 3)) ∧ (decode cX9_isSound 99 = .ok (.aload_n 0, 1)) ∧ (decode cX9_isSound 100 = .ok (.getfield 35, 3)) ∧ (decode cX9_isSound 103 = .ok (.iconst 0, 1)) ∧ (decode cX9_isSound 104 = .ok (.aload_n 0, 1)) ∧ (decode cX9_isSound 105 = .ok (.getfield 22, 3)) ∧ (decode cX9_isSound 108 = .ok (.aload_n 0, 1)) ∧ (decode cX9_isSound 109 = .ok (.getfield 56, 3)) ∧ (decode cX9_isSound 112 = .ok (.invokevirtual 160, 3)) ∧ (decode cX9_isSound 115 = .ok (.ifCond .eq 17, 3)) := by decide +kernel
def dX9_isSound_92 := db_cX9_isSound_dX9_isSound_92_4.1
def dX9_isSound_93 := db_cX9_isSound_dX9_isSound_92_4.2.1
def dX9_isSound_96 := db_cX9_isSound_dX9_isSound_92_4.2.2.1
def dX9_isSound_99 := db_cX9_isSound_dX9_isSound_92_4.2.2.2.1
def dX9_isSound_100 := db_cX9_isSound_dX9_isSound_92_4.2.2.2.2.1
def dX9_isSound_103 := db_cX9_isSound_dX9_isSound_92_4.2.2.2.2.2.1
def dX9_isSound_104 := db_cX9_isSound_dX9_isSound_92_4.2.2.2.2.2.2.1
def dX9_isSound_105 := db_cX9_isSound_dX9_isSound_92_4.2.2.2.2.2.2.2.1
def dX9_isSound_108 := db_cX9_isSound_dX9_isSound_92_4.2.2.2.2.2.2.2.2.1
def dX9_isSound_109 := db_cX9_isSound_dX9_isSound_92_4.2.2.2.2.2.2.2.2.2.1
def dX9_isSound_112 := db_cX9_isSound_dX9_isSound_92_4.2.2.2.2.2.2.2.2.2.2.1
def dX9_isSound_115 := db_cX9_isSound_dX9_isSound_92_4.2.2.2.2.2.2.2.2.2.2.2
set_option maxRecDepth 100000 in
theorem db_cX9_isSound_dX9_isSound_118_5 : (decode cX9_isSound 118 = .ok (.aload_n 0, 1)) ∧ (decode cX9_isSound 119 = .ok (.getfield 56, 3)) ∧ (decode cX9_isSound 122 = .ok (.aload_n 0, 1)) ∧ (decode cX9_isSound 123 = .ok (.getfield 66, 3)) ∧ (decode cX9_isSound 126 = .ok (.invokevirtual 230, 3)) ∧ (decode cX9_isSound 129 = .ok (.ifCond .ne 5, 3)) ∧ (decode cX9_isSound 132 = .ok (.iconst 0, 1)) ∧ (decode cX9_isSound 133 = .ok (.ireturn, 1)) ∧ (decode cX9_isSound 134 = .ok (.aload_n 0, 1)) ∧ (decode cX9_isSound 135 = .ok (.aload_n 1, 1)) ∧ (decode cX9_isSound 136 = .ok (.invokevirtual 258, 3)) ∧ (decode cX9_isSound 139 = .ok (.ireturn, 1)) := by decide +kernel
def dX9_isSound_118 := db_cX9_isSound_dX9_isSound_118_5.1
def dX9_isSound_119 := db_cX9_isSound_dX9_isSound_118_5.2.1
def dX9_isSound_122 := db_cX9_isSound_dX9_isSound_118_5.2.2.1
def dX9_isSound_123 := db_cX9_isSound_dX9_isSound_118_5.2.2.2.1
def dX9_isSound_126 := db_cX9_isSound_dX9_isSound_118_5.2.2.2.2.1
def dX9_isSound_129 := db_cX9_isSound_dX9_isSound_118_5.2.2.2.2.2.1
def dX9_isSound_132 := db_cX9_isSound_dX9_isSound_118_5.2.2.2.2.2.2.1
def dX9_isSound_133 := db_cX9_isSound_dX9_isSound_118_5.2.2.2.2.2.2.2.1
def dX9_isSound_134 := db_cX9_isSound_dX9_isSound_118_5.2.2.2.2.2.2.2.2.1
def dX9_isSound_135 := db_cX9_isSound_dX9_isSound_118_5.2.2.2.2.2.2.2.2.2.1
def dX9_isSound_136 := db_cX9_isSound_dX9_isSound_118_5.2.2.2.2.2.2.2.2.2.2.1
def dX9_isSound_139 := db_cX9_isSound_dX9_isSound_118_5.2.2.2.2.2.2.2.2.2.2.2
set_option maxRecDepth 100000 in
theorem db_cX9_digest_dX9_digest_0_0 : (decode cX9_digest 0 = .ok (.ldc2_w 261, 3)) ∧ (decode cX9_digest 3 = .ok (.lstore_n 1, 1)) ∧ (decode cX9_digest 4 = .ok (.iconst 0, 1)) ∧ (decode cX9_digest 5 = .ok (.istore_n 3, 1)) ∧ (decode cX9_digest 6 = .ok (.iload_n 3, 1)) ∧ (decode cX9_digest 7 = .ok (.aload_n 0, 1)) ∧ (decode cX9_digest 8 = .ok (.getfield 11, 3)) ∧ (decode cX9_digest 11 = .ok (.arraylength, 1)) ∧ (decode cX9_digest 12 = .ok (.if_icmp .ge 20, 3)) ∧ (decode cX9_digest 15 = .ok (.lload_n 1, 1)) ∧ (decode cX9_digest 16 = .ok (.aload_n 0, 1)) ∧ (decode cX9_digest 17 = .ok (.getfield 11, 3)) := by decide +kernel
def dX9_digest_0 := db_cX9_digest_dX9_digest_0_0.1
def dX9_digest_3 := db_cX9_digest_dX9_digest_0_0.2.1
def dX9_digest_4 := db_cX9_digest_dX9_digest_0_0.2.2.1
def dX9_digest_5 := db_cX9_digest_dX9_digest_0_0.2.2.2.1
def dX9_digest_6 := db_cX9_digest_dX9_digest_0_0.2.2.2.2.1
def dX9_digest_7 := db_cX9_digest_dX9_digest_0_0.2.2.2.2.2.1
def dX9_digest_8 := db_cX9_digest_dX9_digest_0_0.2.2.2.2.2.2.1
def dX9_digest_11 := db_cX9_digest_dX9_digest_0_0.2.2.2.2.2.2.2.1
def dX9_digest_12 := db_cX9_digest_dX9_digest_0_0.2.2.2.2.2.2.2.2.1
def dX9_digest_15 := db_cX9_digest_dX9_digest_0_0.2.2.2.2.2.2.2.2.2.1
def dX9_digest_16 := db_cX9_digest_dX9_digest_0_0.2.2.2.2.2.2.2.2.2.2.1
def dX9_digest_17 := db_cX9_digest_dX9_digest_0_0.2.2.2.2.2.2.2.2.2.2.2
set_option maxRecDepth 100000 in
theorem db_cX9_digest_dX9_digest_20_1 : (decode cX9_digest 20 = .ok (.iload_n 3, 1)) ∧ (decode cX9_digest 21 = .ok (.aaload, 1)) ∧ (decode cX9_digest 22 = .ok (.invokestatic 263, 3)) ∧ (decode cX9_digest 25 = .ok (.lstore_n 1, 1)) ∧ (decode cX9_digest 26 = .ok (.iinc 3 1, 3)) ∧ (decode cX9_digest 29 = .ok (.goto (-23), 3)) ∧ (decode cX9_digest 32 = .ok (.lload_n 1, 1)) ∧ (decode cX9_digest 33 = .ok (.ldc2_w 267, 3)) ∧ (decode cX9_digest 36 = .ok (.lmul, 1)) ∧ (decode cX9_digest 37 = .ok (.aload_n 0, 1)) ∧ (decode cX9_digest 38 = .ok (.getfield 246, 3)) ∧ (decode cX9_digest 41 = .ok (.i2l, 1)) := by decide +kernel
def dX9_digest_20 := db_cX9_digest_dX9_digest_20_1.1
def dX9_digest_21 := db_cX9_digest_dX9_digest_20_1.2.1
def dX9_digest_22 := db_cX9_digest_dX9_digest_20_1.2.2.1
def dX9_digest_25 := db_cX9_digest_dX9_digest_20_1.2.2.2.1
def dX9_digest_26 := db_cX9_digest_dX9_digest_20_1.2.2.2.2.1
def dX9_digest_29 := db_cX9_digest_dX9_digest_20_1.2.2.2.2.2.1
def dX9_digest_32 := db_cX9_digest_dX9_digest_20_1.2.2.2.2.2.2.1
def dX9_digest_33 := db_cX9_digest_dX9_digest_20_1.2.2.2.2.2.2.2.1
def dX9_digest_36 := db_cX9_digest_dX9_digest_20_1.2.2.2.2.2.2.2.2.1
def dX9_digest_37 := db_cX9_digest_dX9_digest_20_1.2.2.2.2.2.2.2.2.2.1
def dX9_digest_38 := db_cX9_digest_dX9_digest_20_1.2.2.2.2.2.2.2.2.2.2.1
def dX9_digest_41 := db_cX9_digest_dX9_digest_20_1.2.2.2.2.2.2.2.2.2.2.2
set_option maxRecDepth 100000 in
theorem db_cX9_digest_dX9_digest_42_2 : (decode cX9_digest 42 = .ok (.ladd, 1)) ∧ (decode cX9_digest 43 = .ok (.lstore_n 1, 1)) ∧ (decode cX9_digest 44 = .ok (.lload_n 1, 1)) ∧ (decode cX9_digest 45 = .ok (.ldc2_w 267, 3)) ∧ (decode cX9_digest 48 = .ok (.lmul, 1)) ∧ (decode cX9_digest 49 = .ok (.aload_n 0, 1)) ∧ (decode cX9_digest 50 = .ok (.getfield 249, 3)) ∧ (decode cX9_digest 53 = .ok (.i2l, 1)) ∧ (decode cX9_digest 54 = .ok (.ladd, 1)) ∧ (decode cX9_digest 55 = .ok (.lstore_n 1, 1)) ∧ (decode cX9_digest 56 = .ok (.lload_n 1, 1)) ∧ (decode cX9_digest 57 = .ok (.ldc2_w 267, 3)) := by decide +kernel
def dX9_digest_42 := db_cX9_digest_dX9_digest_42_2.1
def dX9_digest_43 := db_cX9_digest_dX9_digest_42_2.2.1
def dX9_digest_44 := db_cX9_digest_dX9_digest_42_2.2.2.1
def dX9_digest_45 := db_cX9_digest_dX9_digest_42_2.2.2.2.1
def dX9_digest_48 := db_cX9_digest_dX9_digest_42_2.2.2.2.2.1
def dX9_digest_49 := db_cX9_digest_dX9_digest_42_2.2.2.2.2.2.1
def dX9_digest_50 := db_cX9_digest_dX9_digest_42_2.2.2.2.2.2.2.1
def dX9_digest_53 := db_cX9_digest_dX9_digest_42_2.2.2.2.2.2.2.2.1
def dX9_digest_54 := db_cX9_digest_dX9_digest_42_2.2.2.2.2.2.2.2.2.1
def dX9_digest_55 := db_cX9_digest_dX9_digest_42_2.2.2.2.2.2.2.2.2.2.1
def dX9_digest_56 := db_cX9_digest_dX9_digest_42_2.2.2.2.2.2.2.2.2.2.2.1
def dX9_digest_57 := db_cX9_digest_dX9_digest_42_2.2.2.2.2.2.2.2.2.2.2.2
set_option maxRecDepth 100000 in
theorem db_cX9_digest_dX9_digest_60_3 : (decode cX9_digest 60 = .ok (.lmul, 1)) ∧ (decode cX9_digest 61 = .ok (.aload_n 0, 1)) ∧ (decode cX9_digest 62 = .ok (.getfield 252, 3)) ∧ (decode cX9_digest 65 = .ok (.i2l, 1)) ∧ (decode cX9_digest 66 = .ok (.ladd, 1)) ∧ (decode cX9_digest 67 = .ok (.lstore_n 1, 1)) ∧ (decode cX9_digest 68 = .ok (.lload_n 1, 1)) ∧ (decode cX9_digest 69 = .ok (.ldc2_w 267, 3)) ∧ (decode cX9_digest 72 = .ok (.lmul, 1)) ∧ (decode cX9_digest 73 = .ok (.aload_n 0, 1)) ∧ (decode cX9_digest 74 = .ok (.invokevirtual 269, 3)) ∧ (decode cX9_digest 77 = .ok (.ifCond .eq 7, 3)) := by decide +kernel
def dX9_digest_60 := db_cX9_digest_dX9_digest_60_3.1
def dX9_digest_61 := db_cX9_digest_dX9_digest_60_3.2.1
def dX9_digest_62 := db_cX9_digest_dX9_digest_60_3.2.2.1
def dX9_digest_65 := db_cX9_digest_dX9_digest_60_3.2.2.2.1
def dX9_digest_66 := db_cX9_digest_dX9_digest_60_3.2.2.2.2.1
def dX9_digest_67 := db_cX9_digest_dX9_digest_60_3.2.2.2.2.2.1
def dX9_digest_68 := db_cX9_digest_dX9_digest_60_3.2.2.2.2.2.2.1
def dX9_digest_69 := db_cX9_digest_dX9_digest_60_3.2.2.2.2.2.2.2.1
def dX9_digest_72 := db_cX9_digest_dX9_digest_60_3.2.2.2.2.2.2.2.2.1
def dX9_digest_73 := db_cX9_digest_dX9_digest_60_3.2.2.2.2.2.2.2.2.2.1
def dX9_digest_74 := db_cX9_digest_dX9_digest_60_3.2.2.2.2.2.2.2.2.2.2.1
def dX9_digest_77 := db_cX9_digest_dX9_digest_60_3.2.2.2.2.2.2.2.2.2.2.2
set_option maxRecDepth 100000 in
theorem db_cX9_digest_dX9_digest_80_4 : (decode cX9_digest 80 = .ok (.iconst 1, 1)) ∧ (decode cX9_digest 81 = .ok (.goto 4, 3)) ∧ (decode cX9_digest 84 = .ok (.iconst 0, 1)) ∧ (decode cX9_digest 85 = .ok (.i2l, 1)) ∧ (decode cX9_digest 86 = .ok (.ladd, 1)) ∧ (decode cX9_digest 87 = .ok (.lreturn, 1)) := by decide +kernel
def dX9_digest_80 := db_cX9_digest_dX9_digest_80_4.1
def dX9_digest_81 := db_cX9_digest_dX9_digest_80_4.2.1
def dX9_digest_84 := db_cX9_digest_dX9_digest_80_4.2.2.1
def dX9_digest_85 := db_cX9_digest_dX9_digest_80_4.2.2.2.1
def dX9_digest_86 := db_cX9_digest_dX9_digest_80_4.2.2.2.2.1
def dX9_digest_87 := db_cX9_digest_dX9_digest_80_4.2.2.2.2.2
end
