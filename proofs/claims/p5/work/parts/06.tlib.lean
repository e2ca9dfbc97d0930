section TLB
abbrev TMem : Type := Nat → Nat → Int32
def tms (μ : TMem) (k i : Nat) (v : Int32) : TMem := fun j => if j = k then upd (μ k) i v else μ j
def tkl : List Nat := [8, 10, 2, 9, 2, 9, 2, 9, 2, 9, 2, 9, 2, 9, 0, 3, 6, 9, 6, 9, 6, 9, 1, 6, 9, 6, 9, 6, 9, 2, 9, 2, 9, 5, 9, 4, 6, 9, 6, 9, 6, 9, 6, 9, 6, 9, 6, 9, 7, 6, 9, 5, 9, 5, 9, 5, 9, 5, 9]
def kd (k : Nat) : Nat := tkl.getD k 99
def tll : List Nat := [0, 4, 0, 21, 0, 21, 0, 21, 0, 21, 0, 21, 0, 96, 0, 0, 0, 32, 0, 32, 0, 32, 0, 0, 32, 0, 32, 0, 32, 0, 96, 0, 96, 0, 96, 0, 0, 200, 0, 200, 0, 200, 0, 200, 0, 600, 0, 1024, 0, 0, 416, 0, 96, 0, 96, 0, 96, 0, 96]
def tl (k : Nat) : Nat := tll.getD k 0
def CL : List vw_C := [(RX0, TX0, 1), (RX1, TX1, 3), (RX2, TX2, 4), (RX3, TX3, 7), (RX4, TX4, 10), (RX5, TX5, 3), (RX6, TX6, 1), (RX8, TX8, 1), (RX9, TX9, 14), (RX10, TX10, 2), (RX11, TX11, 8), (RJ4, TJ4, 4), (RJ0, TJ0, 4)]
theorem cl_0 : CL[0]? = some (RX0, TX0, 1) := rfl
theorem in_0 : ∀ w ∈ u_ws RX0 TX0 1, w ∈ W0 := List.forall_mem_cons.mpr ⟨q_136, fun _ h => nomatch h⟩
theorem cl_1 : CL[1]? = some (RX1, TX1, 3) := rfl
theorem in_1 : ∀ w ∈ u_ws RX1 TX1 3, w ∈ W0 := List.forall_mem_cons.mpr ⟨q_166, List.forall_mem_cons.mpr ⟨q_168, List.forall_mem_cons.mpr ⟨q_170, fun _ h => nomatch h⟩⟩⟩
theorem cl_2 : CL[2]? = some (RX2, TX2, 4) := rfl
theorem in_2 : ∀ w ∈ u_ws RX2 TX2 4, w ∈ W0 := List.forall_mem_cons.mpr ⟨q_121, List.forall_mem_cons.mpr ⟨q_123, List.forall_mem_cons.mpr ⟨q_125, List.forall_mem_cons.mpr ⟨q_119, fun _ h => nomatch h⟩⟩⟩⟩
theorem cl_3 : CL[3]? = some (RX3, TX3, 7) := rfl
theorem in_3 : ∀ w ∈ u_ws RX3 TX3 7, w ∈ W0 := List.forall_mem_cons.mpr ⟨q_192, List.forall_mem_cons.mpr ⟨q_194, List.forall_mem_cons.mpr ⟨q_196, List.forall_mem_cons.mpr ⟨q_198, List.forall_mem_cons.mpr ⟨q_200, List.forall_mem_cons.mpr ⟨q_202, List.forall_mem_cons.mpr ⟨q_204, fun _ h => nomatch h⟩⟩⟩⟩⟩⟩⟩
theorem cl_4 : CL[4]? = some (RX4, TX4, 10) := rfl
theorem in_4 : ∀ w ∈ u_ws RX4 TX4 10, w ∈ W0 := List.forall_mem_cons.mpr ⟨q_228, List.forall_mem_cons.mpr ⟨q_230, List.forall_mem_cons.mpr ⟨q_232, List.forall_mem_cons.mpr ⟨q_234, List.forall_mem_cons.mpr ⟨q_236, List.forall_mem_cons.mpr ⟨q_238, List.forall_mem_cons.mpr ⟨q_240, List.forall_mem_cons.mpr ⟨q_242, List.forall_mem_cons.mpr ⟨q_244, List.forall_mem_cons.mpr ⟨q_246, fun _ h => nomatch h⟩⟩⟩⟩⟩⟩⟩⟩⟩⟩
theorem cl_5 : CL[5]? = some (RX5, TX5, 3) := rfl
theorem in_5 : ∀ w ∈ u_ws RX5 TX5 3, w ∈ W0 := List.forall_mem_cons.mpr ⟨q_181, List.forall_mem_cons.mpr ⟨q_182, List.forall_mem_cons.mpr ⟨q_183, fun _ h => nomatch h⟩⟩⟩
theorem cl_6 : CL[6]? = some (RX6, TX6, 1) := rfl
theorem in_6 : ∀ w ∈ u_ws RX6 TX6 1, w ∈ W0 := List.forall_mem_cons.mpr ⟨q_152, fun _ h => nomatch h⟩
theorem cl_7 : CL[7]? = some (RX8, TX8, 1) := rfl
theorem in_7 : ∀ w ∈ u_ws RX8 TX8 1, w ∈ W0 := List.forall_mem_cons.mpr ⟨q_258, fun _ h => nomatch h⟩
theorem cl_8 : CL[8]? = some (RX9, TX9, 14) := rfl
theorem in_8 : ∀ w ∈ u_ws RX9 TX9 14, w ∈ W0 := List.forall_mem_cons.mpr ⟨q_277, List.forall_mem_cons.mpr ⟨q_279, List.forall_mem_cons.mpr ⟨q_281, List.forall_mem_cons.mpr ⟨q_283, List.forall_mem_cons.mpr ⟨q_285, List.forall_mem_cons.mpr ⟨q_287, List.forall_mem_cons.mpr ⟨q_289, List.forall_mem_cons.mpr ⟨q_291, List.forall_mem_cons.mpr ⟨q_293, List.forall_mem_cons.mpr ⟨q_295, List.forall_mem_cons.mpr ⟨q_297, List.forall_mem_cons.mpr ⟨q_299, List.forall_mem_cons.mpr ⟨q_301, List.forall_mem_cons.mpr ⟨q_303, fun _ h => nomatch h⟩⟩⟩⟩⟩⟩⟩⟩⟩⟩⟩⟩⟩⟩
theorem cl_9 : CL[9]? = some (RX10, TX10, 2) := rfl
theorem in_9 : ∀ w ∈ u_ws RX10 TX10 2, w ∈ W0 := List.forall_mem_cons.mpr ⟨q_583, List.forall_mem_cons.mpr ⟨q_585, fun _ h => nomatch h⟩⟩
theorem cl_10 : CL[10]? = some (RX11, TX11, 8) := rfl
theorem in_10 : ∀ w ∈ u_ws RX11 TX11 8, w ∈ W0 := List.forall_mem_cons.mpr ⟨q_1321, List.forall_mem_cons.mpr ⟨q_1323, List.forall_mem_cons.mpr ⟨q_1325, List.forall_mem_cons.mpr ⟨q_1327, List.forall_mem_cons.mpr ⟨q_1329, List.forall_mem_cons.mpr ⟨q_1331, List.forall_mem_cons.mpr ⟨q_1333, List.forall_mem_cons.mpr ⟨q_1335, fun _ h => nomatch h⟩⟩⟩⟩⟩⟩⟩⟩
theorem cl_11 : CL[11]? = some (RJ4, TJ4, 4) := rfl
theorem in_11 : ∀ w ∈ u_ws RJ4 TJ4 4, w ∈ W0 := List.forall_mem_cons.mpr ⟨q_914, List.forall_mem_cons.mpr ⟨q_916, List.forall_mem_cons.mpr ⟨q_918, List.forall_mem_cons.mpr ⟨q_920, fun _ h => nomatch h⟩⟩⟩⟩
theorem cl_12 : CL[12]? = some (RJ0, TJ0, 4) := rfl
theorem in_12 : ∀ w ∈ u_ws RJ0 TJ0 4, w ∈ W0 := List.forall_mem_cons.mpr ⟨q_1149, List.forall_mem_cons.mpr ⟨q_1151, List.forall_mem_cons.mpr ⟨q_1153, List.forall_mem_cons.mpr ⟨q_1155, fun _ h => nomatch h⟩⟩⟩⟩
def ent (ad : Nat → Nat) (cI cM : ClassId) (f : Nat → Int32) (k : Nat) : va_E := match kd k with
  | 0 => .inr (0, [.int (f 0)])
  | 1 => .inr (1, [.ref (ad (k + 1)), .ref (ad (k + 3)), .ref (ad (k + 5))])
  | 2 => .inr (2, [.ref (ad (k + 1)), .int (f 1), .int (f 2), .int (f 3)])
  | 3 => .inr (3, [.ref (ad (k + 1)), .ref (ad (k + 3)), .ref (ad (k + 5)), .ref (ad (k + 7)), .ref (ad (k + 14)), .ref (ad (k + 16)), .ref (ad (k + 18))])
  | 4 => .inr (4, [.ref (ad (k + 1)), .ref (ad (k + 3)), .ref (ad (k + 5)), .ref (ad (k + 7)), .ref (ad (k + 9)), .ref (ad (k + 11)), .int (f 6), .int (f 7), .int (f 8), .int (f 9)])
  | 5 => .inr (5, [.ref (ad (k + 1)), .int (f 1), .int (f 2)])
  | 6 => .inr (6, [.ref (ad (k + 1))])
  | 7 => .inr (7, [.ref (ad (k + 1))])
  | 8 => .inr (8, [.ref (ad 1), .ref (ad 10), .ref (ad 12), .ref (ad 14), .ref (ad 15), .ref (ad 35), .ref (ad 48), .ref (ad 51), .ref (ad 53), .ref (ad 55), .ref (ad 57), .int (f 11), .int (f 12), .int (f 13)])
  | 9 => .inl (cI, tl k, .inl f)
  | _ => .inl (cM, 4, .inr (.inr (.inr (.inr (fun j => some (ad (2 + 2 * j)))))))
theorem ent_0 {ad : Nat → Nat} {cI cM : ClassId} {f : Nat → Int32} {k : Nat} (h : kd k = 0) : ent ad cI cM f k = .inr (0, [.int (f 0)]) := by unfold ent; rw [h]; rfl
theorem ent_1 {ad : Nat → Nat} {cI cM : ClassId} {f : Nat → Int32} {k : Nat} (h : kd k = 1) : ent ad cI cM f k = .inr (1, [.ref (ad (k + 1)), .ref (ad (k + 3)), .ref (ad (k + 5))]) := by unfold ent; rw [h]; rfl
theorem ent_2 {ad : Nat → Nat} {cI cM : ClassId} {f : Nat → Int32} {k : Nat} (h : kd k = 2) : ent ad cI cM f k = .inr (2, [.ref (ad (k + 1)), .int (f 1), .int (f 2), .int (f 3)]) := by unfold ent; rw [h]; rfl
theorem ent_3 {ad : Nat → Nat} {cI cM : ClassId} {f : Nat → Int32} {k : Nat} (h : kd k = 3) : ent ad cI cM f k = .inr (3, [.ref (ad (k + 1)), .ref (ad (k + 3)), .ref (ad (k + 5)), .ref (ad (k + 7)), .ref (ad (k + 14)), .ref (ad (k + 16)), .ref (ad (k + 18))]) := by unfold ent; rw [h]; rfl
theorem ent_4 {ad : Nat → Nat} {cI cM : ClassId} {f : Nat → Int32} {k : Nat} (h : kd k = 4) : ent ad cI cM f k = .inr (4, [.ref (ad (k + 1)), .ref (ad (k + 3)), .ref (ad (k + 5)), .ref (ad (k + 7)), .ref (ad (k + 9)), .ref (ad (k + 11)), .int (f 6), .int (f 7), .int (f 8), .int (f 9)]) := by unfold ent; rw [h]; rfl
theorem ent_5 {ad : Nat → Nat} {cI cM : ClassId} {f : Nat → Int32} {k : Nat} (h : kd k = 5) : ent ad cI cM f k = .inr (5, [.ref (ad (k + 1)), .int (f 1), .int (f 2)]) := by unfold ent; rw [h]; rfl
theorem ent_6 {ad : Nat → Nat} {cI cM : ClassId} {f : Nat → Int32} {k : Nat} (h : kd k = 6) : ent ad cI cM f k = .inr (6, [.ref (ad (k + 1))]) := by unfold ent; rw [h]; rfl
theorem ent_7 {ad : Nat → Nat} {cI cM : ClassId} {f : Nat → Int32} {k : Nat} (h : kd k = 7) : ent ad cI cM f k = .inr (7, [.ref (ad (k + 1))]) := by unfold ent; rw [h]; rfl
theorem ent_8 {ad : Nat → Nat} {cI cM : ClassId} {f : Nat → Int32} {k : Nat} (h : kd k = 8) : ent ad cI cM f k = .inr (8, [.ref (ad 1), .ref (ad 10), .ref (ad 12), .ref (ad 14), .ref (ad 15), .ref (ad 35), .ref (ad 48), .ref (ad 51), .ref (ad 53), .ref (ad 55), .ref (ad 57), .int (f 11), .int (f 12), .int (f 13)]) := by unfold ent; rw [h]; rfl
theorem ent_9 {ad : Nat → Nat} {cI cM : ClassId} {f : Nat → Int32} {k : Nat} (h : kd k = 9) : ent ad cI cM f k = .inl (cI, tl k, .inl f) := by unfold ent; rw [h]; rfl
theorem ent_10 {ad : Nat → Nat} {cI cM : ClassId} {f : Nat → Int32} {k : Nat} (h : kd k = 10) : ent ad cI cM f k = .inl (cM, 4, .inr (.inr (.inr (.inr (fun j => some (ad (2 + 2 * j))))))) := by unfold ent; rw [h]; rfl
theorem kd_lt {k : Nat} (h : kd k < 99) : k < 59 := by
  rcases Nat.lt_or_ge k 59 with q | q
  · exact q
  · have e : kd k = 99 := by unfold kd; rw [List.getD_eq_getElem?_getD, List.getElem?_eq_none (show tkl.length ≤ k from q)]; rfl
    omega
theorem kd_2a : ∀ k, k < 59 → kd k = 2 → kd (k + 1) = 9 := by decide +kernel
theorem kd_5a : ∀ k, k < 59 → kd k = 5 → kd (k + 1) = 9 := by decide +kernel
theorem kd_6a : ∀ k, k < 59 → kd k = 6 → kd (k + 1) = 9 := by decide +kernel
theorem kd_ma : ∀ j, j < 4 → kd (2 + 2 * j) = 2 := by decide +kernel
theorem ka_2 {k : Nat} (h : kd k = 2) : kd (k + 1) = 9 := kd_2a k (kd_lt (by omega)) h
theorem ka_5 {k : Nat} (h : kd k = 5) : kd (k + 1) = 9 := kd_5a k (kd_lt (by omega)) h
theorem ka_6 {k : Nat} (h : kd k = 6) : kd (k + 1) = 9 := kd_6a k (kd_lt (by omega)) h
theorem ka_25 {k : Nat} (h : kd k = 2 ∨ kd k = 5) : kd (k + 1) = 9 := h.elim ka_2 ka_5
def TRX (ad : Nat → Nat) (cI cM : ClassId) (μ : TMem) : va_W := (List.range 59).map fun k => (ad k, ent ad cI cM (μ k) k)
theorem TRX_at {ad : Nat → Nat} {cI cM : ClassId} {μ : TMem} {k : Nat} (hk : k < 59) : (TRX ad cI cM μ)[k]? = some (ad k, ent ad cI cM (μ k) k) := by
  simp [TRX, List.getElem?_map, List.getElem?_range hk]
theorem TRX_of {ad : Nat → Nat} {cI cM : ClassId} {μ : TMem} {k : Nat} {x : Nat × va_E} (h : (TRX ad cI cM μ)[k]? = some x) : k < 59 ∧ x = (ad k, ent ad cI cM (μ k) k) := by
  rcases Nat.lt_or_ge k 59 with q | q
  · rw [TRX_at q] at h
    exact ⟨q, (Option.some.inj h).symm⟩
  · rw [List.getElem?_eq_none (by simp [TRX]; exact q)] at h
    cases h
theorem TRX_set {ad : Nat → Nat} {cI cM : ClassId} {μ : TMem} {k i : Nat} {v : Int32} (hk : k < 59) : (TRX ad cI cM μ).set k (ad k, ent ad cI cM (upd (μ k) i v) k) = TRX ad cI cM (tms μ k i v) := by
  apply List.ext_getElem?
  intro j
  by_cases hj : j < 59
  · by_cases e : k = j
    · subst e
      rw [TRX_at hk, List.getElem?_set_self (by simp [TRX]; exact hk)]
      simp [tms]
    · rw [List.getElem?_set_ne e, TRX_at hj, TRX_at hj]
      simp [tms, Ne.symm e]
  · rw [List.getElem?_eq_none (by simp [TRX]; omega), List.getElem?_eq_none (by simp [TRX]; omega)]
def TK (D : va_G) (cI cM : ClassId) (U : State) : Prop := va_K D CL [(cI, .int), (cM, .object "Leastreader$Machine")] U
def TA (ad : Nat → Nat) (sz : Nat) : Nat → Prop := fun q => (∃ k : Nat, k < 59 ∧ q = ad k) ∨ sz ≤ q
def TI (ad : Nat → Nat) : Prop := ∀ i j : Nat, i < 59 → j < 59 → ad i = ad j → i = j
theorem TI.D {ad : Nat → Nat} {cI cM : ClassId} {μ : TMem} {sz : Nat} (h : TI ad) : va_D (TA ad sz) (TRX ad cI cM μ) := by
  refine ⟨fun i j x y hx hy e => ?_, fun k x hx => ?_⟩
  · obtain ⟨h1, rfl⟩ := TRX_of hx
    obtain ⟨h2, rfl⟩ := TRX_of hy
    exact h i j h1 h2 e
  · obtain ⟨h1, rfl⟩ := TRX_of hx
    exact Or.inl ⟨k, h1, rfl⟩
/-- the class's world in a walk: its cells, what changed since the entry -/
def TW (D : va_G) (ad : Nat → Nat) (cI cM : ClassId) (s : State) (μ : TMem) (H : Heap) (locs : List Loc) : Prop := va_P D CL (TRX ad cI cM μ) H ∧ TI ad ∧ va_S (TA ad s.heap.size) s.heap H locs
def TB (D : va_G) (ad : Nat → Nat) (cI cM : ClassId) (sz : Nat) (μ : TMem) : State → Prop := fun U => U.heap.size = sz ∧ va_P D CL (TRX ad cI cM μ) U.heap ∧ TK D cI cM U ∧ TI ad ∧ NW U
def TE (D : va_G) (ad : Nat → Nat) (cI cM : ClassId) : TMem → State → Prop := fun μ t => va_P D CL (TRX ad cI cM μ) t.heap
def isB (v : Int32) : Prop := v = 0 ∨ v = 1
theorem isB_n {v : Int32} (h : isB v) : narrow .boolean (.int v) = .int v := by rcases h with rfl | rfl <;> rfl
abbrev RM (h : Nat) : Room := { frames := h, cells := 0, slots := 0, locals := 40 * h }
variable {p : Program} {l : Launch} {e : Env} {R : Room} {s : State} {m : MethodId} {args : Array Value} {below : List Frame} {meth : Method} {c : Code} {H : Heap} {locs : List Loc} {cells slots : Nat} {Q : State → Prop}
variable {cc : ByteArray} {pc : Nat} {ls : Array Slot} {rest : List Value} {D : va_G} {ad : Nat → Nat} {cI cM : ClassId} {μ : TMem} {k : Nat}
theorem t_get (hexec : p.tables.exec = Jvm.exec) (hb : c.code = cc) (ht : ∀ w ∈ W0, w.before args s = true) {own ref C : String} {T : u_T} {N ci index i : Nat} (hin : ∀ w ∈ u_ws C T N, w ∈ W0) (hown : s.vm.findClass own = some m.cls) (hK : TK D cI cM s) (hw : TW D ad cI cM s μ H locs) (hk : k < 59) {fs : List Value} (he : ent ad cI cM (μ k) k = .inr (ci, fs)) (hc : CL[ci]? = some (C, T, N)) (hi : i < N) (hlink : (Cond.fieldLink own index ref (T i).2.1 (T i).2.2.1).before args s = true) (hsame : ∀ x, s.fieldFound? (T i).1 (T i).2.1 (T i).2.2.1 = some x → s.fieldFound? ref (T i).2.1 (T i).2.2.1 = some x) {v : Value} (hv : fs[i]? = some v) (hdg : decode cc pc = .ok (.getfield index, 3))
    (kk : W p l e R s m args below meth c H locs cells slots Q (F0 m (pc + 3) ls (v :: rest))) : W p l e R s m args below meth c H locs cells slots Q (F0 m pc ls (.ref (ad k) :: rest)) :=
  va_get hexec hb ht hin hown hK hw.1 k (by rw [TRX_at hk, he]) hc i hi hlink hsame hv hdg kk
theorem t_getN (hexec : p.tables.exec = Jvm.exec) (hb : c.code = cc) (ht : ∀ w ∈ W0, w.before args s = true) {own ref C host : String} {T : u_T} {N ci index i : Nat} (hin : ∀ w ∈ u_ws C T N, w ∈ W0) (hown : s.vm.findClass own = some m.cls) (hK : TK D cI cM s) (hw : TW D ad cI cM s μ H locs) (hk : k < 59) {fs : List Value} (he : ent ad cI cM (μ k) k = .inr (ci, fs)) (hc : CL[ci]? = some (C, T, N)) (hi : i < N) (hlink : (Cond.fieldLinkNest own index ref (T i).2.1 (T i).2.2.1 host).before args s = true) (hsame : ∀ x, s.fieldFound? (T i).1 (T i).2.1 (T i).2.2.1 = some x → s.fieldFound? ref (T i).2.1 (T i).2.2.1 = some x) {v : Value} (hv : fs[i]? = some v) (hdg : decode cc pc = .ok (.getfield index, 3))
    (kk : W p l e R s m args below meth c H locs cells slots Q (F0 m (pc + 3) ls (v :: rest))) : W p l e R s m args below meth c H locs cells slots Q (F0 m pc ls (.ref (ad k) :: rest)) :=
  va_getN hexec hb ht hin hown hK hw.1 k (by rw [TRX_at hk, he]) hc i hi hlink hsame hv hdg kk
theorem t_put (hexec : p.tables.exec = Jvm.exec) (hb : c.code = cc) (ht : ∀ w ∈ W0, w.before args s = true) {own ref C : String} {T : u_T} {N ci index i : Nat} (hin : ∀ w ∈ u_ws C T N, w ∈ W0) (ty0 : Nat → FieldType) (hty : ∀ k, k < N → parseFieldDescriptor (T k).2.2.1 = some (ty0 k)) (hnm : ∀ a, a < N → ∀ b, b < N → a ≠ b → (T a).2.1 ≠ (T b).2.1) (hown : s.vm.findClass own = some m.cls) (hK : TK D cI cM s) (hw : TW D ad cI cM s μ H locs) (hk : k < 59) {fs : List Value} (he : ent ad cI cM (μ k) k = .inr (ci, fs)) (hc : CL[ci]? = some (C, T, N)) (hi : i < N) (hlink : (Cond.fieldLink own index ref (T i).2.1 (T i).2.2.1).before args s = true) (hsame : ∀ x, s.fieldFound? (T i).1 (T i).2.1 (T i).2.2.1 = some x → s.fieldFound? ref (T i).2.1 (T i).2.2.1 = some x) (hfin : (T i).2.2.2 = false) {v : Int32} (hd : parseFieldDescriptor (T i).2.2.1 = some .int) (hl : i < fs.length) (he2 : ent ad cI cM (upd (μ k) i v) k = .inr (ci, fs.set i (.int v))) (hdg : decode cc pc = .ok (.putfield index, 3))
    (kk : ∀ (H1 : Heap) (locs1 : List Loc), TW D ad cI cM s (tms μ k i v) H1 locs1 → W p l e R s m args below meth c H1 locs1 cells slots Q (F0 m (pc + 3) ls rest)) : W p l e R s m args below meth c H locs cells slots Q (F0 m pc ls (.int v :: .ref (ad k) :: rest)) := by
  refine va_put hexec hb ht hin ty0 hty hnm hown hK hw.1 (hw.2.1.D (cI := cI) (cM := cM) (μ := μ)) hw.2.2 k (by rw [TRX_at hk, he]) hc i hi hlink hsame hfin hd rfl rfl hl hdg (fun H1 locs1 hP _ hS => ?_)
  rw [← he2, TRX_set hk] at hP
  exact kk H1 locs1 ⟨hP, hw.2.1, hS⟩
theorem t_putN (hexec : p.tables.exec = Jvm.exec) (hb : c.code = cc) (ht : ∀ w ∈ W0, w.before args s = true) {own ref C host : String} {T : u_T} {N ci index i : Nat} (hin : ∀ w ∈ u_ws C T N, w ∈ W0) (ty0 : Nat → FieldType) (hty : ∀ k, k < N → parseFieldDescriptor (T k).2.2.1 = some (ty0 k)) (hnm : ∀ a, a < N → ∀ b, b < N → a ≠ b → (T a).2.1 ≠ (T b).2.1) (hown : s.vm.findClass own = some m.cls) (hK : TK D cI cM s) (hw : TW D ad cI cM s μ H locs) (hk : k < 59) {fs : List Value} (he : ent ad cI cM (μ k) k = .inr (ci, fs)) (hc : CL[ci]? = some (C, T, N)) (hi : i < N) (hlink : (Cond.fieldLinkNest own index ref (T i).2.1 (T i).2.2.1 host).before args s = true) (hsame : ∀ x, s.fieldFound? (T i).1 (T i).2.1 (T i).2.2.1 = some x → s.fieldFound? ref (T i).2.1 (T i).2.2.1 = some x) (hfin : (T i).2.2.2 = false) {v : Int32} (hd : parseFieldDescriptor (T i).2.2.1 = some .int) (hl : i < fs.length) (he2 : ent ad cI cM (upd (μ k) i v) k = .inr (ci, fs.set i (.int v))) (hdg : decode cc pc = .ok (.putfield index, 3))
    (kk : ∀ (H1 : Heap) (locs1 : List Loc), TW D ad cI cM s (tms μ k i v) H1 locs1 → W p l e R s m args below meth c H1 locs1 cells slots Q (F0 m (pc + 3) ls rest)) : W p l e R s m args below meth c H locs cells slots Q (F0 m pc ls (.int v :: .ref (ad k) :: rest)) := by
  refine va_putN hexec hb ht hin ty0 hty hnm hown hK hw.1 (hw.2.1.D (cI := cI) (cM := cM) (μ := μ)) hw.2.2 k (by rw [TRX_at hk, he]) hc i hi hlink hsame hfin hd rfl rfl hl hdg (fun H1 locs1 hP _ hS => ?_)
  rw [← he2, TRX_set hk] at hP
  exact kk H1 locs1 ⟨hP, hw.2.1, hS⟩
theorem t_iald (hexec : p.tables.exec = Jvm.exec) (hb : c.code = cc) (hK : TK D cI cM s) (hw : TW D ad cI cM s μ H locs) (hk : kd k = 9) {i : Int32} (hin : vp_in i (tl k)) (hdg : decode cc pc = .ok (.iaload, 1))
    (kk : W p l e R s m args below meth c H locs cells slots Q (F0 m (pc + 1) ls (.int (μ k i.toNatClampNeg) :: rest))) : W p l e R s m args below meth c H locs cells slots Q (F0 m pc ls (.int i :: .ref (ad k) :: rest)) :=
  va_iald hexec hb hK hw.1 k 0 (by rw [TRX_at (kd_lt (by omega)), ent_9 hk]) rfl hin hdg kk
theorem t_iast (hexec : p.tables.exec = Jvm.exec) (hb : c.code = cc) (hK : TK D cI cM s) (hw : TW D ad cI cM s μ H locs) (hk : kd k = 9) {i x : Int32} (hin : vp_in i (tl k)) (hdg : decode cc pc = .ok (.iastore, 1))
    (kk : ∀ (H1 : Heap) (locs1 : List Loc), TW D ad cI cM s (tms μ k i.toNatClampNeg x) H1 locs1 → W p l e R s m args below meth c H1 locs1 cells slots Q (F0 m (pc + 1) ls rest)) : W p l e R s m args below meth c H locs cells slots Q (F0 m pc ls (.int x :: .int i :: .ref (ad k) :: rest)) := by
  have hk5 : k < 59 := kd_lt (by omega)
  refine va_iast hexec hb hK hw.1 (hw.2.1.D (cI := cI) (cM := cM) (μ := μ)) hw.2.2 k 0 (f := μ k) (by rw [TRX_at hk5, ent_9 hk]) rfl hin hdg (fun H1 locs1 hP _ hS => ?_)
  rw [← ent_9 (ad := ad) (cI := cI) (cM := cM) (f := upd (μ k) i.toNatClampNeg x) hk, TRX_set hk5] at hP
  exact kk H1 locs1 ⟨hP, hw.2.1, hS⟩
theorem t_alen (hexec : p.tables.exec = Jvm.exec) (hb : c.code = cc) (hK : TK D cI cM s) (hw : TW D ad cI cM s μ H locs) (hk : kd k = 9) (hdg : decode cc pc = .ok (.arraylength, 1))
    (kk : W p l e R s m args below meth c H locs cells slots Q (F0 m (pc + 1) ls (.int (nI (tl k)) :: rest))) : W p l e R s m args below meth c H locs cells slots Q (F0 m pc ls (.ref (ad k) :: rest)) :=
  va_alen hexec hb hK hw.1 k 0 (x := (tl k, .inl (μ k))) (by rw [TRX_at (kd_lt (by omega)), ent_9 hk]) rfl rfl hdg kk
theorem t_mlen (hexec : p.tables.exec = Jvm.exec) (hb : c.code = cc) (hK : TK D cI cM s) (hw : TW D ad cI cM s μ H locs) (hdg : decode cc pc = .ok (.arraylength, 1))
    (kk : W p l e R s m args below meth c H locs cells slots Q (F0 m (pc + 1) ls (.int 4 :: rest))) : W p l e R s m args below meth c H locs cells slots Q (F0 m pc ls (.ref (ad 1) :: rest)) :=
  va_alen hexec hb hK hw.1 1 1 (x := (4, .inr (.inr (.inr (.inr (fun j => some (ad (2 + 2 * j)))))))) (by rw [TRX_at (by decide), ent_10 rfl]) rfl rfl hdg kk
theorem t_ald (hexec : p.tables.exec = Jvm.exec) (hb : c.code = cc) (hK : TK D cI cM s) (hw : TW D ad cI cM s μ H locs) {i : Int32} (hin : vp_in i 4) (hdg : decode cc pc = .ok (.aaload, 1))
    (kk : W p l e R s m args below meth c H locs cells slots Q (F0 m (pc + 1) ls (.ref (ad (2 + 2 * i.toNatClampNeg)) :: rest))) : W p l e R s m args below meth c H locs cells slots Q (F0 m pc ls (.int i :: .ref (ad 1) :: rest)) :=
  va_aldq hexec hb hK hw.1 1 1 (f := fun j => some (ad (2 + 2 * j))) (by rw [TRX_at (by decide), ent_10 rfl]) rfl hin hdg kk
theorem TB.blind {as : List Value} {sz : Nat} : FrameBlind (va_Pc as (TB D ad cI cM sz μ)) := fun a U g mk q => by
  obtain ⟨q0, q1, qP, qK, qI, qN⟩ := q
  exact ⟨q0, q1, qP, va_K.moved (u := U) (U := U.calling g mk a) (Vm.Alike.refl U.vm) qK, qI, NW.same (s := U) rfl qN⟩
theorem TB.pre {as : List Value} (hK : TK D cI cM s) (hN : NW s) (hw : TW D ad cI cM s μ H locs) : ∀ U : State, U.heap = H → s.WarmedH U.vm → va_Pc as (TB D ad cI cM H.size μ) as.toArray U := fun U hU hW => ⟨rfl, by rw [hU], by rw [hU]; exact hw.1, va_K.moved hW.alike hK, hw.2.1, NW.warm hW hN⟩
theorem T_recv (hK : TK D cI cM s) (hw : TW D ad cI cM s μ H locs) (hk : k < 59) {fs : List Value} {ci : Nat} {q : vw_C} (he : ent ad cI cM (μ k) k = .inr (ci, fs)) (hc : CL[ci]? = some q) : ∃ cell : Cell, H[ad k]? = some cell ∧ cell.vm.isStatics = false ∧ s.vm.findClass q.1 = some cell.cls := va_recv hK hw.1 hc (q0 := k) (by rw [TRX_at hk, he])
theorem TA.up {sz1 sz2 : Nat} (h : sz1 ≤ sz2) : ∀ q, TA ad sz2 q → TA ad sz1 q := fun q h9 => h9.elim Or.inl (fun z => Or.inr (Nat.le_trans h z))
theorem T_calli {Q1 : Int32 → TMem → Prop} {st0 : List Value} {a : Array Value} (hw : TW D ad cI cM s μ H locs) (hr : va_Run p l e R s m args below meth c H locs cells slots 0 0 (F0 m pc ls st0) rest (va_Qi Q1 (TE D ad cI cM) (TA ad H.size) a) (TA ad H.size))
    (kk : ∀ (r : Int32) (μ1 : TMem) (H1 : Heap) (locs1 : List Loc), Q1 r μ1 → TW D ad cI cM s μ1 H1 locs1 → W p l e R s m args below meth c H1 locs1 cells slots Q (F0 m (pc + 3) ls (.int r :: rest))) : W p l e R s m args below meth c H locs cells slots Q (F0 m pc ls st0) :=
  va_calli hr hw.2.2 (fun q _ h => TA.up hw.2.2.1 q h) (fun q h => TA.up hw.2.2.1 q h) (fun r u t H1 locs1 ht _ hq hB _ _ hS => kk r u H1 locs1 hq ⟨by rw [← ht]; exact hB, hw.2.1, hS⟩)
theorem T_calll {Q1 : Int64 → TMem → Prop} {st0 : List Value} {a : Array Value} (hw : TW D ad cI cM s μ H locs) (hr : va_Run p l e R s m args below meth c H locs cells slots 0 0 (F0 m pc ls st0) rest (va_Ql Q1 (TE D ad cI cM) (TA ad H.size) a) (TA ad H.size))
    (kk : ∀ (r : Int64) (μ1 : TMem) (H1 : Heap) (locs1 : List Loc), Q1 r μ1 → TW D ad cI cM s μ1 H1 locs1 → W p l e R s m args below meth c H1 locs1 cells slots Q (F0 m (pc + 3) ls (.long r :: rest))) : W p l e R s m args below meth c H locs cells slots Q (F0 m pc ls st0) :=
  va_calll hr hw.2.2 (fun q _ h => TA.up hw.2.2.1 q h) (fun q h => TA.up hw.2.2.1 q h) (fun r u t H1 locs1 ht _ hq hB _ _ hS => kk r u H1 locs1 hq ⟨by rw [← ht]; exact hB, hw.2.1, hS⟩)
theorem T_callv {Q1 : TMem → Prop} {st0 : List Value} {a : Array Value} (hw : TW D ad cI cM s μ H locs) (hr : va_Run p l e R s m args below meth c H locs cells slots 0 0 (F0 m pc ls st0) rest (va_Qv Q1 (TE D ad cI cM) (TA ad H.size) a) (TA ad H.size))
    (kk : ∀ (μ1 : TMem) (H1 : Heap) (locs1 : List Loc), Q1 μ1 → TW D ad cI cM s μ1 H1 locs1 → W p l e R s m args below meth c H1 locs1 cells slots Q (F0 m (pc + 3) ls (rest))) : W p l e R s m args below meth c H locs cells slots Q (F0 m pc ls st0) :=
  va_callv hr hw.2.2 (fun q _ h => TA.up hw.2.2.1 q h) (fun q h => TA.up hw.2.2.1 q h) (fun u t H1 locs1 ht _ hq hB _ _ hS => kk u H1 locs1 hq ⟨by rw [← ht]; exact hB, hw.2.1, hS⟩)
theorem P_calli {Q1 : Int32 → Prop} {st0 : List Value} {a : Array Value} (hr : va_Run p l e R s m args below meth c H locs cells slots 0 0 (F0 m pc ls st0) rest (vp_Si Q1 a) (fun _ => False))
    (kk : ∀ r : Int32, Q1 r → W p l e R s m args below meth c H locs cells slots Q (F0 m (pc + 3) ls (.int r :: rest))) : W p l e R s m args below meth c H locs cells slots Q (F0 m pc ls st0) := by
  intro T hT X
  obtain ⟨v, st₀, t, T', L, h0, X', hL, e1, e2, ⟨r, hv, hp, hh⟩, st⟩ := hr T hT X
  cases hv
  obtain ⟨t2, a1, b1⟩ := kk r hp T' (by rw [e1, hh, h0]) (Stand.forget X' (fun q h => (hL q h).elim))
  exact ⟨t2, st t2 a1, b1⟩
end TLB
/-- contracts of the class's methods: over its whole tree -/
def TMi (l : Launch) (y : MethodName) (cd : Cond) (h : Nat) (as : List Value) (D : va_G) (ad : Nat → Nat) (cI cM : ClassId) (sz : Nat) (μ : TMem) (Q : Int32 → TMem → Prop) : Prop := Met l y (cd :: W0) (RM h) (va_Pc as (TB D ad cI cM sz μ)) (va_Qi Q (TE D ad cI cM) (TA ad sz)) 0 0 (TA ad sz)
def TMl (l : Launch) (y : MethodName) (cd : Cond) (h : Nat) (as : List Value) (D : va_G) (ad : Nat → Nat) (cI cM : ClassId) (sz : Nat) (μ : TMem) (Q : Int64 → TMem → Prop) : Prop := Met l y (cd :: W0) (RM h) (va_Pc as (TB D ad cI cM sz μ)) (va_Ql Q (TE D ad cI cM) (TA ad sz)) 0 0 (TA ad sz)
def TMv (l : Launch) (y : MethodName) (cd : Cond) (h : Nat) (as : List Value) (D : va_G) (ad : Nat → Nat) (cI cM : ClassId) (sz : Nat) (μ : TMem) (Q : TMem → Prop) : Prop := Met l y (cd :: W0) (RM h) (va_Pc as (TB D ad cI cM sz μ)) (va_Qv Q (TE D ad cI cM) (TA ad sz)) 0 0 (TA ad sz)
def PMi (l : Launch) (y : MethodName) (cd : Cond) (h : Nat) (as : List Value) (Q : Int32 → Prop) : Prop := Met l y (cd :: W0) (RM h) (va_Pc as (fun _ => True)) (vp_Si Q) 0 0 (fun _ => False)
theorem PM_blind {as : List Value} : FrameBlind (va_Pc as (fun _ => True)) := fun _ _ _ _ q => q
theorem PM_pre {as : List Value} {s : State} {H : Heap} : ∀ U : State, U.heap = H → s.WarmedH U.vm → va_Pc as (fun _ => True) as.toArray U := fun _ _ _ => ⟨rfl, trivial⟩
theorem T_meti {l : Launch} {y : MethodName} {bytes : ByteArray} {maxL : Nat} {ty : FieldType} {h : Nat} {as : List Value} {D : va_G} {ad : Nat → Nat} {cI cM : ClassId} {sz : Nat} {μ : TMem} {Q : Int32 → TMem → Prop} (hy : plainName y.cls = true) (hsl : (lg_sl as).length ≤ maxL)
    (body : ∀ (p : Program) (e : Env) (s : State) (m : MethodId) (below : List Frame) (meth : Method) (c : Code) (Z : State → Prop) (ls : Array Slot), p.tables.exec = Jvm.exec → c.code = bytes → c.maxLocals = maxL → s.vm.findClass y.cls = some m.cls → (∀ w ∈ W0, w.before as.toArray s = true) → NW s → TK D cI cM s → TW D ad cI cM s μ s.heap [] →
      (∀ (H : Heap) (locs : List Loc) (ls : Array Slot) (pc : Nat) (v : Int32) (μ1 : TMem), TW D ad cI cM s μ1 H locs → Q v μ1 → narrow ty (.int v) = .int v → decode bytes pc = .ok (.ireturn, 1) → W p l e (RM h) s m as.toArray below meth c H locs 0 0 Z (F0 m pc ls [.int v])) → lv_has ls maxL (lv_args 0 as) →
      W p l e (RM h) s m as.toArray below meth c s.heap [] 0 0 Z (F0 m 0 ls [])) : TMi l y (.code y bytes maxL (some ty)) h as D ad cI cM sz μ Q := by
  refine Met.ofW (cc := bytes) (maxL := maxL) (ret := (some ty)) hy rfl ?_
  intro p e s m args below meth c s₁ B hml hv
  obtain ⟨rfl, hsz, hP, hK, hI, hN⟩ := hv
  subst hsz
  have hts := atoms_spec B.pre
  have hlocks := B.notSynchronized
  rw [lg_entry_eq]
  refine body p e s m below meth c _ _ B.exec B.bytes hml (findClass_of_methodNamed B.named) (fun w hw => hts w (List.mem_cons_of_mem _ hw)) hN hK ⟨hP, hI, va_S.rf⟩ (fun H locs ls pc v μ1 hw hq hn hdg => ?_) (lv_entry as hsl)
  exact W.zret B.exec B.bytes B.returns hn (fun t ht9 hW => ⟨⟨v, μ1, rfl, hq, by rw [TE, ht9]; exact hw.1⟩, hw.2.2.F ht9⟩) hw.2.2.2.2 hdg hlocks
theorem T_metv {l : Launch} {y : MethodName} {bytes : ByteArray} {maxL : Nat} {h : Nat} {as : List Value} {D : va_G} {ad : Nat → Nat} {cI cM : ClassId} {sz : Nat} {μ : TMem} {Q : TMem → Prop} (hy : plainName y.cls = true) (hsl : (lg_sl as).length ≤ maxL)
    (body : ∀ (p : Program) (e : Env) (s : State) (m : MethodId) (below : List Frame) (meth : Method) (c : Code) (Z : State → Prop) (ls : Array Slot), p.tables.exec = Jvm.exec → c.code = bytes → c.maxLocals = maxL → s.vm.findClass y.cls = some m.cls → (∀ w ∈ W0, w.before as.toArray s = true) → NW s → TK D cI cM s → TW D ad cI cM s μ s.heap [] →
      (∀ (H : Heap) (locs : List Loc) (ls : Array Slot) (pc : Nat) (μ1 : TMem), TW D ad cI cM s μ1 H locs → Q μ1 → decode bytes pc = .ok (.return_, 1) → W p l e (RM h) s m as.toArray below meth c H locs 0 0 Z (F0 m pc ls [])) → lv_has ls maxL (lv_args 0 as) →
      W p l e (RM h) s m as.toArray below meth c s.heap [] 0 0 Z (F0 m 0 ls [])) : TMv l y (.code y bytes maxL none) h as D ad cI cM sz μ Q := by
  refine Met.ofW (cc := bytes) (maxL := maxL) (ret := none) hy rfl ?_
  intro p e s m args below meth c s₁ B hml hv
  obtain ⟨rfl, hsz, hP, hK, hI, hN⟩ := hv
  subst hsz
  have hts := atoms_spec B.pre
  have hlocks := B.notSynchronized
  rw [lg_entry_eq]
  refine body p e s m below meth c _ _ B.exec B.bytes hml (findClass_of_methodNamed B.named) (fun w hw => hts w (List.mem_cons_of_mem _ hw)) hN hK ⟨hP, hI, va_S.rf⟩ (fun H locs ls pc μ1 hw hq hdg => ?_) (lv_entry as hsl)
  exact W.vret B.exec B.bytes B.returns (fun t ht9 hW => ⟨⟨μ1, rfl, hq, by rw [TE, ht9]; exact hw.1⟩, hw.2.2.F ht9⟩) hw.2.2.2.2 hdg hlocks
theorem T_metl {l : Launch} {y : MethodName} {bytes : ByteArray} {maxL : Nat} {h : Nat} {as : List Value} {D : va_G} {ad : Nat → Nat} {cI cM : ClassId} {sz : Nat} {μ : TMem} {Q : Int64 → TMem → Prop} (hy : plainName y.cls = true) (hsl : (lg_sl as).length ≤ maxL)
    (body : ∀ (p : Program) (e : Env) (s : State) (m : MethodId) (below : List Frame) (meth : Method) (c : Code) (Z : State → Prop) (ls : Array Slot), p.tables.exec = Jvm.exec → c.code = bytes → c.maxLocals = maxL → s.vm.findClass y.cls = some m.cls → (∀ w ∈ W0, w.before as.toArray s = true) → NW s → TK D cI cM s → TW D ad cI cM s μ s.heap [] →
      (∀ (H : Heap) (locs : List Loc) (ls : Array Slot) (pc : Nat) (v : Int64) (μ1 : TMem), TW D ad cI cM s μ1 H locs → Q v μ1 → decode bytes pc = .ok (.lreturn, 1) → W p l e (RM h) s m as.toArray below meth c H locs 0 0 Z (F0 m pc ls [.long v])) → lv_has ls maxL (lv_args 0 as) →
      W p l e (RM h) s m as.toArray below meth c s.heap [] 0 0 Z (F0 m 0 ls [])) : TMl l y (.code y bytes maxL (some .long)) h as D ad cI cM sz μ Q := by
  refine Met.ofW (cc := bytes) (maxL := maxL) (ret := (some .long)) hy rfl ?_
  intro p e s m args below meth c s₁ B hml hv
  obtain ⟨rfl, hsz, hP, hK, hI, hN⟩ := hv
  subst hsz
  have hts := atoms_spec B.pre
  have hlocks := B.notSynchronized
  rw [lg_entry_eq]
  refine body p e s m below meth c _ _ B.exec B.bytes hml (findClass_of_methodNamed B.named) (fun w hw => hts w (List.mem_cons_of_mem _ hw)) hN hK ⟨hP, hI, va_S.rf⟩ (fun H locs ls pc v μ1 hw hq hdg => ?_) (lv_entry as hsl)
  exact W.lret B.exec B.bytes B.returns (fun t ht9 hW => ⟨⟨v, μ1, rfl, hq, by rw [TE, ht9]; exact hw.1⟩, hw.2.2.F ht9⟩) hw.2.2.2.2 hdg hlocks
theorem P_meti {l : Launch} {y : MethodName} {bytes : ByteArray} {maxL : Nat} {ty : FieldType} {h : Nat} {as : List Value} {Q : Int32 → Prop} (hy : plainName y.cls = true) (hsl : (lg_sl as).length ≤ maxL)
    (body : ∀ (p : Program) (e : Env) (s : State) (m : MethodId) (below : List Frame) (meth : Method) (c : Code) (Z : State → Prop) (ls : Array Slot), p.tables.exec = Jvm.exec → c.code = bytes → c.maxLocals = maxL → s.vm.findClass y.cls = some m.cls → (∀ w ∈ W0, w.before as.toArray s = true) →
      (∀ (ls : Array Slot) (pc : Nat) (v : Int32), Q v → narrow ty (.int v) = .int v → decode bytes pc = .ok (.ireturn, 1) → W p l e (RM h) s m as.toArray below meth c s.heap [] 0 0 Z (F0 m pc ls [.int v])) → lv_has ls maxL (lv_args 0 as) →
      W p l e (RM h) s m as.toArray below meth c s.heap [] 0 0 Z (F0 m 0 ls [])) : PMi l y (.code y bytes maxL (some ty)) h as Q := by
  refine Met.ofW (cc := bytes) (maxL := maxL) (ret := some ty) hy rfl ?_
  intro p e s m args below meth c s₁ B hml hv
  obtain ⟨rfl, -⟩ := hv
  have hts := atoms_spec B.pre
  have hlocks := B.notSynchronized
  rw [lg_entry_eq]
  refine body p e s m below meth c _ _ B.exec B.bytes hml (findClass_of_methodNamed B.named) (fun w hw => hts w (List.mem_cons_of_mem _ hw)) (fun ls pc v hq hn hdg => ?_) (lv_entry as hsl)
  exact W.zret B.exec B.bytes B.returns hn (fun t ht9 hW => ⟨v, rfl, hq, ht9⟩) (fun _ h => nomatch h) hdg hlocks
