section JLB
def JK (D : va_G) (cB : ClassId) (U : State) : Prop := va_K D CL [(cB, .byte)] U
def PVl : List MethodName := [yJ5_ensureCapacityInternal_d00df, yJ5_newCapacity_0f7a4, yJ5_putStringAt_47b60, yJ5_inflateIfNeededFor_a7421]
/-- what is said of classes that isn't among the words that go on by themselves -/
def CN (U : State) : Prop := va_Nw (.castable "[B" "java/lang/Cloneable") U ∧ ∀ y ∈ PVl, va_Nw (.selects RJ4 y y) U
theorem CN.same {u U : State} (e : u.vm = U.vm) (h : CN u) : CN U := ⟨va_Nw.same rfl e h.1, fun y hy => va_Nw.same rfl e (h.2 y hy)⟩
theorem CN.warm {s U : State} (hW : s.WarmedH U.vm) (h : CN s) : CN U := ⟨va_Nw.warmC hW h.1, fun y hy => word_at hW (Or.inl rfl) (h.2 y hy)⟩
theorem sel_priv {C0 : String} {y : MethodName} {s : State} {args : Array Value} {n : Nat} (hy : y.cls ≠ "java/lang/invoke/MethodHandle" ∧ y.cls ≠ "java/lang/invoke/VarHandle") (hins : (Cond.instantiable C0 n).before args s = true) (hpriv : (Cond.privateMethod y).before args s = true) (hinst : (Cond.instanceMethod y).before args s = true) (hsame : (Cond.sameMethod y.cls y.cls y.name y.desc).before args s = true) : (Cond.selects C0 y y).before args s = true := by
  obtain ⟨c, k, hc, -⟩ := Cond.instantiable_spec hins
  obtain ⟨mk, methM, hnamed, hmethM, -, -⟩ := Cond.instanceMethod_spec hinst
  have hfound : s.methodFound? y.cls y.name y.desc = some mk := State.methodFound?_of_named hnamed hy
  obtain ⟨-, k2, hk2, hni⟩ := Cond.sameMethod_spec (findClass_of_methodNamed hnamed) hfound hsame
  have hsel : selectMethod {} s.vm c mk = .method mk := selectMethod_private hmethM (Cond.privateMethod_at hpriv mk methM hnamed hmethM)
  simp only [Cond.before, Cond.holds, Cond.value, hc, hfound, hnamed, hsel, hk2]
  simp
  exact hni
theorem cwUP {R : Room} {s : State} {args : Array Value} {own C0 : String} {index maxL mc ms : Nat} {y : MethodName} {bytes : ByteArray} {ret : Option FieldType} {rm : Room} (n : Nat) (ht : ∀ w ∈ W0, w.before args s = true) (h1 : Cond.methodLink own index y ∈ W0) (h2 : Cond.sameMethod y.cls y.cls y.name y.desc ∈ W0) (h4 : Cond.instanceMethod y ∈ W0) (h6 : Cond.initialized y.cls ∈ W0) (h5 : Cond.code y bytes maxL ret ∈ W0) (hsel : (Cond.selects C0 y y).before args s = true) (hrc : rm.cells = mc) (hrs : rm.slots = ms)
    (hd : y.cls ≠ "java/lang/invoke/MethodHandle" ∧ y.cls ≠ "java/lang/invoke/VarHandle" ∧ (parseMethodDescriptor y.desc).map (fun d => d.parameters.length) = some n) (hR : rm.frames + 1 ≤ R.frames ∧ 8 + (maxL + 11) + rm.locals ≤ R.locals) : va_CU R s args own C0 y.cls index y y bytes maxL ret (Cond.code y bytes maxL ret :: W0) rm mc ms n := by
  refine ⟨⟨hrc, hrs, hR.1, hR.2, pay_in ht (G_ws h5), List.mem_cons_self⟩, ht _ h5, ht _ h6, ⟨hd.1, hd.2.1⟩, fun sig h => ?_, ht _ h1, ht _ h2, va_Decl.of (ht _ h4) (ht _ h5), hsel, ht _ h4⟩
  have h2 := hd.2.2
  rw [h] at h2
  exact (Option.some.inj h2).symm
theorem CN.of {args : Array Value} {s : State} (h : ∀ w ∈ lw_tbl, w.before args s = true) : CN s := ⟨va_Nw.of rfl (h _ (tb_4 (List.mem_of_getElem? (i := 192) rfl))), List.forall_mem_cons.mpr ⟨va_Nw.of rfl (sel_priv (n := 4) ⟨by decide, by decide⟩ (h _ (tb_4 (List.mem_of_getElem? (i := 128) rfl))) (h _ (tb_4 (List.mem_of_getElem? (i := 166) rfl))) (h _ (tb_4 (List.mem_of_getElem? (i := 167) rfl))) (h _ (tb_7 (List.mem_of_getElem? (i := 127) rfl)))), List.forall_mem_cons.mpr ⟨va_Nw.of rfl (sel_priv (n := 4) ⟨by decide, by decide⟩ (h _ (tb_4 (List.mem_of_getElem? (i := 128) rfl))) (h _ (tb_4 (List.mem_of_getElem? (i := 170) rfl))) (h _ (tb_4 (List.mem_of_getElem? (i := 171) rfl))) (h _ (tb_7 (List.mem_of_getElem? (i := 128) rfl)))), List.forall_mem_cons.mpr ⟨va_Nw.of rfl (sel_priv (n := 4) ⟨by decide, by decide⟩ (h _ (tb_4 (List.mem_of_getElem? (i := 128) rfl))) (h _ (tb_5 (List.mem_of_getElem? (i := 113) rfl))) (h _ (tb_5 (List.mem_of_getElem? (i := 114) rfl))) (h _ (tb_7 (List.mem_of_getElem? (i := 133) rfl)))), List.forall_mem_cons.mpr ⟨va_Nw.of rfl (sel_priv (n := 4) ⟨by decide, by decide⟩ (h _ (tb_4 (List.mem_of_getElem? (i := 128) rfl))) (h _ (tb_5 (List.mem_of_getElem? (i := 117) rfl))) (h _ (tb_5 (List.mem_of_getElem? (i := 118) rfl))) (h _ (tb_7 (List.mem_of_getElem? (i := 134) rfl)))), fun _ h => nomatch h⟩⟩⟩⟩⟩
def FT (f : Nat → Int32) : Prop := ∀ j, fits .byte (.int (f j)) = true
/-- the statics that texts read -/
def ZS (A : Nat → Prop) (U : State) (H : Heap) : Prop := va_Z "java/lang/String" "COMPACT_STRINGS" "Z" (.int 1) A U H ∧ (∃ (a : Nat) (f : Nat → Int32), va_Z "java/lang/Integer" "DigitOnes" "[B" (.ref a) A U H ∧ va_T .byte a 100 (fun j => .int (f j)) A U H) ∧ ∃ (a : Nat) (f : Nat → Int32), va_Z "java/lang/Integer" "DigitTens" "[B" (.ref a) A U H ∧ va_T .byte a 100 (fun j => .int (f j)) A U H
/-- a text of w letters at a, its letters at b -/
def SO (a b w : Nat) (A : Nat → Prop) (U : State) (H : Heap) : Prop := va_O "java/lang/String" a A U H ∧ va_OF "java/lang/String" "coder" "B" (.int 0) a A U H ∧ va_OF "java/lang/String" "value" "[B" (.ref b) a A U H ∧ ∃ f, FT f ∧ va_T .byte b w (fun j => .int (f j)) A U H
theorem ZS.moved {A : Nat → Prop} {u U : State} {H : Heap} (hvm : u.vm.Alike U.vm) (h : ZS A u H) : ZS A U H := by
  obtain ⟨h1, ⟨a, f, h2, h3⟩, b, g, h4, h5⟩ := h
  exact ⟨h1.moved hvm, ⟨a, f, h2.moved hvm, h3.moved hvm⟩, b, g, h4.moved hvm, h5.moved hvm⟩
theorem ZS.kept {A : Nat → Prop} {U : State} {H H1 : Heap} (h : ZS A U H) (hq : ∀ a : Nat, a < H.size → ¬ A a → H1[a]? = H[a]?) : ZS A U H1 := by
  obtain ⟨h1, ⟨a, f, h2, h3⟩, b, g, h4, h5⟩ := h
  exact ⟨h1.kept hq, ⟨a, f, h2.kept hq, h3.kept hq⟩, b, g, h4.kept hq, h5.kept hq⟩
theorem ZS.narrow {A B : Nat → Prop} {U : State} {H : Heap} (h : ZS A U H) (hAB : ∀ q, B q → A q) : ZS B U H := by
  obtain ⟨h1, ⟨a, f, h2, h3⟩, b, g, h4, h5⟩ := h
  exact ⟨h1.narrow hAB, ⟨a, f, h2.narrow hAB, h3.narrow hAB⟩, b, g, h4.narrow hAB, h5.narrow hAB⟩
theorem SO.moved {a b w : Nat} {A : Nat → Prop} {u U : State} {H : Heap} (hvm : u.vm.Alike U.vm) (h : SO a b w A u H) : SO a b w A U H := by
  obtain ⟨h1, h2, h3, f, h4, h5⟩ := h
  exact ⟨va_O.moved hvm h1, va_OF.moved hvm h2, va_OF.moved hvm h3, f, h4, h5.moved hvm⟩
theorem SO.kept {a b w : Nat} {A : Nat → Prop} {U : State} {H H1 : Heap} (h : SO a b w A U H) (hq : ∀ a : Nat, a < H.size → ¬ A a → H1[a]? = H[a]?) : SO a b w A U H1 := by
  obtain ⟨h1, h2, h3, f, h4, h5⟩ := h
  exact ⟨h1.kept hq, h2.kept hq, h3.kept hq, f, h4, h5.kept hq⟩
theorem SO.narrow {a b w : Nat} {A B : Nat → Prop} {U : State} {H : Heap} (h : SO a b w A U H) (hAB : ∀ q, B q → A q) : SO a b w B U H := by
  obtain ⟨h1, h2, h3, f, h4, h5⟩ := h
  exact ⟨h1.narrow hAB, h2.narrow hAB, h3.narrow hAB, f, h4, h5.narrow hAB⟩
abbrev bC (b v n : Nat) : Nat × va_E := (b, .inr (11, [.ref v, .int 0, .int 0, .int (nI n)]))
abbrev bV (cB : ClassId) (v m : Nat) (f : Nat → Int32) : Nat × va_E := (v, .inl (cB, m, .inl f))
abbrev sC (a v : Nat) : Nat × va_E := (a, .inr (12, [.ref v, .int 0, .int 0, .int 0]))
def gr (q m : Nat) : Nat := if q ≤ m then 0 else 1
def cap (q m : Nat) : Nat := if q ≤ m then m else if q < 2 * m + 2 then 2 * m + 2 else q
def gs (q m : Nat) : Nat := if q ≤ m then 0 else cap q m
theorem cap_le {q m : Nat} (h : q ≤ m) : cap q m = m := if_pos h
theorem cap_ge (q m : Nat) : q ≤ cap q m ∧ m ≤ cap q m := by
  unfold cap
  split <;> first | omega | (split <;> omega)
theorem cap_hi (q m : Nat) : cap q m ≤ m + m + q + 2 := by
  unfold cap
  split <;> first | omega | (split <;> omega)
theorem grs {q m : Nat} (h : ¬ q ≤ m) : gr q m = 1 ∧ gs q m = cap q m := ⟨if_neg h, if_neg h⟩
theorem gr0 {q m : Nat} (h : q ≤ m) : gr q m = 0 ∧ gs q m = 0 := ⟨if_pos h, if_pos h⟩
/-- what is made, told by what there is then: m grows by more than itself -/
theorem gr_pot (q m : Nat) : gr q m + m ≤ cap q m ∧ gs q m + 2 * m ≤ 2 * cap q m := by
  unfold gr gs cap
  split <;> first | omega | (split <;> omega)
theorem FT0 : FT (fun _ => 0) := fun _ => rfl
theorem FT.st {f : Nat → Int32} {k : Nat} {x : Int32} (h : FT f) (hx : fits .byte (.int x) = true) : FT (upd f k x) := fun j => by
  by_cases e : j = k
  · rw [e, upd_at]
    exact hx
  · rw [upd_ne e]
    exact h j
theorem FT.cpy {f g : Nat → Int32} {sp dp n : Nat} (hf : FT f) (hg : FT g) : FT (va_cpy f g sp dp n) := fun j => by
  unfold va_cpy
  split
  · exact hf _
  · exact hg _
def JB (D : va_G) (cB : ClassId) (ws : va_W) (SL : List (Nat × Nat × Nat)) (sz : Nat) : State → Prop := fun U => U.heap.size = sz ∧ va_P D CL ws U.heap ∧ va_D (va_A ws sz) ws ∧ JK D cB U ∧ CN U ∧ ZS (va_A ws sz) U U.heap ∧ ∀ x ∈ SL, SO x.1 x.2.1 x.2.2 (va_A ws sz) U U.heap
def JMv {S : Type} (l : Launch) (y : MethodName) (cd : Cond) (h c n : Nat) (as : List Value) (D : va_G) (cB : ClassId) (ws : va_W) (SL : List (Nat × Nat × Nat)) (sz : Nat) (P : S → Prop) (L : S → va_W) : Prop := Met l y (cd :: W0) (RA h c n) (va_Pc as (JB D cB ws SL sz)) (va_Qv P (fun u t => va_P D CL (L u) t.heap ∧ va_D (va_A ws sz) (L u)) (va_A ws sz)) c n (va_A ws sz)
def JMi {S : Type} (l : Launch) (y : MethodName) (cd : Cond) (h c n : Nat) (as : List Value) (D : va_G) (cB : ClassId) (ws : va_W) (SL : List (Nat × Nat × Nat)) (sz : Nat) (P : Int32 → S → Prop) (L : S → va_W) : Prop := Met l y (cd :: W0) (RA h c n) (va_Pc as (JB D cB ws SL sz)) (va_Qi P (fun u t => va_P D CL (L u) t.heap ∧ va_D (va_A ws sz) (L u)) (va_A ws sz)) c n (va_A ws sz)
def JMr {S : Type} (l : Launch) (y : MethodName) (cd : Cond) (h c n : Nat) (as : List Value) (D : va_G) (cB : ClassId) (ws : va_W) (SL : List (Nat × Nat × Nat)) (sz : Nat) (P : S → Prop) (ra : S → Nat) (L : S → va_W) : Prop := Met l y (cd :: W0) (RA h c n) (va_Pc as (JB D cB ws SL sz)) (va_Qr P (fun u a t => a = ra u ∧ va_P D CL (L u) t.heap ∧ va_D (va_A ws sz) (L u)) (va_A ws sz)) c n (va_A ws sz)
variable {p : Program} {l : Launch} {e : Env} {R : Room} {s : State} {m : MethodId} {args : Array Value} {below : List Frame} {meth : Method} {c : Code} {H : Heap} {locs : List Loc} {cells slots : Nat} {Q : State → Prop}
variable {cc : ByteArray} {pc : Nat} {ls : Array Slot} {rest : List Value} {D : va_G} {cB : ClassId} {RG N N0 ws : va_W} {SL : List (Nat × Nat × Nat)} {A : Nat → Prop}
theorem JB.blind {as : List Value} {sz : Nat} : FrameBlind (va_Pc as (JB D cB ws SL sz)) := fun z U g mk q => by
  obtain ⟨q0, q1, q2, q3, q4, qC, q5, q6⟩ := q
  exact ⟨q0, q1, q2, q3, va_K.moved (u := U) (U := U.calling g mk z) (Vm.Alike.refl U.vm) q4, CN.same (u := U) rfl qC, ZS.moved (u := U) (U := U.calling g mk z) (Vm.Alike.refl U.vm) q5, fun x hx => SO.moved (u := U) (U := U.calling g mk z) (Vm.Alike.refl U.vm) (q6 x hx)⟩
theorem MW.at2 (hw : MW D RG (N0 ++ ws) A s H locs) : va_P D CL ws H := fun k q hk => hw.1 _ q (NAT (RG := RG) (by rw [List.getElem?_append_right (Nat.le_add_right N0.length k), Nat.add_sub_cancel_left]; exact hk))
theorem MW.d2 (hw : MW D RG (N0 ++ ws) A s H locs) : va_D A ws := ⟨fun i j x y hx hy e => by
    have := hw.2.1.1 _ _ x y (NAT (RG := RG) (N := N0 ++ ws) (j := N0.length + i) (by rw [List.getElem?_append_right (Nat.le_add_right _ _), Nat.add_sub_cancel_left]; exact hx)) (NAT (RG := RG) (N := N0 ++ ws) (j := N0.length + j) (by rw [List.getElem?_append_right (Nat.le_add_right _ _), Nat.add_sub_cancel_left]; exact hy)) e
    omega, fun k q hk => hw.2.1.2 _ q (NAT (RG := RG) (N := N0 ++ ws) (j := N0.length + k) (by rw [List.getElem?_append_right (Nat.le_add_right _ _), Nat.add_sub_cancel_left]; exact hk))⟩
theorem MW.cA (hw : MW D RG (N0 ++ ws) A s H locs) : ∀ q, va_A ws H.size q → A q := fun q h => by
  rcases h with ⟨k, e, h⟩ | h
  · exact hw.d2.2 k _ h
  · exact hw.2.2.2 q (Nat.le_trans hw.2.2.1.1 h)
theorem MW.repl (hw : MW D RG (N0 ++ ws) A s H locs) {ws1 : va_W} {H1 : Heap} {locs1 : List Loc} (hk : ∀ q : Nat, q < H.size → ¬ va_A ws H.size q → H1[q]? = H[q]?) (hP : va_P D CL ws1 H1) (hD : va_D (va_A ws H.size) ws1) (hS : va_S A s.heap H1 locs1) : MW D RG (N0 ++ ws1) A s H1 locs1 := by
  have hP0 : va_P D CL ((RG ++ N0) ++ ws) H := by rw [List.append_assoc]; exact hw.1
  have hD0 : va_D A ((RG ++ N0) ++ ws) := by rw [List.append_assoc]; exact hw.2.1
  have left : ∀ (k : Nat) (q : Nat × va_E), (RG ++ N0)[k]? = some q → ((RG ++ N0) ++ ws)[k]? = some q := fun k q hq => by rw [List.getElem?_append_left (List.getElem?_eq_some_iff.mp hq).1]; exact hq
  have right : ∀ (k : Nat) (q : Nat × va_E), ws[k]? = some q → ((RG ++ N0) ++ ws)[(RG ++ N0).length + k]? = some q := fun k q hq => by rw [List.getElem?_append_right (Nat.le_add_right _ _), Nat.add_sub_cancel_left]; exact hq
  have out : ∀ (k : Nat) (q : Nat × va_E), (RG ++ N0)[k]? = some q → q.1 < H.size ∧ ¬ va_A ws H.size q.1 := fun k q hq => by
    have hl := (hP0 k q (left k q hq)).lt
    refine ⟨hl, fun z => ?_⟩
    rcases z with ⟨k2, e2, h2⟩ | z
    · have := hD0.1 k _ q (q.1, e2) (left k q hq) (right k2 _ h2) rfl
      have := (List.getElem?_eq_some_iff.mp hq).1
      omega
    · omega
  refine ⟨?_, ?_, hS, hw.2.2.2⟩
  · rw [← List.append_assoc]
    exact va_P.app (fun k q hq => (hP0 k q (left k q hq)).kept (hk q.1 (out k q hq).1 (out k q hq).2)) hP
  · rw [← List.append_assoc]
    refine va_D.app ⟨fun i j x y hx hy e => hD0.1 i j x y (left i x hx) (left j y hy) e, fun k q hq => hD0.2 k q (left k q hq)⟩ ⟨hD.1, fun k q hq => hw.cA _ (hD.2 k q hq)⟩ (fun i j x y hx hy e => ?_)
    exact (out i x hx).2 (by rw [e]; exact hD.2 j y hy)
theorem JB.pre {as : List Value} (hK : JK D cB s) (hC : CN s) (hZ : ZS A s s.heap) (hw : MW D RG (N0 ++ ws) A s H locs) (hSL : ∀ U : State, U.heap = H → s.WarmedH U.vm → ∀ x ∈ SL, SO x.1 x.2.1 x.2.2 (va_A ws H.size) U H) : ∀ U : State, U.heap = H → s.WarmedH U.vm → va_Pc as (JB D cB ws SL H.size) as.toArray U := fun U hU hW => by
  refine ⟨rfl, by rw [hU], by rw [hU]; exact hw.at2, ⟨hw.d2.1, fun k q hk => Or.inl ⟨k, q.2, hk⟩⟩, va_K.moved hW.alike hK, hC.warm hW, ?_, fun x hx => by rw [hU]; exact hSL U hU hW x hx⟩
  rw [hU]
  exact ((hZ.kept hw.2.2.1.2.1).moved hW.alike).narrow hw.cA
/-- a text that was there before -/
theorem SO.pass {a b w : Nat} (h : SO a b w A s s.heap) (hw : MW D RG (N0 ++ ws) A s H locs) : ∀ U : State, U.heap = H → s.WarmedH U.vm → SO a b w (va_A ws H.size) U H := fun U _ hW => ((h.kept hw.2.2.1.2.1).moved hW.alike).narrow hw.cA
theorem SL0 : ∀ U : State, U.heap = H → s.WarmedH U.vm → ∀ x ∈ ([] : List (Nat × Nat × Nat)), SO x.1 x.2.1 x.2.2 (va_A ws H.size) U H := fun _ _ _ _ h => nomatch h
theorem SL1 {a b w : Nat} (h : ∀ U : State, U.heap = H → s.WarmedH U.vm → SO a b w (va_A ws H.size) U H) : ∀ U : State, U.heap = H → s.WarmedH U.vm → ∀ x ∈ [(a, b, w)], SO x.1 x.2.1 x.2.2 (va_A ws H.size) U H := fun U h1 h2 x hx => by
  rw [List.mem_singleton] at hx
  subst hx
  exact h U h1 h2
theorem J_callv {S : Type} {mc ms : Nat} {st0 : List Value} {ar : Array Value} {P : S → Prop} {L : S → va_W} (hw : MW D RG (N0 ++ ws) A s H locs) (hr : va_Run p l e R s m args below meth c H locs cells slots mc ms (F0 m pc ls st0) rest (va_Qv P (fun u t => va_P D CL (L u) t.heap ∧ va_D (va_A ws H.size) (L u)) (va_A ws H.size) ar) (va_A ws H.size))
    (kk : ∀ (u : S) (H1 : Heap) (locs1 : List Loc), P u → MW D RG (N0 ++ L u) A s H1 locs1 → W p l e R s m args below meth c H1 locs1 (cells + mc) (slots + ms) Q (F0 m (pc + 3) ls rest)) : W p l e R s m args below meth c H locs cells slots Q (F0 m pc ls st0) :=
  va_callv hr hw.2.2.1 (fun q _ h => hw.cA q h) hw.cA (fun u t H1 locs1 ht _ hq hB _ hk hS => kk u H1 locs1 hq (hw.repl hk (by rw [← ht]; exact hB.1) hB.2 hS))
theorem J_calli {S : Type} {mc ms : Nat} {st0 : List Value} {ar : Array Value} {P : Int32 → S → Prop} {L : S → va_W} (hw : MW D RG (N0 ++ ws) A s H locs) (hr : va_Run p l e R s m args below meth c H locs cells slots mc ms (F0 m pc ls st0) rest (va_Qi P (fun u t => va_P D CL (L u) t.heap ∧ va_D (va_A ws H.size) (L u)) (va_A ws H.size) ar) (va_A ws H.size))
    (kk : ∀ (r : Int32) (u : S) (H1 : Heap) (locs1 : List Loc), P r u → MW D RG (N0 ++ L u) A s H1 locs1 → W p l e R s m args below meth c H1 locs1 (cells + mc) (slots + ms) Q (F0 m (pc + 3) ls (.int r :: rest))) : W p l e R s m args below meth c H locs cells slots Q (F0 m pc ls st0) :=
  va_calli hr hw.2.2.1 (fun q _ h => hw.cA q h) hw.cA (fun r u t H1 locs1 ht _ hq hB _ hk hS => kk r u H1 locs1 hq (hw.repl hk (by rw [← ht]; exact hB.1) hB.2 hS))
theorem J_callr {S : Type} {mc ms : Nat} {st0 : List Value} {ar : Array Value} {P : S → Prop} {ra : S → Nat} {L : S → va_W} (hw : MW D RG (N0 ++ ws) A s H locs) (hr : va_Run p l e R s m args below meth c H locs cells slots mc ms (F0 m pc ls st0) rest (va_Qr P (fun u a t => a = ra u ∧ va_P D CL (L u) t.heap ∧ va_D (va_A ws H.size) (L u)) (va_A ws H.size) ar) (va_A ws H.size))
    (kk : ∀ (u : S) (H1 : Heap) (locs1 : List Loc), P u → MW D RG (N0 ++ L u) A s H1 locs1 → W p l e R s m args below meth c H1 locs1 (cells + mc) (slots + ms) Q (F0 m (pc + 3) ls (.ref (ra u) :: rest))) : W p l e R s m args below meth c H locs cells slots Q (F0 m pc ls st0) :=
  va_callr hr hw.2.2.1 (fun q _ h => hw.cA q h) hw.cA (fun u a t H1 locs1 ht _ hq hB _ hk hS => by
    obtain ⟨rfl, hB1, hB2⟩ := hB
    exact kk u H1 locs1 hq (hw.repl hk (by rw [← ht]; exact hB1) hB2 hS))
theorem J_recv (hK : JK D cB s) (hw : MW D RG N A s H locs) {j a ci : Nat} {fs : List Value} {q : vw_C} (he : N[j]? = some (a, .inr (ci, fs))) (hc : CL[ci]? = some q) : ∃ cell : Cell, H[a]? = some cell ∧ cell.vm.isStatics = false ∧ s.vm.findClass q.1 = some cell.cls := va_recv hK hw.1 hc (q0 := RG.length + j) (NAT he)
theorem SO.recv {a b w : Nat} (h : SO a b w A s s.heap) (hS : va_S A s.heap H locs) : ∃ cell : Cell, H[a]? = some cell ∧ cell.vm.isStatics = false ∧ s.vm.findClass "java/lang/String" = some cell.cls := by
  obtain ⟨cell, h1, h2, h3, -⟩ := h.1.kept hS.2.1
  exact ⟨cell, h1, h2, h3⟩
theorem n_newB {B : Nat} (hx : p.tables.exec = Jvm.exec) (hb : c.code = cc) (ht : ∀ w ∈ W0, w.before args s = true) (hq : Cond.arrayClass .byte ∈ W0) (hK : JK D cB s) (hw : MW D RG N A s H locs) {n : Int32} (hn : ¬ n < 0 ∧ n.toNatClampNeg = B) (hB : B ≤ 1000000) (hcells : cells + 1 ≤ R.cells) (hslots : slots + B ≤ R.slots) (hdg : decode cc pc = .ok (.newarray .byte, 2))
    (kk : ∀ (q : Nat) (H1 : Heap), s.heap.size ≤ q → MW D RG (N ++ [bV cB q B (fun _ => 0)]) A s H1 locs → W p l e R s m args below meth c H1 locs (cells + 1) (slots + B) Q (F0 m (pc + 2) ls (.ref q :: rest))) : W p l e R s m args below meth c H locs cells slots Q (F0 m pc ls (.int n :: rest)) := by
  obtain ⟨hn0, rfl⟩ := hn
  refine va_newaK (atype := .byte) hx hb (ht _ hq) rfl hdg rfl hn0 rfl (Nat.le_trans (Nat.mul_le_mul_right _ hB) (Nat.le_of_ble_eq_true rfl)) hcells hslots rfl (fun H1 cA e0 z1 o1 _ hNm => ?_)
  have e1 : cA = cB := Option.some.inj (hNm.symm.trans (hK.2 0 _ rfl).2)
  subst e1
  refine kk H.size H1 hw.2.2.1.1 (MW.push (H0 := H) ⟨hw.1.kept (fun k q hk => o1 q.1 (hw.lt k q hk)), hw.2.1, ⟨Nat.le_trans hw.2.2.1.1 (by omega), fun x h1 h2 => (o1 x (Nat.lt_of_lt_of_le h1 hw.2.2.1.1)).trans (hw.2.2.1.2.1 x h1 h2), hw.2.2.1.2.2⟩, hw.2.2.2⟩ ?_ (Nat.le_refl _) hw.lt hw.2.2.1.1)
  exact e0
theorem J_metv {S : Type} {l : Launch} {y : MethodName} {bytes : ByteArray} {maxL : Nat} {h fc fn : Nat} {as : List Value} {D : va_G} {cB : ClassId} {ws : va_W} {SL : List (Nat × Nat × Nat)} {sz : Nat} {P : S → Prop} {L : S → va_W} (hy : plainName y.cls = true) (hsl : (lg_sl as).length ≤ maxL)
    (body : ∀ (p : Program) (e : Env) (s : State) (m : MethodId) (below : List Frame) (meth : Method) (c : Code) (Z : State → Prop) (ls : Array Slot), p.tables.exec = Jvm.exec → c.code = bytes → c.maxLocals = maxL → s.vm.findClass y.cls = some m.cls → meth.name = y.name → (∀ w ∈ W0, w.before as.toArray s = true) → JK D cB s → CN s → ZS (va_A ws s.heap.size) s s.heap → (∀ x ∈ SL, SO x.1 x.2.1 x.2.2 (va_A ws s.heap.size) s s.heap) → MW D [] ws (va_A ws s.heap.size) s s.heap [] →
      (∀ (H : Heap) (locs : List Loc) (ls : Array Slot) (pc cells slots : Nat) (u : S), MW D [] (L u) (va_A ws s.heap.size) s H locs → P u → cells ≤ fc → slots ≤ fn → decode bytes pc = .ok (.return_, 1) → W p l e (RA h fc fn) s m as.toArray below meth c H locs cells slots Z (F0 m pc ls [])) → lv_has ls maxL (lv_args 0 as) →
      W p l e (RA h fc fn) s m as.toArray below meth c s.heap [] 0 0 Z (F0 m 0 ls [])) : JMv l y (.code y bytes maxL none) h fc fn as D cB ws SL sz P L := by
  refine Met.ofW (cc := bytes) (maxL := maxL) (ret := none) hy rfl ?_
  intro p e s m args below meth c s₁ B hml hv
  obtain ⟨rfl, hsz, hP, hD, hK, hC, hZ, hSL⟩ := hv
  subst hsz
  have hts := atoms_spec B.pre
  have hlocks := B.notSynchronized
  rw [lg_entry_eq]
  exact body p e s m below meth c _ _ B.exec B.bytes hml (findClass_of_methodNamed B.named) (name_of_methodNamed B.named B.method).1 (fun w hw => hts w (List.mem_cons_of_mem _ hw)) hK hC hZ hSL ⟨hP, hD, va_S.rf, fun q h => Or.inr h⟩ (fun H locs ls pc cells slots u hw hp hc hs hdg =>
      W.widen hc hs (W.vret B.exec B.bytes B.returns (fun t ht9 hW => ⟨⟨u, rfl, hp, by rw [ht9]; exact hw.1, hw.2.1⟩, hw.2.2.1.F ht9⟩) hw.2.2.1.2.2 hdg hlocks)) (lv_entry as hsl)
theorem J_meti {S : Type} {l : Launch} {y : MethodName} {bytes : ByteArray} {maxL : Nat} {ty : FieldType} {h fc fn : Nat} {as : List Value} {D : va_G} {cB : ClassId} {ws : va_W} {SL : List (Nat × Nat × Nat)} {sz : Nat} {P : Int32 → S → Prop} {L : S → va_W} (hy : plainName y.cls = true) (hsl : (lg_sl as).length ≤ maxL)
    (body : ∀ (p : Program) (e : Env) (s : State) (m : MethodId) (below : List Frame) (meth : Method) (c : Code) (Z : State → Prop) (ls : Array Slot), p.tables.exec = Jvm.exec → c.code = bytes → c.maxLocals = maxL → s.vm.findClass y.cls = some m.cls → meth.name = y.name → (∀ w ∈ W0, w.before as.toArray s = true) → JK D cB s → CN s → ZS (va_A ws s.heap.size) s s.heap → (∀ x ∈ SL, SO x.1 x.2.1 x.2.2 (va_A ws s.heap.size) s s.heap) → MW D [] ws (va_A ws s.heap.size) s s.heap [] →
      (∀ (H : Heap) (locs : List Loc) (ls : Array Slot) (pc cells slots : Nat) (v : Int32) (u : S), MW D [] (L u) (va_A ws s.heap.size) s H locs → P v u → narrow ty (.int v) = .int v → cells ≤ fc → slots ≤ fn → decode bytes pc = .ok (.ireturn, 1) → W p l e (RA h fc fn) s m as.toArray below meth c H locs cells slots Z (F0 m pc ls [.int v])) → lv_has ls maxL (lv_args 0 as) →
      W p l e (RA h fc fn) s m as.toArray below meth c s.heap [] 0 0 Z (F0 m 0 ls [])) : JMi l y (.code y bytes maxL (some ty)) h fc fn as D cB ws SL sz P L := by
  refine Met.ofW (cc := bytes) (maxL := maxL) (ret := some ty) hy rfl ?_
  intro p e s m args below meth c s₁ B hml hv
  obtain ⟨rfl, hsz, hP, hD, hK, hC, hZ, hSL⟩ := hv
  subst hsz
  have hts := atoms_spec B.pre
  have hlocks := B.notSynchronized
  rw [lg_entry_eq]
  exact body p e s m below meth c _ _ B.exec B.bytes hml (findClass_of_methodNamed B.named) (name_of_methodNamed B.named B.method).1 (fun w hw => hts w (List.mem_cons_of_mem _ hw)) hK hC hZ hSL ⟨hP, hD, va_S.rf, fun q h => Or.inr h⟩ (fun H locs ls pc cells slots v u hw hp hn hc hs hdg =>
      W.widen hc hs (W.zret B.exec B.bytes B.returns hn (fun t ht9 hW => ⟨⟨v, u, rfl, hp, by rw [ht9]; exact hw.1, hw.2.1⟩, hw.2.2.1.F ht9⟩) hw.2.2.1.2.2 hdg hlocks)) (lv_entry as hsl)
theorem J_metr {S : Type} {l : Launch} {y : MethodName} {bytes : ByteArray} {maxL : Nat} {ty : FieldType} {h fc fn : Nat} {as : List Value} {D : va_G} {cB : ClassId} {ws : va_W} {SL : List (Nat × Nat × Nat)} {sz : Nat} {P : S → Prop} {ra : S → Nat} {L : S → va_W} (hy : plainName y.cls = true) (hsl : (lg_sl as).length ≤ maxL) (hty : (∃ cn, ty = .object cn) ∨ ∃ t2, ty = .array t2)
    (body : ∀ (p : Program) (e : Env) (s : State) (m : MethodId) (below : List Frame) (meth : Method) (c : Code) (Z : State → Prop) (ls : Array Slot), p.tables.exec = Jvm.exec → c.code = bytes → c.maxLocals = maxL → s.vm.findClass y.cls = some m.cls → meth.name = y.name → (∀ w ∈ W0, w.before as.toArray s = true) → JK D cB s → CN s → ZS (va_A ws s.heap.size) s s.heap → (∀ x ∈ SL, SO x.1 x.2.1 x.2.2 (va_A ws s.heap.size) s s.heap) → MW D [] ws (va_A ws s.heap.size) s s.heap [] →
      (∀ (H : Heap) (locs : List Loc) (ls : Array Slot) (pc cells slots : Nat) (u : S) (a : Nat), MW D [] (L u) (va_A ws s.heap.size) s H locs → P u → a = ra u → cells ≤ fc → slots ≤ fn → decode bytes pc = .ok (.areturn, 1) → W p l e (RA h fc fn) s m as.toArray below meth c H locs cells slots Z (F0 m pc ls [.ref a])) → lv_has ls maxL (lv_args 0 as) →
      W p l e (RA h fc fn) s m as.toArray below meth c s.heap [] 0 0 Z (F0 m 0 ls [])) : JMr l y (.code y bytes maxL (some ty)) h fc fn as D cB ws SL sz P ra L := by
  refine Met.ofW (cc := bytes) (maxL := maxL) (ret := some ty) hy rfl ?_
  intro p e s m args below meth c s₁ B hml hv
  obtain ⟨rfl, hsz, hP, hD, hK, hC, hZ, hSL⟩ := hv
  subst hsz
  have hts := atoms_spec B.pre
  have hlocks := B.notSynchronized
  rw [lg_entry_eq]
  exact body p e s m below meth c _ _ B.exec B.bytes hml (findClass_of_methodNamed B.named) (name_of_methodNamed B.named B.method).1 (fun w hw => hts w (List.mem_cons_of_mem _ hw)) hK hC hZ hSL ⟨hP, hD, va_S.rf, fun q h => Or.inr h⟩ (fun H locs ls pc cells slots u a hw hp ha hc hs hdg =>
      W.widen hc hs (W.aret B.exec B.bytes B.returns hty (Or.inr ⟨_, rfl⟩) (fun t ht9 hW => ⟨⟨u, a, rfl, hp, ha, by rw [ht9]; exact hw.1, hw.2.1⟩, hw.2.2.1.F ht9⟩) hw.2.2.1.2.2 hdg hlocks)) (lv_entry as hsl)
end JLB
