/-! part 93.jlib -/
section
section JLB
def JK (D : va_G) (cB : ClassId) (U : State) : Prop := va_K D CL [(cB, .byte)] U
def PVl : List MethodName := [yJ5_ensureCapacityInternal_d00df, yJ5_newCapacity_0f7a4, yJ5_putStringAt_47b60, yJ5_inflateIfNeededFor_a7421]
/-- what is said of classes that isn't among the words that go on by themselves -/
def CN (U : State) : Prop := va_Nw (.castable "[B" "java/lang/Cloneable") U ∧ ∀ y ∈ PVl, va_Nw (.selects RJ4 y y) U
theorem CN.same {u U : State} (e : u.vm = U.vm) (h : CN u) : CN U := ⟨va_Nw.same rfl e h.1, fun y hy => va_Nw.same rfl e (h.2 y hy)⟩
theorem CN.warm {s U : State} (hW : s.WarmedH U.vm) (h : CN s) : CN U := ⟨va_Nw.warmC hW h.1, fun y hy => word_at hW (Or.inl rfl) (h.2 y hy)⟩
theorem sel_priv {C0 : String} {y : MethodName} {s : State} {args : Array Value} {n : Nat} (hy : y.cls ≠ "java/lang/invoke/MethodHandle" ∧ y.cls ≠ "java/lang/invoke/VarHandle") (hins : (Cond.instantiable C0 n).before args s = true) (hpriv : (Cond.privateMethod y).before args s = true) (hinst : (Cond.instanceMethod y).before args s = true) (hsame : (Cond.sameMethod y.cls y.cls y.name y.desc).before args s = true) : (Cond.selects C0 y y).before args s = true := by
  obtain ⟨c, k, hc, -⟩ := Cond.instantiable_spec hins
  obtain ⟨mk, methM, hnamed, hmethM, -, -⟩ := Cond.instanceMethod_spec hinst
  have hfound : s.methodFound? y.cls y.name y.desc = some mk := State.methodFound?_of_named hnamed hy
  obtain ⟨-, k2, hk2, hni⟩ := Cond.sameMethod_spec (findClass_of_methodNamed hnamed) hfound hsame
  have hsel : selectMethod {} s.vm c mk = .method mk := selectMethod_private hmethM (Cond.privateMethod_at hpriv mk methM hnamed hmethM)
  simp only [Cond.before, Cond.holds, Cond.value, hc, hfound, hnamed, hsel, hk2]
  simp
  exact hni
theorem cwUP {R : Room} {s : State} {args : Array Value} {own C0 : String} {index maxL mc ms : Nat} {y : MethodName} {bytes : ByteArray} {ret : Option FieldType} {rm : Room} (n : Nat) (ht : ∀ w ∈ W0, w.before args s = true) (h1 : Cond.methodLink own index y ∈ W0) (h2 : Cond.sameMethod y.cls y.cls y.name y.desc ∈ W0) (h4 : Cond.instanceMethod y ∈ W0) (h6 : Cond.initialized y.cls ∈ W0) (h5 : Cond.code y bytes maxL ret ∈ W0) (hsel : (Cond.selects C0 y y).before args s = true) (hrc : rm.cells = mc) (hrs : rm.slots = ms)
    (hd : y.cls ≠ "java/lang/invoke/MethodHandle" ∧ y.cls ≠ "java/lang/invoke/VarHandle" ∧ (parseMethodDescriptor y.desc).map (fun d => d.parameters.length) = some n) (hR : rm.frames + 1 ≤ R.frames ∧ 8 + (maxL + 11) + rm.locals ≤ R.locals) : va_CU R s args own C0 y.cls index y y bytes maxL ret (Cond.code y bytes maxL ret :: W0) rm mc ms n := by
  refine ⟨⟨hrc, hrs, hR.1, hR.2, pay_in ht (G_ws h5), List.mem_cons_self⟩, ht _ h5, ht _ h6, ⟨hd.1, hd.2.1⟩, fun sig h => ?_, ht _ h1, ht _ h2, va_Decl.of (ht _ h4) (ht _ h5), hsel, ht _ h4⟩
  have h2 := hd.2.2
  rw [h] at h2
  exact (Option.some.inj h2).symm
theorem CN.of {args : Array Value} {s : State} (h : ∀ w ∈ lw_tbl, w.before args s = true) : CN s := ⟨va_Nw.of rfl (h _ (tb_4 (List.mem_of_getElem? (i := 192) rfl))), List.forall_mem_cons.mpr ⟨va_Nw.of rfl (sel_priv (n := 4) ⟨by decide, by decide⟩ (h _ (tb_4 (List.mem_of_getElem? (i := 128) rfl))) (h _ (tb_4 (List.mem_of_getElem? (i := 166) rfl))) (h _ (tb_4 (List.mem_of_getElem? (i := 167) rfl))) (h _ (tb_7 (List.mem_of_getElem? (i := 123) rfl)))), List.forall_mem_cons.mpr ⟨va_Nw.of rfl (sel_priv (n := 4) ⟨by decide, by decide⟩ (h _ (tb_4 (List.mem_of_getElem? (i := 128) rfl))) (h _ (tb_4 (List.mem_of_getElem? (i := 170) rfl))) (h _ (tb_4 (List.mem_of_getElem? (i := 171) rfl))) (h _ (tb_7 (List.mem_of_getElem? (i := 124) rfl)))), List.forall_mem_cons.mpr ⟨va_Nw.of rfl (sel_priv (n := 4) ⟨by decide, by decide⟩ (h _ (tb_4 (List.mem_of_getElem? (i := 128) rfl))) (h _ (tb_5 (List.mem_of_getElem? (i := 113) rfl))) (h _ (tb_5 (List.mem_of_getElem? (i := 114) rfl))) (h _ (tb_7 (List.mem_of_getElem? (i := 129) rfl)))), List.forall_mem_cons.mpr ⟨va_Nw.of rfl (sel_priv (n := 4) ⟨by decide, by decide⟩ (h _ (tb_4 (List.mem_of_getElem? (i := 128) rfl))) (h _ (tb_5 (List.mem_of_getElem? (i := 117) rfl))) (h _ (tb_5 (List.mem_of_getElem? (i := 118) rfl))) (h _ (tb_7 (List.mem_of_getElem? (i := 130) rfl)))), fun _ h => nomatch h⟩⟩⟩⟩⟩
def FT (f : Nat → Int32) : Prop := ∀ j, fits .byte (.int (f j)) = true
/-- the statics that texts read -/
def ZS (A : Nat → Prop) (U : State) (H : Heap) : Prop := va_Z "java/lang/String" "COMPACT_STRINGS" "Z" (.int 1) A U H ∧ (∃ (a : Nat) (f : Nat → Int32), va_Z "java/lang/Integer" "DigitOnes" "[B" (.ref a) A U H ∧ va_T .byte a 100 (fun j => .int (f j)) A U H) ∧ ∃ (a : Nat) (f : Nat → Int32), va_Z "java/lang/Integer" "DigitTens" "[B" (.ref a) A U H ∧ va_T .byte a 100 (fun j => .int (f j)) A U H
/-- a text of w letters at a, its letters at b -/
def SO (a b w : Nat) (A : Nat → Prop) (U : State) (H : Heap) : Prop := va_O "java/lang/String" a A U H ∧ va_OF "java/lang/String" "coder" "B" (.int 0) a A U H ∧ va_OF "java/lang/String" "value" "[B" (.ref b) a A U H ∧ ∃ f, FT f ∧ va_T .byte b w (fun j => .int (f j)) A U H
theorem ZS.moved {A : Nat → Prop} {u U : State} {H : Heap} (hvm : u.vm.Alike U.vm) (h : ZS A u H) : ZS A U H := by
  obtain ⟨h1, ⟨a, f, h2, h3⟩, b, g, h4, h5⟩ := h
  exact ⟨h1.moved hvm, ⟨a, f, h2.moved hvm, h3.moved hvm⟩, b, g, h4.moved hvm, h5.moved hvm⟩
theorem ZS.kept {A : Nat → Prop} {U : State} {H H1 : Heap} (h : ZS A U H) (hq : ∀ a : Nat, a < H.size → ¬ A a → H1[a]? = H[a]?) : ZS A U H1 := by
  obtain ⟨h1, ⟨a, f, h2, h3⟩, b, g, h4, h5⟩ := h
  exact ⟨h1.kept hq, ⟨a, f, h2.kept hq, h3.kept hq⟩, b, g, h4.kept hq, h5.kept hq⟩
theorem ZS.narrow {A B : Nat → Prop} {U : State} {H : Heap} (h : ZS A U H) (hAB : ∀ q, B q → A q) : ZS B U H := by
  obtain ⟨h1, ⟨a, f, h2, h3⟩, b, g, h4, h5⟩ := h
  exact ⟨h1.narrow hAB, ⟨a, f, h2.narrow hAB, h3.narrow hAB⟩, b, g, h4.narrow hAB, h5.narrow hAB⟩
theorem SO.moved {a b w : Nat} {A : Nat → Prop} {u U : State} {H : Heap} (hvm : u.vm.Alike U.vm) (h : SO a b w A u H) : SO a b w A U H := by
  obtain ⟨h1, h2, h3, f, h4, h5⟩ := h
  exact ⟨va_O.moved hvm h1, va_OF.moved hvm h2, va_OF.moved hvm h3, f, h4, h5.moved hvm⟩
theorem SO.kept {a b w : Nat} {A : Nat → Prop} {U : State} {H H1 : Heap} (h : SO a b w A U H) (hq : ∀ a : Nat, a < H.size → ¬ A a → H1[a]? = H[a]?) : SO a b w A U H1 := by
  obtain ⟨h1, h2, h3, f, h4, h5⟩ := h
  exact ⟨h1.kept hq, h2.kept hq, h3.kept hq, f, h4, h5.kept hq⟩
theorem SO.narrow {a b w : Nat} {A B : Nat → Prop} {U : State} {H : Heap} (h : SO a b w A U H) (hAB : ∀ q, B q → A q) : SO a b w B U H := by
  obtain ⟨h1, h2, h3, f, h4, h5⟩ := h
  exact ⟨h1.narrow hAB, h2.narrow hAB, h3.narrow hAB, f, h4, h5.narrow hAB⟩
abbrev bC (b v n : Nat) : Nat × va_E := (b, .inr (11, [.ref v, .int 0, .int 0, .int (nI n)]))
abbrev bV (cB : ClassId) (v m : Nat) (f : Nat → Int32) : Nat × va_E := (v, .inl (cB, m, .inl f))
abbrev sC (a v : Nat) : Nat × va_E := (a, .inr (12, [.ref v, .int 0, .int 0, .int 0]))
def gr (q m : Nat) : Nat := if q ≤ m then 0 else 1
def cap (q m : Nat) : Nat := if q ≤ m then m else if q < 2 * m + 2 then 2 * m + 2 else q
def gs (q m : Nat) : Nat := if q ≤ m then 0 else cap q m
theorem cap_le {q m : Nat} (h : q ≤ m) : cap q m = m := if_pos h
theorem cap_ge (q m : Nat) : q ≤ cap q m ∧ m ≤ cap q m := by
  unfold cap
  split <;> first | omega | (split <;> omega)
theorem cap_hi (q m : Nat) : cap q m ≤ m + m + q + 2 := by
  unfold cap
  split <;> first | omega | (split <;> omega)
theorem grs {q m : Nat} (h : ¬ q ≤ m) : gr q m = 1 ∧ gs q m = cap q m := ⟨if_neg h, if_neg h⟩
theorem gr0 {q m : Nat} (h : q ≤ m) : gr q m = 0 ∧ gs q m = 0 := ⟨if_pos h, if_pos h⟩
/-- what is made, told by what there is then: m grows by more than itself -/
theorem gr_pot (q m : Nat) : gr q m + m ≤ cap q m ∧ gs q m + 2 * m ≤ 2 * cap q m := by
  unfold gr gs cap
  split <;> first | omega | (split <;> omega)
theorem FT0 : FT (fun _ => 0) := fun _ => rfl
theorem FT.st {f : Nat → Int32} {k : Nat} {x : Int32} (h : FT f) (hx : fits .byte (.int x) = true) : FT (upd f k x) := fun j => by
  by_cases e : j = k
  · rw [e, upd_at]
    exact hx
  · rw [upd_ne e]
    exact h j
theorem FT.cpy {f g : Nat → Int32} {sp dp n : Nat} (hf : FT f) (hg : FT g) : FT (va_cpy f g sp dp n) := fun j => by
  unfold va_cpy
  split
  · exact hf _
  · exact hg _
def JB (D : va_G) (cB : ClassId) (ws : va_W) (SL : List (Nat × Nat × Nat)) (sz : Nat) : State → Prop := fun U => U.heap.size = sz ∧ va_P D CL ws U.heap ∧ va_D (va_A ws sz) ws ∧ JK D cB U ∧ CN U ∧ ZS (va_A ws sz) U U.heap ∧ ∀ x ∈ SL, SO x.1 x.2.1 x.2.2 (va_A ws sz) U U.heap
def JMv {S : Type} (l : Launch) (y : MethodName) (cd : Cond) (h c n : Nat) (as : List Value) (D : va_G) (cB : ClassId) (ws : va_W) (SL : List (Nat × Nat × Nat)) (sz : Nat) (P : S → Prop) (L : S → va_W) : Prop := Met l y (cd :: W0) (RA h c n) (va_Pc as (JB D cB ws SL sz)) (va_Qv P (fun u t => va_P D CL (L u) t.heap ∧ va_D (va_A ws sz) (L u)) (va_A ws sz)) c n (va_A ws sz)
def JMi {S : Type} (l : Launch) (y : MethodName) (cd : Cond) (h c n : Nat) (as : List Value) (D : va_G) (cB : ClassId) (ws : va_W) (SL : List (Nat × Nat × Nat)) (sz : Nat) (P : Int32 → S → Prop) (L : S → va_W) : Prop := Met l y (cd :: W0) (RA h c n) (va_Pc as (JB D cB ws SL sz)) (va_Qi P (fun u t => va_P D CL (L u) t.heap ∧ va_D (va_A ws sz) (L u)) (va_A ws sz)) c n (va_A ws sz)
def JMr {S : Type} (l : Launch) (y : MethodName) (cd : Cond) (h c n : Nat) (as : List Value) (D : va_G) (cB : ClassId) (ws : va_W) (SL : List (Nat × Nat × Nat)) (sz : Nat) (P : S → Prop) (ra : S → Nat) (L : S → va_W) : Prop := Met l y (cd :: W0) (RA h c n) (va_Pc as (JB D cB ws SL sz)) (va_Qr P (fun u a t => a = ra u ∧ va_P D CL (L u) t.heap ∧ va_D (va_A ws sz) (L u)) (va_A ws sz)) c n (va_A ws sz)
variable {p : Program} {l : Launch} {e : Env} {R : Room} {s : State} {m : MethodId} {args : Array Value} {below : List Frame} {meth : Method} {c : Code} {H : Heap} {locs : List Loc} {cells slots : Nat} {Q : State → Prop}
variable {cc : ByteArray} {pc : Nat} {ls : Array Slot} {rest : List Value} {D : va_G} {cB : ClassId} {RG N N0 ws : va_W} {SL : List (Nat × Nat × Nat)} {A : Nat → Prop}
theorem JB.blind {as : List Value} {sz : Nat} : FrameBlind (va_Pc as (JB D cB ws SL sz)) := fun z U g mk q => by
  obtain ⟨q0, q1, q2, q3, q4, qC, q5, q6⟩ := q
  exact ⟨q0, q1, q2, q3, va_K.moved (u := U) (U := U.calling g mk z) (Vm.Alike.refl U.vm) q4, CN.same (u := U) rfl qC, ZS.moved (u := U) (U := U.calling g mk z) (Vm.Alike.refl U.vm) q5, fun x hx => SO.moved (u := U) (U := U.calling g mk z) (Vm.Alike.refl U.vm) (q6 x hx)⟩
theorem MW.at2 (hw : MW D RG (N0 ++ ws) A s H locs) : va_P D CL ws H := fun k q hk => hw.1 _ q (NAT (RG := RG) (by rw [List.getElem?_append_right (Nat.le_add_right N0.length k), Nat.add_sub_cancel_left]; exact hk))
theorem MW.d2 (hw : MW D RG (N0 ++ ws) A s H locs) : va_D A ws := ⟨fun i j x y hx hy e => by
    have := hw.2.1.1 _ _ x y (NAT (RG := RG) (N := N0 ++ ws) (j := N0.length + i) (by rw [List.getElem?_append_right (Nat.le_add_right _ _), Nat.add_sub_cancel_left]; exact hx)) (NAT (RG := RG) (N := N0 ++ ws) (j := N0.length + j) (by rw [List.getElem?_append_right (Nat.le_add_right _ _), Nat.add_sub_cancel_left]; exact hy)) e
    omega, fun k q hk => hw.2.1.2 _ q (NAT (RG := RG) (N := N0 ++ ws) (j := N0.length + k) (by rw [List.getElem?_append_right (Nat.le_add_right _ _), Nat.add_sub_cancel_left]; exact hk))⟩
theorem MW.cA (hw : MW D RG (N0 ++ ws) A s H locs) : ∀ q, va_A ws H.size q → A q := fun q h => by
  rcases h with ⟨k, e, h⟩ | h
  · exact hw.d2.2 k _ h
  · exact hw.2.2.2 q (Nat.le_trans hw.2.2.1.1 h)
theorem MW.repl (hw : MW D RG (N0 ++ ws) A s H locs) {ws1 : va_W} {H1 : Heap} {locs1 : List Loc} (hk : ∀ q : Nat, q < H.size → ¬ va_A ws H.size q → H1[q]? = H[q]?) (hP : va_P D CL ws1 H1) (hD : va_D (va_A ws H.size) ws1) (hS : va_S A s.heap H1 locs1) : MW D RG (N0 ++ ws1) A s H1 locs1 := by
  have hP0 : va_P D CL ((RG ++ N0) ++ ws) H := by rw [List.append_assoc]; exact hw.1
  have hD0 : va_D A ((RG ++ N0) ++ ws) := by rw [List.append_assoc]; exact hw.2.1
  have left : ∀ (k : Nat) (q : Nat × va_E), (RG ++ N0)[k]? = some q → ((RG ++ N0) ++ ws)[k]? = some q := fun k q hq => by rw [List.getElem?_append_left (List.getElem?_eq_some_iff.mp hq).1]; exact hq
  have right : ∀ (k : Nat) (q : Nat × va_E), ws[k]? = some q → ((RG ++ N0) ++ ws)[(RG ++ N0).length + k]? = some q := fun k q hq => by rw [List.getElem?_append_right (Nat.le_add_right _ _), Nat.add_sub_cancel_left]; exact hq
  have out : ∀ (k : Nat) (q : Nat × va_E), (RG ++ N0)[k]? = some q → q.1 < H.size ∧ ¬ va_A ws H.size q.1 := fun k q hq => by
    have hl := (hP0 k q (left k q hq)).lt
    refine ⟨hl, fun z => ?_⟩
    rcases z with ⟨k2, e2, h2⟩ | z
    · have := hD0.1 k _ q (q.1, e2) (left k q hq) (right k2 _ h2) rfl
      have := (List.getElem?_eq_some_iff.mp hq).1
      omega
    · omega
  refine ⟨?_, ?_, hS, hw.2.2.2⟩
  · rw [← List.append_assoc]
    exact va_P.app (fun k q hq => (hP0 k q (left k q hq)).kept (hk q.1 (out k q hq).1 (out k q hq).2)) hP
  · rw [← List.append_assoc]
    refine va_D.app ⟨fun i j x y hx hy e => hD0.1 i j x y (left i x hx) (left j y hy) e, fun k q hq => hD0.2 k q (left k q hq)⟩ ⟨hD.1, fun k q hq => hw.cA _ (hD.2 k q hq)⟩ (fun i j x y hx hy e => ?_)
    exact (out i x hx).2 (by rw [e]; exact hD.2 j y hy)
theorem JB.pre {as : List Value} (hK : JK D cB s) (hC : CN s) (hZ : ZS A s s.heap) (hw : MW D RG (N0 ++ ws) A s H locs) (hSL : ∀ U : State, U.heap = H → s.WarmedH U.vm → ∀ x ∈ SL, SO x.1 x.2.1 x.2.2 (va_A ws H.size) U H) : ∀ U : State, U.heap = H → s.WarmedH U.vm → va_Pc as (JB D cB ws SL H.size) as.toArray U := fun U hU hW => by
  refine ⟨rfl, by rw [hU], by rw [hU]; exact hw.at2, ⟨hw.d2.1, fun k q hk => Or.inl ⟨k, q.2, hk⟩⟩, va_K.moved hW.alike hK, hC.warm hW, ?_, fun x hx => by rw [hU]; exact hSL U hU hW x hx⟩
  rw [hU]
  exact ((hZ.kept hw.2.2.1.2.1).moved hW.alike).narrow hw.cA
/-- a text that was there before -/
theorem SO.pass {a b w : Nat} (h : SO a b w A s s.heap) (hw : MW D RG (N0 ++ ws) A s H locs) : ∀ U : State, U.heap = H → s.WarmedH U.vm → SO a b w (va_A ws H.size) U H := fun U _ hW => ((h.kept hw.2.2.1.2.1).moved hW.alike).narrow hw.cA
theorem SL0 : ∀ U : State, U.heap = H → s.WarmedH U.vm → ∀ x ∈ ([] : List (Nat × Nat × Nat)), SO x.1 x.2.1 x.2.2 (va_A ws H.size) U H := fun _ _ _ _ h => nomatch h
theorem SL1 {a b w : Nat} (h : ∀ U : State, U.heap = H → s.WarmedH U.vm → SO a b w (va_A ws H.size) U H) : ∀ U : State, U.heap = H → s.WarmedH U.vm → ∀ x ∈ [(a, b, w)], SO x.1 x.2.1 x.2.2 (va_A ws H.size) U H := fun U h1 h2 x hx => by
  rw [List.mem_singleton] at hx
  subst hx
  exact h U h1 h2
theorem J_callv {S : Type} {mc ms : Nat} {st0 : List Value} {ar : Array Value} {P : S → Prop} {L : S → va_W} (hw : MW D RG (N0 ++ ws) A s H locs) (hr : va_Run p l e R s m args below meth c H locs cells slots mc ms (F0 m pc ls st0) rest (va_Qv P (fun u t => va_P D CL (L u) t.heap ∧ va_D (va_A ws H.size) (L u)) (va_A ws H.size) ar) (va_A ws H.size))
    (kk : ∀ (u : S) (H1 : Heap) (locs1 : List Loc), P u → MW D RG (N0 ++ L u) A s H1 locs1 → W p l e R s m args below meth c H1 locs1 (cells + mc) (slots + ms) Q (F0 m (pc + 3) ls rest)) : W p l e R s m args below meth c H locs cells slots Q (F0 m pc ls st0) :=
  va_callv hr hw.2.2.1 (fun q _ h => hw.cA q h) hw.cA (fun u t H1 locs1 ht _ hq hB _ hk hS => kk u H1 locs1 hq (hw.repl hk (by rw [← ht]; exact hB.1) hB.2 hS))
theorem J_calli {S : Type} {mc ms : Nat} {st0 : List Value} {ar : Array Value} {P : Int32 → S → Prop} {L : S → va_W} (hw : MW D RG (N0 ++ ws) A s H locs) (hr : va_Run p l e R s m args below meth c H locs cells slots mc ms (F0 m pc ls st0) rest (va_Qi P (fun u t => va_P D CL (L u) t.heap ∧ va_D (va_A ws H.size) (L u)) (va_A ws H.size) ar) (va_A ws H.size))
    (kk : ∀ (r : Int32) (u : S) (H1 : Heap) (locs1 : List Loc), P r u → MW D RG (N0 ++ L u) A s H1 locs1 → W p l e R s m args below meth c H1 locs1 (cells + mc) (slots + ms) Q (F0 m (pc + 3) ls (.int r :: rest))) : W p l e R s m args below meth c H locs cells slots Q (F0 m pc ls st0) :=
  va_calli hr hw.2.2.1 (fun q _ h => hw.cA q h) hw.cA (fun r u t H1 locs1 ht _ hq hB _ hk hS => kk r u H1 locs1 hq (hw.repl hk (by rw [← ht]; exact hB.1) hB.2 hS))
theorem J_callr {S : Type} {mc ms : Nat} {st0 : List Value} {ar : Array Value} {P : S → Prop} {ra : S → Nat} {L : S → va_W} (hw : MW D RG (N0 ++ ws) A s H locs) (hr : va_Run p l e R s m args below meth c H locs cells slots mc ms (F0 m pc ls st0) rest (va_Qr P (fun u a t => a = ra u ∧ va_P D CL (L u) t.heap ∧ va_D (va_A ws H.size) (L u)) (va_A ws H.size) ar) (va_A ws H.size))
    (kk : ∀ (u : S) (H1 : Heap) (locs1 : List Loc), P u → MW D RG (N0 ++ L u) A s H1 locs1 → W p l e R s m args below meth c H1 locs1 (cells + mc) (slots + ms) Q (F0 m (pc + 3) ls (.ref (ra u) :: rest))) : W p l e R s m args below meth c H locs cells slots Q (F0 m pc ls st0) :=
  va_callr hr hw.2.2.1 (fun q _ h => hw.cA q h) hw.cA (fun u a t H1 locs1 ht _ hq hB _ hk hS => by
    obtain ⟨rfl, hB1, hB2⟩ := hB
    exact kk u H1 locs1 hq (hw.repl hk (by rw [← ht]; exact hB1) hB2 hS))
theorem J_recv (hK : JK D cB s) (hw : MW D RG N A s H locs) {j a ci : Nat} {fs : List Value} {q : vw_C} (he : N[j]? = some (a, .inr (ci, fs))) (hc : CL[ci]? = some q) : ∃ cell : Cell, H[a]? = some cell ∧ cell.vm.isStatics = false ∧ s.vm.findClass q.1 = some cell.cls := va_recv hK hw.1 hc (q0 := RG.length + j) (NAT he)
theorem SO.recv {a b w : Nat} (h : SO a b w A s s.heap) (hS : va_S A s.heap H locs) : ∃ cell : Cell, H[a]? = some cell ∧ cell.vm.isStatics = false ∧ s.vm.findClass "java/lang/String" = some cell.cls := by
  obtain ⟨cell, h1, h2, h3, -⟩ := h.1.kept hS.2.1
  exact ⟨cell, h1, h2, h3⟩
theorem n_newB {B : Nat} (hx : p.tables.exec = Jvm.exec) (hb : c.code = cc) (ht : ∀ w ∈ W0, w.before args s = true) (hq : Cond.arrayClass .byte ∈ W0) (hK : JK D cB s) (hw : MW D RG N A s H locs) {n : Int32} (hn : ¬ n < 0 ∧ n.toNatClampNeg = B) (hB : B ≤ 1000000) (hcells : cells + 1 ≤ R.cells) (hslots : slots + B ≤ R.slots) (hdg : decode cc pc = .ok (.newarray .byte, 2))
    (kk : ∀ (q : Nat) (H1 : Heap), s.heap.size ≤ q → MW D RG (N ++ [bV cB q B (fun _ => 0)]) A s H1 locs → W p l e R s m args below meth c H1 locs (cells + 1) (slots + B) Q (F0 m (pc + 2) ls (.ref q :: rest))) : W p l e R s m args below meth c H locs cells slots Q (F0 m pc ls (.int n :: rest)) := by
  obtain ⟨hn0, rfl⟩ := hn
  refine va_newaK (atype := .byte) hx hb (ht _ hq) rfl hdg rfl hn0 rfl (Nat.le_trans (Nat.mul_le_mul_right _ hB) (Nat.le_of_ble_eq_true rfl)) hcells hslots rfl (fun H1 cA e0 z1 o1 _ hNm => ?_)
  have e1 : cA = cB := Option.some.inj (hNm.symm.trans (hK.2 0 _ rfl).2)
  subst e1
  refine kk H.size H1 hw.2.2.1.1 (MW.push (H0 := H) ⟨hw.1.kept (fun k q hk => o1 q.1 (hw.lt k q hk)), hw.2.1, ⟨Nat.le_trans hw.2.2.1.1 (by omega), fun x h1 h2 => (o1 x (Nat.lt_of_lt_of_le h1 hw.2.2.1.1)).trans (hw.2.2.1.2.1 x h1 h2), hw.2.2.1.2.2⟩, hw.2.2.2⟩ ?_ (Nat.le_refl _) hw.lt hw.2.2.1.1)
  exact e0
theorem J_metv {S : Type} {l : Launch} {y : MethodName} {bytes : ByteArray} {maxL : Nat} {h fc fn : Nat} {as : List Value} {D : va_G} {cB : ClassId} {ws : va_W} {SL : List (Nat × Nat × Nat)} {sz : Nat} {P : S → Prop} {L : S → va_W} (hy : plainName y.cls = true) (hsl : (lg_sl as).length ≤ maxL)
    (body : ∀ (p : Program) (e : Env) (s : State) (m : MethodId) (below : List Frame) (meth : Method) (c : Code) (Z : State → Prop) (ls : Array Slot), p.tables.exec = Jvm.exec → c.code = bytes → c.maxLocals = maxL → s.vm.findClass y.cls = some m.cls → meth.name = y.name → (∀ w ∈ W0, w.before as.toArray s = true) → JK D cB s → CN s → ZS (va_A ws s.heap.size) s s.heap → (∀ x ∈ SL, SO x.1 x.2.1 x.2.2 (va_A ws s.heap.size) s s.heap) → MW D [] ws (va_A ws s.heap.size) s s.heap [] →
      (∀ (H : Heap) (locs : List Loc) (ls : Array Slot) (pc cells slots : Nat) (u : S), MW D [] (L u) (va_A ws s.heap.size) s H locs → P u → cells ≤ fc → slots ≤ fn → decode bytes pc = .ok (.return_, 1) → W p l e (RA h fc fn) s m as.toArray below meth c H locs cells slots Z (F0 m pc ls [])) → lv_has ls maxL (lv_args 0 as) →
      W p l e (RA h fc fn) s m as.toArray below meth c s.heap [] 0 0 Z (F0 m 0 ls [])) : JMv l y (.code y bytes maxL none) h fc fn as D cB ws SL sz P L := by
  refine Met.ofW (cc := bytes) (maxL := maxL) (ret := none) hy rfl ?_
  intro p e s m args below meth c s₁ B hml hv
  obtain ⟨rfl, hsz, hP, hD, hK, hC, hZ, hSL⟩ := hv
  subst hsz
  have hts := atoms_spec B.pre
  have hlocks := B.notSynchronized
  rw [lg_entry_eq]
  exact body p e s m below meth c _ _ B.exec B.bytes hml (findClass_of_methodNamed B.named) (name_of_methodNamed B.named B.method).1 (fun w hw => hts w (List.mem_cons_of_mem _ hw)) hK hC hZ hSL ⟨hP, hD, va_S.rf, fun q h => Or.inr h⟩ (fun H locs ls pc cells slots u hw hp hc hs hdg =>
      W.widen hc hs (W.vret B.exec B.bytes B.returns (fun t ht9 hW => ⟨⟨u, rfl, hp, by rw [ht9]; exact hw.1, hw.2.1⟩, hw.2.2.1.F ht9⟩) hw.2.2.1.2.2 hdg hlocks)) (lv_entry as hsl)
theorem J_meti {S : Type} {l : Launch} {y : MethodName} {bytes : ByteArray} {maxL : Nat} {ty : FieldType} {h fc fn : Nat} {as : List Value} {D : va_G} {cB : ClassId} {ws : va_W} {SL : List (Nat × Nat × Nat)} {sz : Nat} {P : Int32 → S → Prop} {L : S → va_W} (hy : plainName y.cls = true) (hsl : (lg_sl as).length ≤ maxL)
    (body : ∀ (p : Program) (e : Env) (s : State) (m : MethodId) (below : List Frame) (meth : Method) (c : Code) (Z : State → Prop) (ls : Array Slot), p.tables.exec = Jvm.exec → c.code = bytes → c.maxLocals = maxL → s.vm.findClass y.cls = some m.cls → meth.name = y.name → (∀ w ∈ W0, w.before as.toArray s = true) → JK D cB s → CN s → ZS (va_A ws s.heap.size) s s.heap → (∀ x ∈ SL, SO x.1 x.2.1 x.2.2 (va_A ws s.heap.size) s s.heap) → MW D [] ws (va_A ws s.heap.size) s s.heap [] →
      (∀ (H : Heap) (locs : List Loc) (ls : Array Slot) (pc cells slots : Nat) (v : Int32) (u : S), MW D [] (L u) (va_A ws s.heap.size) s H locs → P v u → narrow ty (.int v) = .int v → cells ≤ fc → slots ≤ fn → decode bytes pc = .ok (.ireturn, 1) → W p l e (RA h fc fn) s m as.toArray below meth c H locs cells slots Z (F0 m pc ls [.int v])) → lv_has ls maxL (lv_args 0 as) →
      W p l e (RA h fc fn) s m as.toArray below meth c s.heap [] 0 0 Z (F0 m 0 ls [])) : JMi l y (.code y bytes maxL (some ty)) h fc fn as D cB ws SL sz P L := by
  refine Met.ofW (cc := bytes) (maxL := maxL) (ret := some ty) hy rfl ?_
  intro p e s m args below meth c s₁ B hml hv
  obtain ⟨rfl, hsz, hP, hD, hK, hC, hZ, hSL⟩ := hv
  subst hsz
  have hts := atoms_spec B.pre
  have hlocks := B.notSynchronized
  rw [lg_entry_eq]
  exact body p e s m below meth c _ _ B.exec B.bytes hml (findClass_of_methodNamed B.named) (name_of_methodNamed B.named B.method).1 (fun w hw => hts w (List.mem_cons_of_mem _ hw)) hK hC hZ hSL ⟨hP, hD, va_S.rf, fun q h => Or.inr h⟩ (fun H locs ls pc cells slots v u hw hp hn hc hs hdg =>
      W.widen hc hs (W.zret B.exec B.bytes B.returns hn (fun t ht9 hW => ⟨⟨v, u, rfl, hp, by rw [ht9]; exact hw.1, hw.2.1⟩, hw.2.2.1.F ht9⟩) hw.2.2.1.2.2 hdg hlocks)) (lv_entry as hsl)
theorem J_metr {S : Type} {l : Launch} {y : MethodName} {bytes : ByteArray} {maxL : Nat} {ty : FieldType} {h fc fn : Nat} {as : List Value} {D : va_G} {cB : ClassId} {ws : va_W} {SL : List (Nat × Nat × Nat)} {sz : Nat} {P : S → Prop} {ra : S → Nat} {L : S → va_W} (hy : plainName y.cls = true) (hsl : (lg_sl as).length ≤ maxL) (hty : (∃ cn, ty = .object cn) ∨ ∃ t2, ty = .array t2)
    (body : ∀ (p : Program) (e : Env) (s : State) (m : MethodId) (below : List Frame) (meth : Method) (c : Code) (Z : State → Prop) (ls : Array Slot), p.tables.exec = Jvm.exec → c.code = bytes → c.maxLocals = maxL → s.vm.findClass y.cls = some m.cls → meth.name = y.name → (∀ w ∈ W0, w.before as.toArray s = true) → JK D cB s → CN s → ZS (va_A ws s.heap.size) s s.heap → (∀ x ∈ SL, SO x.1 x.2.1 x.2.2 (va_A ws s.heap.size) s s.heap) → MW D [] ws (va_A ws s.heap.size) s s.heap [] →
      (∀ (H : Heap) (locs : List Loc) (ls : Array Slot) (pc cells slots : Nat) (u : S) (a : Nat), MW D [] (L u) (va_A ws s.heap.size) s H locs → P u → a = ra u → cells ≤ fc → slots ≤ fn → decode bytes pc = .ok (.areturn, 1) → W p l e (RA h fc fn) s m as.toArray below meth c H locs cells slots Z (F0 m pc ls [.ref a])) → lv_has ls maxL (lv_args 0 as) →
      W p l e (RA h fc fn) s m as.toArray below meth c s.heap [] 0 0 Z (F0 m 0 ls [])) : JMr l y (.code y bytes maxL (some ty)) h fc fn as D cB ws SL sz P ra L := by
  refine Met.ofW (cc := bytes) (maxL := maxL) (ret := some ty) hy rfl ?_
  intro p e s m args below meth c s₁ B hml hv
  obtain ⟨rfl, hsz, hP, hD, hK, hC, hZ, hSL⟩ := hv
  subst hsz
  have hts := atoms_spec B.pre
  have hlocks := B.notSynchronized
  rw [lg_entry_eq]
  exact body p e s m below meth c _ _ B.exec B.bytes hml (findClass_of_methodNamed B.named) (name_of_methodNamed B.named B.method).1 (fun w hw => hts w (List.mem_cons_of_mem _ hw)) hK hC hZ hSL ⟨hP, hD, va_S.rf, fun q h => Or.inr h⟩ (fun H locs ls pc cells slots u a hw hp ha hc hs hdg =>
      W.widen hc hs (W.aret B.exec B.bytes B.returns hty (Or.inr ⟨_, rfl⟩) (fun t ht9 hW => ⟨⟨u, a, rfl, hp, ha, by rw [ht9]; exact hw.1, hw.2.1⟩, hw.2.2.1.F ht9⟩) hw.2.2.1.2.2 hdg hlocks)) (lv_entry as hsl)
end JLB
end
/-! part 94.jdec -/
section
theorem G_O {own : String} {idx : Nat} {C owner : String} {x y : MethodName} {cd : Cond} (h1 : Cond.methodLink own idx x ∈ W0) (h2 : Cond.sameMethod x.cls owner x.name x.desc ∈ W0) (h7 : Cond.instanceMethod ⟨owner, x.name, x.desc⟩ ∈ W0) (h3 : Cond.selects C x y ∈ W0) (h4 : Cond.instanceMethod y ∈ W0) (h6 : Cond.initialized y.cls ∈ W0) (h5 : cd ∈ W0) : GoodIn W0 (va_wsO own idx C owner x y (cd :: W0)) := G_of h5 (List.forall_mem_cons.mpr ⟨h1, List.forall_mem_cons.mpr ⟨h2, List.forall_mem_cons.mpr ⟨h7, List.forall_mem_cons.mpr ⟨h3, List.forall_mem_cons.mpr ⟨h4, List.forall_mem_cons.mpr ⟨h6, fun _ h => nomatch h⟩⟩⟩⟩⟩⟩)
theorem G_SU {own : String} {idx : Nat} {y : MethodName} {cd : Cond} (h1 : Cond.methodLink own idx y ∈ W0) (h2 : Cond.sameMethod y.cls y.cls y.name y.desc ∈ W0) (h3 : Cond.superclass own y.cls ∈ W0) (h4 : Cond.instanceMethod y ∈ W0) (h6 : Cond.initialized y.cls ∈ W0) (h5 : cd ∈ W0) : GoodIn W0 (va_wsSU own idx y (cd :: W0)) := G_of h5 (List.forall_mem_cons.mpr ⟨h1, List.forall_mem_cons.mpr ⟨h2, List.forall_mem_cons.mpr ⟨h3, List.forall_mem_cons.mpr ⟨h4, List.forall_mem_cons.mpr ⟨h6, fun _ h => nomatch h⟩⟩⟩⟩⟩)
set_option maxRecDepth 100000 in
theorem db_cJ1_canEncode_fc78d_dJ1_canEncode_fc78d_0_0 : zw [(0, .iload_n 0, 1), (1, .sipush 255, 3), (4, .if_icmp .gt 7, 3), (7, .iconst 1, 1), (8, .goto 4, 3), (11, .iconst 0, 1), (12, .ireturn, 1)] (cJ1_canEncode_fc78d.data.toList.drop 0) 0 = true := by decide +kernel
def dc_cJ1_canEncode_fc78d_dJ1_canEncode_fc78d_0_0 := zw_7 db_cJ1_canEncode_fc78d_dJ1_canEncode_fc78d_0_0
def dJ1_canEncode_fc78d_0 := dc_cJ1_canEncode_fc78d_dJ1_canEncode_fc78d_0_0.1
def dJ1_canEncode_fc78d_1 := dc_cJ1_canEncode_fc78d_dJ1_canEncode_fc78d_0_0.2.1
def dJ1_canEncode_fc78d_4 := dc_cJ1_canEncode_fc78d_dJ1_canEncode_fc78d_0_0.2.2.1
def dJ1_canEncode_fc78d_7 := dc_cJ1_canEncode_fc78d_dJ1_canEncode_fc78d_0_0.2.2.2.1
def dJ1_canEncode_fc78d_8 := dc_cJ1_canEncode_fc78d_dJ1_canEncode_fc78d_0_0.2.2.2.2.1
def dJ1_canEncode_fc78d_11 := dc_cJ1_canEncode_fc78d_dJ1_canEncode_fc78d_0_0.2.2.2.2.2.1
def dJ1_canEncode_fc78d_12 := dc_cJ1_canEncode_fc78d_dJ1_canEncode_fc78d_0_0.2.2.2.2.2.2
set_option maxRecDepth 100000 in
theorem db_cJ8_newLength_cabcc_dJ8_newLength_cabcc_0_0 : zw [(0, .iload_n 0, 1), (1, .iload_n 1, 1), (2, .iload_n 2, 1), (3, .invokestatic 194, 3), (6, .iadd, 1), (7, .istore_n 3, 1), (8, .iconst 0, 1), (9, .iload_n 3, 1), (10, .if_icmp .ge 11, 3), (13, .iload_n 3, 1), (14, .ldc 200, 2), (16, .if_icmp .gt 5, 3), (19, .iload_n 3, 1), (20, .ireturn, 1), (21, .iload_n 0, 1), (22, .iload_n 1, 1)] (cJ8_newLength_cabcc.data.toList.drop 0) 0 = true := by decide +kernel
def dc_cJ8_newLength_cabcc_dJ8_newLength_cabcc_0_0 := zw_16 db_cJ8_newLength_cabcc_dJ8_newLength_cabcc_0_0
def dJ8_newLength_cabcc_0 := dc_cJ8_newLength_cabcc_dJ8_newLength_cabcc_0_0.1
def dJ8_newLength_cabcc_1 := dc_cJ8_newLength_cabcc_dJ8_newLength_cabcc_0_0.2.1
def dJ8_newLength_cabcc_2 := dc_cJ8_newLength_cabcc_dJ8_newLength_cabcc_0_0.2.2.1
def dJ8_newLength_cabcc_3 := dc_cJ8_newLength_cabcc_dJ8_newLength_cabcc_0_0.2.2.2.1
def dJ8_newLength_cabcc_6 := dc_cJ8_newLength_cabcc_dJ8_newLength_cabcc_0_0.2.2.2.2.1
def dJ8_newLength_cabcc_7 := dc_cJ8_newLength_cabcc_dJ8_newLength_cabcc_0_0.2.2.2.2.2.1
def dJ8_newLength_cabcc_8 := dc_cJ8_newLength_cabcc_dJ8_newLength_cabcc_0_0.2.2.2.2.2.2.1
def dJ8_newLength_cabcc_9 := dc_cJ8_newLength_cabcc_dJ8_newLength_cabcc_0_0.2.2.2.2.2.2.2.1
def dJ8_newLength_cabcc_10 := dc_cJ8_newLength_cabcc_dJ8_newLength_cabcc_0_0.2.2.2.2.2.2.2.2.1
def dJ8_newLength_cabcc_13 := dc_cJ8_newLength_cabcc_dJ8_newLength_cabcc_0_0.2.2.2.2.2.2.2.2.2.1
def dJ8_newLength_cabcc_14 := dc_cJ8_newLength_cabcc_dJ8_newLength_cabcc_0_0.2.2.2.2.2.2.2.2.2.2.1
def dJ8_newLength_cabcc_16 := dc_cJ8_newLength_cabcc_dJ8_newLength_cabcc_0_0.2.2.2.2.2.2.2.2.2.2.2.1
def dJ8_newLength_cabcc_19 := dc_cJ8_newLength_cabcc_dJ8_newLength_cabcc_0_0.2.2.2.2.2.2.2.2.2.2.2.2.1
def dJ8_newLength_cabcc_20 := dc_cJ8_newLength_cabcc_dJ8_newLength_cabcc_0_0.2.2.2.2.2.2.2.2.2.2.2.2.2.1
def dJ8_newLength_cabcc_21 := dc_cJ8_newLength_cabcc_dJ8_newLength_cabcc_0_0.2.2.2.2.2.2.2.2.2.2.2.2.2.2.1
def dJ8_newLength_cabcc_22 := dc_cJ8_newLength_cabcc_dJ8_newLength_cabcc_0_0.2.2.2.2.2.2.2.2.2.2.2.2.2.2.2
set_option maxRecDepth 100000 in
theorem db_cJ8_newLength_cabcc_dJ8_newLength_cabcc_23_1 : zw [(23, .invokestatic 201, 3), (26, .ireturn, 1)] (cJ8_newLength_cabcc.data.toList.drop 23) 23 = true := by decide +kernel
def dc_cJ8_newLength_cabcc_dJ8_newLength_cabcc_23_1 := zw_2 db_cJ8_newLength_cabcc_dJ8_newLength_cabcc_23_1
def dJ8_newLength_cabcc_23 := dc_cJ8_newLength_cabcc_dJ8_newLength_cabcc_23_1.1
def dJ8_newLength_cabcc_26 := dc_cJ8_newLength_cabcc_dJ8_newLength_cabcc_23_1.2
set_option maxRecDepth 100000 in
theorem db_cJ5_isLatin1_aae02_dJ5_isLatin1_aae02_0_0 : zw [(0, .getstatic 18, 3), (3, .ifCond .eq 14, 3), (6, .aload_n 0, 1), (7, .getfield 22, 3), (10, .ifCond .ne 7, 3), (13, .iconst 1, 1), (14, .goto 4, 3), (17, .iconst 0, 1), (18, .ireturn, 1)] (cJ5_isLatin1_aae02.data.toList.drop 0) 0 = true := by decide +kernel
def dc_cJ5_isLatin1_aae02_dJ5_isLatin1_aae02_0_0 := zw_9 db_cJ5_isLatin1_aae02_dJ5_isLatin1_aae02_0_0
def dJ5_isLatin1_aae02_0 := dc_cJ5_isLatin1_aae02_dJ5_isLatin1_aae02_0_0.1
def dJ5_isLatin1_aae02_3 := dc_cJ5_isLatin1_aae02_dJ5_isLatin1_aae02_0_0.2.1
def dJ5_isLatin1_aae02_6 := dc_cJ5_isLatin1_aae02_dJ5_isLatin1_aae02_0_0.2.2.1
def dJ5_isLatin1_aae02_7 := dc_cJ5_isLatin1_aae02_dJ5_isLatin1_aae02_0_0.2.2.2.1
def dJ5_isLatin1_aae02_10 := dc_cJ5_isLatin1_aae02_dJ5_isLatin1_aae02_0_0.2.2.2.2.1
def dJ5_isLatin1_aae02_13 := dc_cJ5_isLatin1_aae02_dJ5_isLatin1_aae02_0_0.2.2.2.2.2.1
def dJ5_isLatin1_aae02_14 := dc_cJ5_isLatin1_aae02_dJ5_isLatin1_aae02_0_0.2.2.2.2.2.2.1
def dJ5_isLatin1_aae02_17 := dc_cJ5_isLatin1_aae02_dJ5_isLatin1_aae02_0_0.2.2.2.2.2.2.2.1
def dJ5_isLatin1_aae02_18 := dc_cJ5_isLatin1_aae02_dJ5_isLatin1_aae02_0_0.2.2.2.2.2.2.2.2
set_option maxRecDepth 100000 in
theorem db_cJ5_newCapacity_0f7a4_dJ5_newCapacity_0f7a4_0_0 : zw [(0, .aload_n 0, 1), (1, .getfield 15, 3), (4, .arraylength, 1), (5, .istore_n 2, 1), (6, .iload_n 1, 1), (7, .aload_n 0, 1), (8, .getfield 22, 3), (11, .ishl, 1), (12, .istore_n 3, 1), (13, .iload_n 3, 1), (14, .iload_n 2, 1), (15, .isub, 1), (16, .istore 4, 2), (18, .iload_n 2, 1), (19, .iload 4, 2), (21, .iload_n 2, 1)] (cJ5_newCapacity_0f7a4.data.toList.drop 0) 0 = true := by decide +kernel
def dc_cJ5_newCapacity_0f7a4_dJ5_newCapacity_0f7a4_0_0 := zw_16 db_cJ5_newCapacity_0f7a4_dJ5_newCapacity_0f7a4_0_0
def dJ5_newCapacity_0f7a4_0 := dc_cJ5_newCapacity_0f7a4_dJ5_newCapacity_0f7a4_0_0.1
def dJ5_newCapacity_0f7a4_1 := dc_cJ5_newCapacity_0f7a4_dJ5_newCapacity_0f7a4_0_0.2.1
def dJ5_newCapacity_0f7a4_4 := dc_cJ5_newCapacity_0f7a4_dJ5_newCapacity_0f7a4_0_0.2.2.1
def dJ5_newCapacity_0f7a4_5 := dc_cJ5_newCapacity_0f7a4_dJ5_newCapacity_0f7a4_0_0.2.2.2.1
def dJ5_newCapacity_0f7a4_6 := dc_cJ5_newCapacity_0f7a4_dJ5_newCapacity_0f7a4_0_0.2.2.2.2.1
def dJ5_newCapacity_0f7a4_7 := dc_cJ5_newCapacity_0f7a4_dJ5_newCapacity_0f7a4_0_0.2.2.2.2.2.1
def dJ5_newCapacity_0f7a4_8 := dc_cJ5_newCapacity_0f7a4_dJ5_newCapacity_0f7a4_0_0.2.2.2.2.2.2.1
def dJ5_newCapacity_0f7a4_11 := dc_cJ5_newCapacity_0f7a4_dJ5_newCapacity_0f7a4_0_0.2.2.2.2.2.2.2.1
def dJ5_newCapacity_0f7a4_12 := dc_cJ5_newCapacity_0f7a4_dJ5_newCapacity_0f7a4_0_0.2.2.2.2.2.2.2.2.1
def dJ5_newCapacity_0f7a4_13 := dc_cJ5_newCapacity_0f7a4_dJ5_newCapacity_0f7a4_0_0.2.2.2.2.2.2.2.2.2.1
def dJ5_newCapacity_0f7a4_14 := dc_cJ5_newCapacity_0f7a4_dJ5_newCapacity_0f7a4_0_0.2.2.2.2.2.2.2.2.2.2.1
def dJ5_newCapacity_0f7a4_15 := dc_cJ5_newCapacity_0f7a4_dJ5_newCapacity_0f7a4_0_0.2.2.2.2.2.2.2.2.2.2.2.1
def dJ5_newCapacity_0f7a4_16 := dc_cJ5_newCapacity_0f7a4_dJ5_newCapacity_0f7a4_0_0.2.2.2.2.2.2.2.2.2.2.2.2.1
def dJ5_newCapacity_0f7a4_18 := dc_cJ5_newCapacity_0f7a4_dJ5_newCapacity_0f7a4_0_0.2.2.2.2.2.2.2.2.2.2.2.2.2.1
def dJ5_newCapacity_0f7a4_19 := dc_cJ5_newCapacity_0f7a4_dJ5_newCapacity_0f7a4_0_0.2.2.2.2.2.2.2.2.2.2.2.2.2.2.1
def dJ5_newCapacity_0f7a4_21 := dc_cJ5_newCapacity_0f7a4_dJ5_newCapacity_0f7a4_0_0.2.2.2.2.2.2.2.2.2.2.2.2.2.2.2
set_option maxRecDepth 100000 in
theorem db_cJ5_newCapacity_0f7a4_dJ5_newCapacity_0f7a4_22_1 : zw [(22, .iconst 2, 1), (23, .aload_n 0, 1), (24, .getfield 22, 3), (27, .ishl, 1), (28, .iadd, 1), (29, .invokestatic 114, 3), (32, .istore 5, 2), (34, .iload 5, 2), (36, .ldc 39, 2), (38, .if_icmp .ne 13, 3), (41, .new 120, 3), (44, .dup, 1), (45, .ldc 122, 2), (47, .invokespecial 124, 3), (50, .athrow, 1), (51, .iload 5, 2)] (cJ5_newCapacity_0f7a4.data.toList.drop 22) 22 = true := by decide +kernel
def dc_cJ5_newCapacity_0f7a4_dJ5_newCapacity_0f7a4_22_1 := zw_16 db_cJ5_newCapacity_0f7a4_dJ5_newCapacity_0f7a4_22_1
def dJ5_newCapacity_0f7a4_22 := dc_cJ5_newCapacity_0f7a4_dJ5_newCapacity_0f7a4_22_1.1
def dJ5_newCapacity_0f7a4_23 := dc_cJ5_newCapacity_0f7a4_dJ5_newCapacity_0f7a4_22_1.2.1
def dJ5_newCapacity_0f7a4_24 := dc_cJ5_newCapacity_0f7a4_dJ5_newCapacity_0f7a4_22_1.2.2.1
def dJ5_newCapacity_0f7a4_27 := dc_cJ5_newCapacity_0f7a4_dJ5_newCapacity_0f7a4_22_1.2.2.2.1
def dJ5_newCapacity_0f7a4_28 := dc_cJ5_newCapacity_0f7a4_dJ5_newCapacity_0f7a4_22_1.2.2.2.2.1
def dJ5_newCapacity_0f7a4_29 := dc_cJ5_newCapacity_0f7a4_dJ5_newCapacity_0f7a4_22_1.2.2.2.2.2.1
def dJ5_newCapacity_0f7a4_32 := dc_cJ5_newCapacity_0f7a4_dJ5_newCapacity_0f7a4_22_1.2.2.2.2.2.2.1
def dJ5_newCapacity_0f7a4_34 := dc_cJ5_newCapacity_0f7a4_dJ5_newCapacity_0f7a4_22_1.2.2.2.2.2.2.2.1
def dJ5_newCapacity_0f7a4_36 := dc_cJ5_newCapacity_0f7a4_dJ5_newCapacity_0f7a4_22_1.2.2.2.2.2.2.2.2.1
def dJ5_newCapacity_0f7a4_38 := dc_cJ5_newCapacity_0f7a4_dJ5_newCapacity_0f7a4_22_1.2.2.2.2.2.2.2.2.2.1
def dJ5_newCapacity_0f7a4_41 := dc_cJ5_newCapacity_0f7a4_dJ5_newCapacity_0f7a4_22_1.2.2.2.2.2.2.2.2.2.2.1
def dJ5_newCapacity_0f7a4_44 := dc_cJ5_newCapacity_0f7a4_dJ5_newCapacity_0f7a4_22_1.2.2.2.2.2.2.2.2.2.2.2.1
def dJ5_newCapacity_0f7a4_45 := dc_cJ5_newCapacity_0f7a4_dJ5_newCapacity_0f7a4_22_1.2.2.2.2.2.2.2.2.2.2.2.2.1
def dJ5_newCapacity_0f7a4_47 := dc_cJ5_newCapacity_0f7a4_dJ5_newCapacity_0f7a4_22_1.2.2.2.2.2.2.2.2.2.2.2.2.2.1
def dJ5_newCapacity_0f7a4_50 := dc_cJ5_newCapacity_0f7a4_dJ5_newCapacity_0f7a4_22_1.2.2.2.2.2.2.2.2.2.2.2.2.2.2.1
def dJ5_newCapacity_0f7a4_51 := dc_cJ5_newCapacity_0f7a4_dJ5_newCapacity_0f7a4_22_1.2.2.2.2.2.2.2.2.2.2.2.2.2.2.2
set_option maxRecDepth 100000 in
theorem db_cJ5_newCapacity_0f7a4_dJ5_newCapacity_0f7a4_53_2 : zw [(53, .aload_n 0, 1), (54, .getfield 22, 3), (57, .ishr, 1), (58, .ireturn, 1)] (cJ5_newCapacity_0f7a4.data.toList.drop 53) 53 = true := by decide +kernel
def dc_cJ5_newCapacity_0f7a4_dJ5_newCapacity_0f7a4_53_2 := zw_4 db_cJ5_newCapacity_0f7a4_dJ5_newCapacity_0f7a4_53_2
def dJ5_newCapacity_0f7a4_53 := dc_cJ5_newCapacity_0f7a4_dJ5_newCapacity_0f7a4_53_2.1
def dJ5_newCapacity_0f7a4_54 := dc_cJ5_newCapacity_0f7a4_dJ5_newCapacity_0f7a4_53_2.2.1
def dJ5_newCapacity_0f7a4_57 := dc_cJ5_newCapacity_0f7a4_dJ5_newCapacity_0f7a4_53_2.2.2.1
def dJ5_newCapacity_0f7a4_58 := dc_cJ5_newCapacity_0f7a4_dJ5_newCapacity_0f7a4_53_2.2.2.2
set_option maxRecDepth 100000 in
theorem db_cJ7_copyOf_9075b_dJ7_copyOf_9075b_0_0 : zw [(0, .iload_n 1, 1), (1, .aload_n 0, 1), (2, .arraylength, 1), (3, .if_icmp .ne 11, 3), (6, .aload_n 0, 1), (7, .invokevirtual 310, 3), (10, .checkcast 311, 3), (13, .areturn, 1), (14, .iload_n 1, 1)] (cJ7_copyOf_9075b.data.toList.drop 0) 0 = true := by decide +kernel
def dc_cJ7_copyOf_9075b_dJ7_copyOf_9075b_0_0 := zw_9 db_cJ7_copyOf_9075b_dJ7_copyOf_9075b_0_0
def dJ7_copyOf_9075b_0 := dc_cJ7_copyOf_9075b_dJ7_copyOf_9075b_0_0.1
def dJ7_copyOf_9075b_1 := dc_cJ7_copyOf_9075b_dJ7_copyOf_9075b_0_0.2.1
def dJ7_copyOf_9075b_2 := dc_cJ7_copyOf_9075b_dJ7_copyOf_9075b_0_0.2.2.1
def dJ7_copyOf_9075b_3 := dc_cJ7_copyOf_9075b_dJ7_copyOf_9075b_0_0.2.2.2.1
def dJ7_copyOf_9075b_6 := dc_cJ7_copyOf_9075b_dJ7_copyOf_9075b_0_0.2.2.2.2.1
def dJ7_copyOf_9075b_7 := dc_cJ7_copyOf_9075b_dJ7_copyOf_9075b_0_0.2.2.2.2.2.1
def dJ7_copyOf_9075b_10 := dc_cJ7_copyOf_9075b_dJ7_copyOf_9075b_0_0.2.2.2.2.2.2.1
def dJ7_copyOf_9075b_13 := dc_cJ7_copyOf_9075b_dJ7_copyOf_9075b_0_0.2.2.2.2.2.2.2.1
def dJ7_copyOf_9075b_14 := dc_cJ7_copyOf_9075b_dJ7_copyOf_9075b_0_0.2.2.2.2.2.2.2.2
theorem dJ7_copyOf_9075b_15 : decode cJ7_copyOf_9075b 15 = .ok (.newarray .byte, 2) := by decide +kernel
set_option maxRecDepth 100000 in
theorem db_cJ7_copyOf_9075b_dJ7_copyOf_9075b_17_1 : zw [(17, .astore_n 2, 1), (18, .aload_n 0, 1), (19, .iconst 0, 1), (20, .aload_n 2, 1), (21, .iconst 0, 1), (22, .aload_n 0, 1), (23, .arraylength, 1), (24, .iload_n 1, 1), (25, .invokestatic 304, 3), (28, .invokestatic 150, 3), (31, .aload_n 2, 1), (32, .areturn, 1)] (cJ7_copyOf_9075b.data.toList.drop 17) 17 = true := by decide +kernel
def dc_cJ7_copyOf_9075b_dJ7_copyOf_9075b_17_1 := zw_12 db_cJ7_copyOf_9075b_dJ7_copyOf_9075b_17_1
def dJ7_copyOf_9075b_17 := dc_cJ7_copyOf_9075b_dJ7_copyOf_9075b_17_1.1
def dJ7_copyOf_9075b_18 := dc_cJ7_copyOf_9075b_dJ7_copyOf_9075b_17_1.2.1
def dJ7_copyOf_9075b_19 := dc_cJ7_copyOf_9075b_dJ7_copyOf_9075b_17_1.2.2.1
def dJ7_copyOf_9075b_20 := dc_cJ7_copyOf_9075b_dJ7_copyOf_9075b_17_1.2.2.2.1
def dJ7_copyOf_9075b_21 := dc_cJ7_copyOf_9075b_dJ7_copyOf_9075b_17_1.2.2.2.2.1
def dJ7_copyOf_9075b_22 := dc_cJ7_copyOf_9075b_dJ7_copyOf_9075b_17_1.2.2.2.2.2.1
def dJ7_copyOf_9075b_23 := dc_cJ7_copyOf_9075b_dJ7_copyOf_9075b_17_1.2.2.2.2.2.2.1
def dJ7_copyOf_9075b_24 := dc_cJ7_copyOf_9075b_dJ7_copyOf_9075b_17_1.2.2.2.2.2.2.2.1
def dJ7_copyOf_9075b_25 := dc_cJ7_copyOf_9075b_dJ7_copyOf_9075b_17_1.2.2.2.2.2.2.2.2.1
def dJ7_copyOf_9075b_28 := dc_cJ7_copyOf_9075b_dJ7_copyOf_9075b_17_1.2.2.2.2.2.2.2.2.2.1
def dJ7_copyOf_9075b_31 := dc_cJ7_copyOf_9075b_dJ7_copyOf_9075b_17_1.2.2.2.2.2.2.2.2.2.2.1
def dJ7_copyOf_9075b_32 := dc_cJ7_copyOf_9075b_dJ7_copyOf_9075b_17_1.2.2.2.2.2.2.2.2.2.2.2
set_option maxRecDepth 100000 in
theorem db_cJ5_ensureCapacityInternal_d00df_dJ5_ensureCapacityInternal_d00df_0_0 : zw [(0, .aload_n 0, 1), (1, .getfield 15, 3), (4, .arraylength, 1), (5, .aload_n 0, 1), (6, .getfield 22, 3), (9, .ishr, 1), (10, .istore_n 2, 1), (11, .iload_n 1, 1), (12, .iload_n 2, 1), (13, .isub, 1), (14, .ifCond .le 24, 3), (17, .aload_n 0, 1), (18, .aload_n 0, 1), (19, .getfield 15, 3), (22, .aload_n 0, 1), (23, .iload_n 1, 1)] (cJ5_ensureCapacityInternal_d00df.data.toList.drop 0) 0 = true := by decide +kernel
def dc_cJ5_ensureCapacityInternal_d00df_dJ5_ensureCapacityInternal_d00df_0_0 := zw_16 db_cJ5_ensureCapacityInternal_d00df_dJ5_ensureCapacityInternal_d00df_0_0
def dJ5_ensureCapacityInternal_d00df_0 := dc_cJ5_ensureCapacityInternal_d00df_dJ5_ensureCapacityInternal_d00df_0_0.1
def dJ5_ensureCapacityInternal_d00df_1 := dc_cJ5_ensureCapacityInternal_d00df_dJ5_ensureCapacityInternal_d00df_0_0.2.1
def dJ5_ensureCapacityInternal_d00df_4 := dc_cJ5_ensureCapacityInternal_d00df_dJ5_ensureCapacityInternal_d00df_0_0.2.2.1
def dJ5_ensureCapacityInternal_d00df_5 := dc_cJ5_ensureCapacityInternal_d00df_dJ5_ensureCapacityInternal_d00df_0_0.2.2.2.1
def dJ5_ensureCapacityInternal_d00df_6 := dc_cJ5_ensureCapacityInternal_d00df_dJ5_ensureCapacityInternal_d00df_0_0.2.2.2.2.1
def dJ5_ensureCapacityInternal_d00df_9 := dc_cJ5_ensureCapacityInternal_d00df_dJ5_ensureCapacityInternal_d00df_0_0.2.2.2.2.2.1
def dJ5_ensureCapacityInternal_d00df_10 := dc_cJ5_ensureCapacityInternal_d00df_dJ5_ensureCapacityInternal_d00df_0_0.2.2.2.2.2.2.1
def dJ5_ensureCapacityInternal_d00df_11 := dc_cJ5_ensureCapacityInternal_d00df_dJ5_ensureCapacityInternal_d00df_0_0.2.2.2.2.2.2.2.1
def dJ5_ensureCapacityInternal_d00df_12 := dc_cJ5_ensureCapacityInternal_d00df_dJ5_ensureCapacityInternal_d00df_0_0.2.2.2.2.2.2.2.2.1
def dJ5_ensureCapacityInternal_d00df_13 := dc_cJ5_ensureCapacityInternal_d00df_dJ5_ensureCapacityInternal_d00df_0_0.2.2.2.2.2.2.2.2.2.1
def dJ5_ensureCapacityInternal_d00df_14 := dc_cJ5_ensureCapacityInternal_d00df_dJ5_ensureCapacityInternal_d00df_0_0.2.2.2.2.2.2.2.2.2.2.1
def dJ5_ensureCapacityInternal_d00df_17 := dc_cJ5_ensureCapacityInternal_d00df_dJ5_ensureCapacityInternal_d00df_0_0.2.2.2.2.2.2.2.2.2.2.2.1
def dJ5_ensureCapacityInternal_d00df_18 := dc_cJ5_ensureCapacityInternal_d00df_dJ5_ensureCapacityInternal_d00df_0_0.2.2.2.2.2.2.2.2.2.2.2.2.1
def dJ5_ensureCapacityInternal_d00df_19 := dc_cJ5_ensureCapacityInternal_d00df_dJ5_ensureCapacityInternal_d00df_0_0.2.2.2.2.2.2.2.2.2.2.2.2.2.1
def dJ5_ensureCapacityInternal_d00df_22 := dc_cJ5_ensureCapacityInternal_d00df_dJ5_ensureCapacityInternal_d00df_0_0.2.2.2.2.2.2.2.2.2.2.2.2.2.2.1
def dJ5_ensureCapacityInternal_d00df_23 := dc_cJ5_ensureCapacityInternal_d00df_dJ5_ensureCapacityInternal_d00df_0_0.2.2.2.2.2.2.2.2.2.2.2.2.2.2.2
set_option maxRecDepth 100000 in
theorem db_cJ5_ensureCapacityInternal_d00df_dJ5_ensureCapacityInternal_d00df_24_1 : zw [(24, .invokevirtual 104, 3), (27, .aload_n 0, 1), (28, .getfield 22, 3), (31, .ishl, 1), (32, .invokestatic 108, 3), (35, .putfield 15, 3), (38, .return_, 1)] (cJ5_ensureCapacityInternal_d00df.data.toList.drop 24) 24 = true := by decide +kernel
def dc_cJ5_ensureCapacityInternal_d00df_dJ5_ensureCapacityInternal_d00df_24_1 := zw_7 db_cJ5_ensureCapacityInternal_d00df_dJ5_ensureCapacityInternal_d00df_24_1
def dJ5_ensureCapacityInternal_d00df_24 := dc_cJ5_ensureCapacityInternal_d00df_dJ5_ensureCapacityInternal_d00df_24_1.1
def dJ5_ensureCapacityInternal_d00df_27 := dc_cJ5_ensureCapacityInternal_d00df_dJ5_ensureCapacityInternal_d00df_24_1.2.1
def dJ5_ensureCapacityInternal_d00df_28 := dc_cJ5_ensureCapacityInternal_d00df_dJ5_ensureCapacityInternal_d00df_24_1.2.2.1
def dJ5_ensureCapacityInternal_d00df_31 := dc_cJ5_ensureCapacityInternal_d00df_dJ5_ensureCapacityInternal_d00df_24_1.2.2.2.1
def dJ5_ensureCapacityInternal_d00df_32 := dc_cJ5_ensureCapacityInternal_d00df_dJ5_ensureCapacityInternal_d00df_24_1.2.2.2.2.1
def dJ5_ensureCapacityInternal_d00df_35 := dc_cJ5_ensureCapacityInternal_d00df_dJ5_ensureCapacityInternal_d00df_24_1.2.2.2.2.2.1
def dJ5_ensureCapacityInternal_d00df_38 := dc_cJ5_ensureCapacityInternal_d00df_dJ5_ensureCapacityInternal_d00df_24_1.2.2.2.2.2.2
set_option maxRecDepth 100000 in
theorem db_cJ5_append_3fe6f_dJ5_append_3fe6f_0_0 : zw [(0, .aload_n 0, 1), (1, .aload_n 0, 1), (2, .getfield 79, 3), (5, .iconst 1, 1), (6, .iadd, 1), (7, .invokevirtual 100, 3), (10, .aload_n 0, 1), (11, .invokevirtual 83, 3), (14, .ifCond .eq 31, 3), (17, .iload_n 1, 1), (18, .invokestatic 191, 3), (21, .ifCond .eq 24, 3), (24, .aload_n 0, 1), (25, .getfield 15, 3), (28, .aload_n 0, 1), (29, .dup, 1)] (cJ5_append_3fe6f.data.toList.drop 0) 0 = true := by decide +kernel
def dc_cJ5_append_3fe6f_dJ5_append_3fe6f_0_0 := zw_16 db_cJ5_append_3fe6f_dJ5_append_3fe6f_0_0
def dJ5_append_3fe6f_0 := dc_cJ5_append_3fe6f_dJ5_append_3fe6f_0_0.1
def dJ5_append_3fe6f_1 := dc_cJ5_append_3fe6f_dJ5_append_3fe6f_0_0.2.1
def dJ5_append_3fe6f_2 := dc_cJ5_append_3fe6f_dJ5_append_3fe6f_0_0.2.2.1
def dJ5_append_3fe6f_5 := dc_cJ5_append_3fe6f_dJ5_append_3fe6f_0_0.2.2.2.1
def dJ5_append_3fe6f_6 := dc_cJ5_append_3fe6f_dJ5_append_3fe6f_0_0.2.2.2.2.1
def dJ5_append_3fe6f_7 := dc_cJ5_append_3fe6f_dJ5_append_3fe6f_0_0.2.2.2.2.2.1
def dJ5_append_3fe6f_10 := dc_cJ5_append_3fe6f_dJ5_append_3fe6f_0_0.2.2.2.2.2.2.1
def dJ5_append_3fe6f_11 := dc_cJ5_append_3fe6f_dJ5_append_3fe6f_0_0.2.2.2.2.2.2.2.1
def dJ5_append_3fe6f_14 := dc_cJ5_append_3fe6f_dJ5_append_3fe6f_0_0.2.2.2.2.2.2.2.2.1
def dJ5_append_3fe6f_17 := dc_cJ5_append_3fe6f_dJ5_append_3fe6f_0_0.2.2.2.2.2.2.2.2.2.1
def dJ5_append_3fe6f_18 := dc_cJ5_append_3fe6f_dJ5_append_3fe6f_0_0.2.2.2.2.2.2.2.2.2.2.1
def dJ5_append_3fe6f_21 := dc_cJ5_append_3fe6f_dJ5_append_3fe6f_0_0.2.2.2.2.2.2.2.2.2.2.2.1
def dJ5_append_3fe6f_24 := dc_cJ5_append_3fe6f_dJ5_append_3fe6f_0_0.2.2.2.2.2.2.2.2.2.2.2.2.1
def dJ5_append_3fe6f_25 := dc_cJ5_append_3fe6f_dJ5_append_3fe6f_0_0.2.2.2.2.2.2.2.2.2.2.2.2.2.1
def dJ5_append_3fe6f_28 := dc_cJ5_append_3fe6f_dJ5_append_3fe6f_0_0.2.2.2.2.2.2.2.2.2.2.2.2.2.2.1
def dJ5_append_3fe6f_29 := dc_cJ5_append_3fe6f_dJ5_append_3fe6f_0_0.2.2.2.2.2.2.2.2.2.2.2.2.2.2.2
set_option maxRecDepth 100000 in
theorem db_cJ5_append_3fe6f_dJ5_append_3fe6f_30_1 : zw [(30, .getfield 79, 3), (33, .dup_x1, 1), (34, .iconst 1, 1), (35, .iadd, 1), (36, .putfield 79, 3), (39, .iload_n 1, 1), (40, .i2b, 1), (41, .bastore, 1), (42, .goto 33, 3), (45, .aload_n 0, 1), (46, .invokevirtual 83, 3), (49, .ifCond .eq 7, 3), (52, .aload_n 0, 1), (53, .invokevirtual 195, 3), (56, .aload_n 0, 1), (57, .getfield 15, 3)] (cJ5_append_3fe6f.data.toList.drop 30) 30 = true := by decide +kernel
def dc_cJ5_append_3fe6f_dJ5_append_3fe6f_30_1 := zw_16 db_cJ5_append_3fe6f_dJ5_append_3fe6f_30_1
def dJ5_append_3fe6f_30 := dc_cJ5_append_3fe6f_dJ5_append_3fe6f_30_1.1
def dJ5_append_3fe6f_33 := dc_cJ5_append_3fe6f_dJ5_append_3fe6f_30_1.2.1
def dJ5_append_3fe6f_34 := dc_cJ5_append_3fe6f_dJ5_append_3fe6f_30_1.2.2.1
def dJ5_append_3fe6f_35 := dc_cJ5_append_3fe6f_dJ5_append_3fe6f_30_1.2.2.2.1
def dJ5_append_3fe6f_36 := dc_cJ5_append_3fe6f_dJ5_append_3fe6f_30_1.2.2.2.2.1
def dJ5_append_3fe6f_39 := dc_cJ5_append_3fe6f_dJ5_append_3fe6f_30_1.2.2.2.2.2.1
def dJ5_append_3fe6f_40 := dc_cJ5_append_3fe6f_dJ5_append_3fe6f_30_1.2.2.2.2.2.2.1
def dJ5_append_3fe6f_41 := dc_cJ5_append_3fe6f_dJ5_append_3fe6f_30_1.2.2.2.2.2.2.2.1
def dJ5_append_3fe6f_42 := dc_cJ5_append_3fe6f_dJ5_append_3fe6f_30_1.2.2.2.2.2.2.2.2.1
def dJ5_append_3fe6f_45 := dc_cJ5_append_3fe6f_dJ5_append_3fe6f_30_1.2.2.2.2.2.2.2.2.2.1
def dJ5_append_3fe6f_46 := dc_cJ5_append_3fe6f_dJ5_append_3fe6f_30_1.2.2.2.2.2.2.2.2.2.2.1
def dJ5_append_3fe6f_49 := dc_cJ5_append_3fe6f_dJ5_append_3fe6f_30_1.2.2.2.2.2.2.2.2.2.2.2.1
def dJ5_append_3fe6f_52 := dc_cJ5_append_3fe6f_dJ5_append_3fe6f_30_1.2.2.2.2.2.2.2.2.2.2.2.2.1
def dJ5_append_3fe6f_53 := dc_cJ5_append_3fe6f_dJ5_append_3fe6f_30_1.2.2.2.2.2.2.2.2.2.2.2.2.2.1
def dJ5_append_3fe6f_56 := dc_cJ5_append_3fe6f_dJ5_append_3fe6f_30_1.2.2.2.2.2.2.2.2.2.2.2.2.2.2.1
def dJ5_append_3fe6f_57 := dc_cJ5_append_3fe6f_dJ5_append_3fe6f_30_1.2.2.2.2.2.2.2.2.2.2.2.2.2.2.2
set_option maxRecDepth 100000 in
theorem db_cJ5_append_3fe6f_dJ5_append_3fe6f_60_2 : zw [(60, .aload_n 0, 1), (61, .dup, 1), (62, .getfield 79, 3), (65, .dup_x1, 1), (66, .iconst 1, 1), (67, .iadd, 1), (68, .putfield 79, 3), (71, .iload_n 1, 1), (72, .invokestatic 197, 3), (75, .aload_n 0, 1), (76, .areturn, 1)] (cJ5_append_3fe6f.data.toList.drop 60) 60 = true := by decide +kernel
def dc_cJ5_append_3fe6f_dJ5_append_3fe6f_60_2 := zw_11 db_cJ5_append_3fe6f_dJ5_append_3fe6f_60_2
def dJ5_append_3fe6f_60 := dc_cJ5_append_3fe6f_dJ5_append_3fe6f_60_2.1
def dJ5_append_3fe6f_61 := dc_cJ5_append_3fe6f_dJ5_append_3fe6f_60_2.2.1
def dJ5_append_3fe6f_62 := dc_cJ5_append_3fe6f_dJ5_append_3fe6f_60_2.2.2.1
def dJ5_append_3fe6f_65 := dc_cJ5_append_3fe6f_dJ5_append_3fe6f_60_2.2.2.2.1
def dJ5_append_3fe6f_66 := dc_cJ5_append_3fe6f_dJ5_append_3fe6f_60_2.2.2.2.2.1
def dJ5_append_3fe6f_67 := dc_cJ5_append_3fe6f_dJ5_append_3fe6f_60_2.2.2.2.2.2.1
def dJ5_append_3fe6f_68 := dc_cJ5_append_3fe6f_dJ5_append_3fe6f_60_2.2.2.2.2.2.2.1
def dJ5_append_3fe6f_71 := dc_cJ5_append_3fe6f_dJ5_append_3fe6f_60_2.2.2.2.2.2.2.2.1
def dJ5_append_3fe6f_72 := dc_cJ5_append_3fe6f_dJ5_append_3fe6f_60_2.2.2.2.2.2.2.2.2.1
def dJ5_append_3fe6f_75 := dc_cJ5_append_3fe6f_dJ5_append_3fe6f_60_2.2.2.2.2.2.2.2.2.2.1
def dJ5_append_3fe6f_76 := dc_cJ5_append_3fe6f_dJ5_append_3fe6f_60_2.2.2.2.2.2.2.2.2.2.2
set_option maxRecDepth 100000 in
theorem db_cJ4_append_cf468_dJ4_append_cf468_0_0 : zw [(0, .aload_n 0, 1), (1, .iload_n 1, 1), (2, .invokespecial 50, 3), (5, .pop, 1), (6, .aload_n 0, 1), (7, .areturn, 1)] (cJ4_append_cf468.data.toList.drop 0) 0 = true := by decide +kernel
def dc_cJ4_append_cf468_dJ4_append_cf468_0_0 := zw_6 db_cJ4_append_cf468_dJ4_append_cf468_0_0
def dJ4_append_cf468_0 := dc_cJ4_append_cf468_dJ4_append_cf468_0_0.1
def dJ4_append_cf468_1 := dc_cJ4_append_cf468_dJ4_append_cf468_0_0.2.1
def dJ4_append_cf468_2 := dc_cJ4_append_cf468_dJ4_append_cf468_0_0.2.2.1
def dJ4_append_cf468_5 := dc_cJ4_append_cf468_dJ4_append_cf468_0_0.2.2.2.1
def dJ4_append_cf468_6 := dc_cJ4_append_cf468_dJ4_append_cf468_0_0.2.2.2.2.1
def dJ4_append_cf468_7 := dc_cJ4_append_cf468_dJ4_append_cf468_0_0.2.2.2.2.2
theorem jd_0 : (yJ8_newLength_cabcc : MethodName).cls ≠ "java/lang/invoke/MethodHandle" ∧ (yJ8_newLength_cabcc : MethodName).cls ≠ "java/lang/invoke/VarHandle" ∧ (parseMethodDescriptor (yJ8_newLength_cabcc : MethodName).desc).map (fun d => d.parameters.length) = some 3 := by decide +kernel
theorem jd_1 : (yJ5_newCapacity_0f7a4 : MethodName).cls ≠ "java/lang/invoke/MethodHandle" ∧ (yJ5_newCapacity_0f7a4 : MethodName).cls ≠ "java/lang/invoke/VarHandle" ∧ (parseMethodDescriptor (yJ5_newCapacity_0f7a4 : MethodName).desc).map (fun d => d.parameters.length) = some 1 := by decide +kernel
theorem jd_2 : (yJ7_copyOf_9075b : MethodName).cls ≠ "java/lang/invoke/MethodHandle" ∧ (yJ7_copyOf_9075b : MethodName).cls ≠ "java/lang/invoke/VarHandle" ∧ (parseMethodDescriptor (yJ7_copyOf_9075b : MethodName).desc).map (fun d => d.parameters.length) = some 2 := by decide +kernel
theorem jd_3 : (yJ5_ensureCapacityInternal_d00df : MethodName).cls ≠ "java/lang/invoke/MethodHandle" ∧ (yJ5_ensureCapacityInternal_d00df : MethodName).cls ≠ "java/lang/invoke/VarHandle" ∧ (parseMethodDescriptor (yJ5_ensureCapacityInternal_d00df : MethodName).desc).map (fun d => d.parameters.length) = some 1 := by decide +kernel
theorem jd_4 : (yJ5_isLatin1_aae02 : MethodName).cls ≠ "java/lang/invoke/MethodHandle" ∧ (yJ5_isLatin1_aae02 : MethodName).cls ≠ "java/lang/invoke/VarHandle" ∧ (parseMethodDescriptor (yJ5_isLatin1_aae02 : MethodName).desc).map (fun d => d.parameters.length) = some 0 := by decide +kernel
theorem jd_5 : (yJ1_canEncode_fc78d : MethodName).cls ≠ "java/lang/invoke/MethodHandle" ∧ (yJ1_canEncode_fc78d : MethodName).cls ≠ "java/lang/invoke/VarHandle" ∧ (parseMethodDescriptor (yJ1_canEncode_fc78d : MethodName).desc).map (fun d => d.parameters.length) = some 1 := by decide +kernel
theorem jd_6 : (yJ5_append_3fe6f : MethodName).cls ≠ "java/lang/invoke/MethodHandle" ∧ (yJ5_append_3fe6f : MethodName).cls ≠ "java/lang/invoke/VarHandle" ∧ (parseMethodDescriptor (yJ5_append_3fe6f : MethodName).desc).map (fun d => d.parameters.length) = some 1 := by decide +kernel
end
/-! part 95.jdk -/
section
set_option maxHeartbeats 4000000 in
theorem c_J1_canEncode_fc78d {l : Launch} (ch : Int32) (hc : ¬ 255 < ch) : PMi l yJ1_canEncode_fc78d (.code yJ1_canEncode_fc78d cJ1_canEncode_fc78d 1 (Option.some Jvm.ClassFile.FieldType.boolean)) 0 [.int ch] (fun r => r = 1) := by
  refine P_meti (by decide +kernel) (Nat.le_of_ble_eq_true rfl) ?_
  intro p e s mI below meth c Z ls hx hb hml hown ht hret hl
  have hl : lv_has ls 1 [(0, .int ch)] := hl
  refine lv_iload_n hx hb dJ1_canEncode_fc78d_0 rfl (lv_at hl 0 rfl) ?_
  refine lv_sipush (v := (255 : Int32)) hx hb dJ1_canEncode_fc78d_1 (by decide) ?_
  refine lv_icmp_gt (tgt := 11) hx hb dJ1_canEncode_fc78d_4 (by decide) (fun c9 => absurd c9 hc) (fun c9 => ?_)
  refine lv_iconst (v := (1 : Int32)) hx hb dJ1_canEncode_fc78d_7 (by decide) ?_
  refine lv_goto (tgt := 12) hx hb dJ1_canEncode_fc78d_8 (by decide) ?_
  exact hret ls 12 1 rfl rfl dJ1_canEncode_fc78d_12

set_option maxHeartbeats 4000000 in
theorem c_J8_newLength_cabcc {l : Launch} (a0 a1 a2 r0 : Int32) (hr : a0 + (if a1 < a2 then a2 else a1) = r0) (h1 : ¬ r0 ≤ 0) (h2 : ¬ 2147483639 < r0) : PMi l yJ8_newLength_cabcc (.code yJ8_newLength_cabcc cJ8_newLength_cabcc 4 (Option.some Jvm.ClassFile.FieldType.int)) 1 [.int a0, .int a1, .int a2] (fun r => r = r0) := by
  refine P_meti (by decide +kernel) (Nat.le_of_ble_eq_true rfl) ?_
  intro p e s mI below meth c Z ls hx hb hml hown ht hret hl
  have hl : lv_has ls 4 [(0, .int a0), (1, .int a1), (2, .int a2)] := hl
  refine lv_iload_n hx hb dJ8_newLength_cabcc_0 rfl (lv_at hl 0 rfl) ?_
  refine lv_iload_n hx hb dJ8_newLength_cabcc_1 rfl (lv_at hl 1 rfl) ?_
  refine lv_iload_n hx hb dJ8_newLength_cabcc_2 rfl (lv_at hl 2 rfl) ?_
  refine va_mmax hx hb (hml.trans hl.1.symm) hown (ht _ q_941) (ht _ q_942) (ht _ q_64) (ht _ q_943) (Nat.le_of_ble_eq_true rfl) (Nat.le_of_ble_eq_true rfl) (show 0 ≤ 0 by omega) (show 0 ≤ 0 by omega) dJ8_newLength_cabcc_3 ?_
  refine lv_iadd hx hb dJ8_newLength_cabcc_6 ?_
  refine lv_topi (fun x1 ex1 => ?_)
  rw [show x1 = r0 from ex1.trans hr]
  refine lv_istore_n (lv' := [(3, .int r0), (0, .int a0), (1, .int a1), (2, .int a2)]) hx hb dJ8_newLength_cabcc_7 rfl hl (by decide) rfl (fun ls hl => ?_)
  refine lv_iconst (v := (0 : Int32)) hx hb dJ8_newLength_cabcc_8 (by decide) ?_
  refine lv_iload_n hx hb dJ8_newLength_cabcc_9 rfl (lv_at hl 0 rfl) ?_
  refine lv_icmp_ge (tgt := 21) hx hb dJ8_newLength_cabcc_10 (by decide) (fun c9 => absurd c9 h1) (fun c9 => ?_)
  refine lv_iload_n hx hb dJ8_newLength_cabcc_13 rfl (lv_at hl 0 rfl) ?_
  refine lv_ldc (v := (2147483639 : Int32)) hx hb hown (ht _ q_944) dJ8_newLength_cabcc_14 ?_
  refine lv_icmp_gt (tgt := 21) hx hb dJ8_newLength_cabcc_16 (by decide) (fun c9 => absurd c9 h2) (fun c9 => ?_)
  refine lv_iload_n hx hb dJ8_newLength_cabcc_19 rfl (lv_at hl 0 rfl) ?_
  exact hret ls 20 r0 rfl rfl dJ8_newLength_cabcc_20

set_option maxHeartbeats 4000000 in
set_option maxRecDepth 100000 in
theorem c_J5_isLatin1_aae02 {l : Launch} {D : va_G} {cB : ClassId} (b v m n : Nat) (f : Nat → Int32)(sz : Nat)  : JMi l yJ5_isLatin1_aae02 (.code yJ5_isLatin1_aae02 cJ5_isLatin1_aae02 1 (Option.some Jvm.ClassFile.FieldType.boolean)) 0 0 0 [.ref b] D cB [(b, .inr (11, [.ref v, .int 0, .int 0, .int (nI n)])), (v, .inl (cB, m, .inl f))] [] sz (fun (r : Int32) (u : Unit) => r = 1) (fun (u : Unit) => [bC b v n, bV cB v m f]) := by
  refine J_meti (by decide +kernel) (Nat.le_of_ble_eq_true rfl) ?_
  intro p e s mI below meth c Z ls hx hb hml hown hin ht hK hC hZ hSL hw hret hl
  have hl : lv_has ls 1 [(0, .ref b)] := hl
  suffices hh : ∀ (H : Heap) (locs : List Loc), MW D [] [(b, .inr (11, [.ref v, .int 0, .int 0, .int (nI n)])), (v, .inl (cB, m, .inl f))] (va_A [(b, .inr (11, [.ref v, .int 0, .int 0, .int (nI n)])), (v, .inl (cB, m, .inl f))] s.heap.size) s H locs → W p l e (RA 0 0 0) s mI #[.ref b] below meth c H locs 0 0 Z (F0 mI 0 ls []) from hh _ _ hw
  intro H locs hw
  refine va_gets hx hb hZ.1 hw.2.2.1 hown (ht _ q_901) (fun _ h => h) dJ5_isLatin1_aae02_0 ?_
  refine lv_if_eq (tgt := 17) hx hb dJ5_isLatin1_aae02_3 (by decide) (fun c9 => absurd c9 (by decide)) (fun c9 => ?_)
  refine lv_aload_n hx hb dJ5_isLatin1_aae02_6 rfl (lv_at hl 0 rfl) ?_
  refine va_get hx hb ht in_11 hown hK hw.1 0 rfl cl_11 1 (by decide) (ht _ q_911) (fun _ h => h) rfl dJ5_isLatin1_aae02_7 ?_
  refine lv_if_ne (tgt := 17) hx hb dJ5_isLatin1_aae02_10 (by decide) (fun c9 => absurd c9 (by decide)) (fun c9 => ?_)
  refine lv_iconst (v := (1 : Int32)) hx hb dJ5_isLatin1_aae02_13 (by decide) ?_
  refine lv_goto (tgt := 18) hx hb dJ5_isLatin1_aae02_14 (by decide) ?_
  exact hret H locs ls 18 _ _ (1 : Int32) () hw rfl rfl (show 0 ≤ 0 by omega) (show 0 ≤ 0 by omega) dJ5_isLatin1_aae02_18

theorem nl1 {m q : Nat} (hq : m < q) (h1 : m ≤ 20000) (h2 : q ≤ 20000) : nI m + (if nI (q - m) < nI (m + 2) then nI (m + 2) else nI (q - m)) = nI (cap q m) := by
  unfold cap
  rw [if_neg (show ¬ q ≤ m by omega)]
  by_cases h : q < 2 * m + 2
  · rw [if_pos h, if_pos (nI_lt (by omega) (by omega)), nI_add, show m + (m + 2) = 2 * m + 2 by omega]
  · rw [if_neg h, if_neg (nI_nlt (by omega) (by omega)), nI_add, show m + (q - m) = q by omega]
theorem cap_b {m q : Nat} (h1 : m ≤ 20000) (h2 : q ≤ 20000) : cap q m < 100000 := by
  have := cap_hi q m
  omega
theorem nl2 {m q : Nat} (hq : m < q) (h1 : m ≤ 20000) (h2 : q ≤ 20000) : ¬ nI (cap q m) ≤ 0 := nI_nle (by have := cap_ge q m; omega) (by have := cap_b h1 h2; omega)
theorem nl3 {m q : Nat} (h1 : m ≤ 20000) (h2 : q ≤ 20000) : ¬ 2147483639 < nI (cap q m) := by
  have := cap_b h1 h2
  exact nI_nlt (a := 2147483639) (by omega) (by omega)
theorem nl4 {m q : Nat} (h1 : m ≤ 20000) (h2 : q ≤ 20000) : ¬ nI (cap q m) = 2147483647 := fun e => by
  have := cap_b h1 h2
  have := (nI_eq (a := cap q m) (b := 2147483647) (by omega) (by omega)).mp e
  omega

set_option maxHeartbeats 4000000 in
set_option maxRecDepth 100000 in
theorem c_J5_newCapacity_0f7a4 {l : Launch} {D : va_G} {cB : ClassId} (b v m n q : Nat) (f : Nat → Int32)(sz : Nat) (hq : m < q) (hm : m ≤ 20000) (hq2 : q ≤ 20000) : JMi l yJ5_newCapacity_0f7a4 (.code yJ5_newCapacity_0f7a4 cJ5_newCapacity_0f7a4 6 (Option.some Jvm.ClassFile.FieldType.int)) 2 0 0 [.ref b, .int (nI q)] D cB [(b, .inr (11, [.ref v, .int 0, .int 0, .int (nI n)])), (v, .inl (cB, m, .inl f))] [] sz (fun (r : Int32) (u : Unit) => r = nI (cap q m)) (fun (u : Unit) => [bC b v n, bV cB v m f]) := by
  refine J_meti (by decide +kernel) (Nat.le_of_ble_eq_true rfl) ?_
  intro p e s mI below meth c Z ls hx hb hml hown hin ht hK hC hZ hSL hw hret hl
  have hl : lv_has ls 6 [(0, .ref b), (1, .int (nI q))] := hl
  suffices hh : ∀ (H : Heap) (locs : List Loc), MW D [] [(b, .inr (11, [.ref v, .int 0, .int 0, .int (nI n)])), (v, .inl (cB, m, .inl f))] (va_A [(b, .inr (11, [.ref v, .int 0, .int 0, .int (nI n)])), (v, .inl (cB, m, .inl f))] s.heap.size) s H locs → W p l e (RA 2 0 0) s mI #[.ref b, .int (nI q)] below meth c H locs 0 0 Z (F0 mI 0 ls []) from hh _ _ hw
  intro H locs hw
  refine lv_aload_n hx hb dJ5_newCapacity_0f7a4_0 rfl (lv_at hl 0 rfl) ?_
  refine va_get hx hb ht in_11 hown hK hw.1 0 rfl cl_11 0 (by decide) (ht _ q_910) (fun _ h => h) rfl dJ5_newCapacity_0f7a4_1 ?_
  refine va_alen hx hb hK hw.1 1 0 (x := (m, .inl f)) rfl rfl rfl dJ5_newCapacity_0f7a4_4 ?_
  refine lv_istore_n (lv' := [(2, .int (nI m)), (0, .ref b), (1, .int (nI q))]) hx hb dJ5_newCapacity_0f7a4_5 rfl hl (by decide) rfl (fun ls hl => ?_)
  refine lv_iload_n hx hb dJ5_newCapacity_0f7a4_6 rfl (lv_at hl 2 rfl) ?_
  refine lv_aload_n hx hb dJ5_newCapacity_0f7a4_7 rfl (lv_at hl 1 rfl) ?_
  refine va_get hx hb ht in_11 hown hK hw.1 0 rfl cl_11 1 (by decide) (ht _ q_911) (fun _ h => h) rfl dJ5_newCapacity_0f7a4_8 ?_
  refine lv_ishl hx hb dJ5_newCapacity_0f7a4_11 ?_
  refine lv_topi (fun x1 ex1 => ?_)
  rw [show x1 = (nI q) from ex1.trans (sb_shl0 _)]
  refine lv_istore_n (lv' := [(3, .int (nI q)), (2, .int (nI m)), (0, .ref b), (1, .int (nI q))]) hx hb dJ5_newCapacity_0f7a4_12 rfl hl (by decide) rfl (fun ls hl => ?_)
  refine lv_iload_n hx hb dJ5_newCapacity_0f7a4_13 rfl (lv_at hl 0 rfl) ?_
  refine lv_iload_n hx hb dJ5_newCapacity_0f7a4_14 rfl (lv_at hl 1 rfl) ?_
  refine lv_isub hx hb dJ5_newCapacity_0f7a4_15 ?_
  refine lv_topi (fun x2 ex2 => ?_)
  rw [show x2 = (nI (q - m)) from ex2.trans (pk_sub (by omega))]
  refine lv_istore (lv' := [(4, .int (nI (q - m))), (3, .int (nI q)), (2, .int (nI m)), (0, .ref b), (1, .int (nI q))]) hx hb dJ5_newCapacity_0f7a4_16 hl (by decide) rfl (fun ls hl => ?_)
  refine lv_iload_n hx hb dJ5_newCapacity_0f7a4_18 rfl (lv_at hl 2 rfl) ?_
  refine lv_iload hx hb dJ5_newCapacity_0f7a4_19 (lv_at hl 0 rfl) ?_
  refine lv_iload_n hx hb dJ5_newCapacity_0f7a4_21 rfl (lv_at hl 2 rfl) ?_
  refine lv_iconst (v := (2 : Int32)) hx hb dJ5_newCapacity_0f7a4_22 (by decide) ?_
  refine lv_aload_n hx hb dJ5_newCapacity_0f7a4_23 rfl (lv_at hl 3 rfl) ?_
  refine va_get hx hb ht in_11 hown hK hw.1 0 rfl cl_11 1 (by decide) (ht _ q_911) (fun _ h => h) rfl dJ5_newCapacity_0f7a4_24 ?_
  refine lv_ishl hx hb dJ5_newCapacity_0f7a4_27 ?_
  refine lv_topi (fun x3 ex3 => ?_)
  rw [show x3 = (2 : Int32) from ex3.trans (sb_shl0 _)]
  refine lv_iadd hx hb dJ5_newCapacity_0f7a4_28 ?_
  refine lv_topi (fun x4 ex4 => ?_)
  rw [show x4 = (nI (m + 2)) from ex4.trans (nI_add m 2)]
  refine P_calli (va_runS (own := "java/lang/AbstractStringBuilder") (As := [.int (nI m), .int (nI (q - m)), .int (nI (m + 2))]) (rest := []) ⟨hx, hb, hml, hown, ht⟩ (c_J8_newLength_cabcc (nI m) (nI (q - m)) (nI (m + 2)) (nI (cap q m)) (nl1 hq hm hq2) (nl2 hq hm hq2) (nl3 hm hq2)) (va_cwS 3 ht (G_S q_938 q_939 q_70 q_940) rfl rfl rfl jd_0 ⟨Nat.le_of_ble_eq_true rfl, Nat.le_of_ble_eq_true rfl⟩) ⟨PM_blind, PM_pre⟩ rfl rfl hl.1 rfl (lv_room (Nat.le_of_ble_eq_true rfl)) dJ5_newCapacity_0f7a4_29 ⟨show 0 + 0 ≤ 0 by omega, show 0 + 0 ≤ 0 by omega⟩) (fun r5 hr5 => ?_)
  rw [hr5]
  refine lv_istore (lv' := [(5, .int (nI (cap q m))), (4, .int (nI (q - m))), (3, .int (nI q)), (2, .int (nI m)), (0, .ref b), (1, .int (nI q))]) hx hb dJ5_newCapacity_0f7a4_32 hl (by decide) rfl (fun ls hl => ?_)
  refine lv_iload hx hb dJ5_newCapacity_0f7a4_34 (lv_at hl 0 rfl) ?_
  refine lv_ldc (v := (2147483647 : Int32)) hx hb hown (ht _ q_948) dJ5_newCapacity_0f7a4_36 ?_
  refine lv_icmp_ne (tgt := 51) hx hb dJ5_newCapacity_0f7a4_38 (by decide) (fun c9 => ?_) (fun c9 => absurd c9 (nl4 hm hq2))
  refine lv_iload hx hb dJ5_newCapacity_0f7a4_51 (lv_at hl 0 rfl) ?_
  refine lv_aload_n hx hb dJ5_newCapacity_0f7a4_53 rfl (lv_at hl 4 rfl) ?_
  refine va_get hx hb ht in_11 hown hK hw.1 0 rfl cl_11 1 (by decide) (ht _ q_911) (fun _ h => h) rfl dJ5_newCapacity_0f7a4_54 ?_
  refine lv_ishr hx hb dJ5_newCapacity_0f7a4_57 ?_
  refine lv_topi (fun x6 ex6 => ?_)
  rw [show x6 = (nI (cap q m)) from ex6.trans (sb_shr0 _)]
  exact hret H locs ls 58 _ _ (nI (cap q m)) () hw rfl rfl (show 0 ≤ 0 by omega) (show 0 ≤ 0 by omega) dJ5_newCapacity_0f7a4_58

set_option maxHeartbeats 4000000 in
set_option maxRecDepth 100000 in
theorem c_J7_copyOf_9075b {l : Launch} {D : va_G} {cB : ClassId} (v m q : Nat) (f : Nat → Int32)(sz : Nat) (hq : m < q) (hq2 : q ≤ 100000) (hf : FT f) : JMr l yJ7_copyOf_9075b (.code yJ7_copyOf_9075b cJ7_copyOf_9075b 3 (Option.some (Jvm.ClassFile.FieldType.array Jvm.ClassFile.FieldType.byte))) 1 1 q [.ref v, .int (nI q)] D cB [(v, .inl (cB, m, .inl f))] [] sz (fun (u : Nat × (Nat → Int32)) => FT u.2) (fun (u : Nat × (Nat → Int32)) => u.1) (fun (u : Nat × (Nat → Int32)) => [bV cB v m f, bV cB u.1 q u.2]) := by
  refine J_metr (by decide +kernel) (Nat.le_of_ble_eq_true rfl) (Or.inr ⟨_, rfl⟩) ?_
  intro p e s mI below meth c Z ls hx hb hml hown hin ht hK hC hZ hSL hw hret hl
  have hl : lv_has ls 3 [(0, .ref v), (1, .int (nI q))] := hl
  suffices hh : ∀ (H : Heap) (locs : List Loc), MW D [] [(v, .inl (cB, m, .inl f))] (va_A [(v, .inl (cB, m, .inl f))] s.heap.size) s H locs → W p l e (RA 1 1 q) s mI #[.ref v, .int (nI q)] below meth c H locs 0 0 Z (F0 mI 0 ls []) from hh _ _ hw
  intro H locs hw
  refine lv_iload_n hx hb dJ7_copyOf_9075b_0 rfl (lv_at hl 1 rfl) ?_
  refine lv_aload_n hx hb dJ7_copyOf_9075b_1 rfl (lv_at hl 0 rfl) ?_
  refine va_alen hx hb hK hw.1 0 0 (x := (m, .inl f)) rfl rfl rfl dJ7_copyOf_9075b_2 ?_
  refine lv_icmp_ne (tgt := 14) hx hb dJ7_copyOf_9075b_3 (by decide) (fun c9 => ?_) (fun c9 => absurd c9 (fun z => by have := (nI_eq (a := q) (b := m) (by omega) (by omega)).mp z; omega))
  refine lv_iload_n hx hb dJ7_copyOf_9075b_14 rfl (lv_at hl 1 rfl) ?_
  refine n_newB (B := q) hx hb ht q_385 hK hw (n := (nI q)) (⟨nI_pos (by omega), nI_clamp (by omega)⟩) (by omega) (show 0 + 1 ≤ 1 by omega) (show 0 + q ≤ q by omega) dJ7_copyOf_9075b_15 (fun q1 H hq1 hw => ?_)
  have hw : MW D [] [(v, .inl (cB, m, .inl f)), (q1, .inl (cB, q, .inl (fun _ => 0)))] (va_A [(v, .inl (cB, m, .inl f))] s.heap.size) s H locs := hw
  refine lv_astore_n (lv' := [(2, .ref q1), (0, .ref v), (1, .int (nI q))]) hx hb dJ7_copyOf_9075b_17 rfl hl (by decide) rfl (fun ls hl => ?_)
  refine lv_aload_n hx hb dJ7_copyOf_9075b_18 rfl (lv_at hl 1 rfl) ?_
  refine lv_iconst (v := (0 : Int32)) hx hb dJ7_copyOf_9075b_19 (by decide) ?_
  refine lv_aload_n hx hb dJ7_copyOf_9075b_20 rfl (lv_at hl 0 rfl) ?_
  refine lv_iconst (v := (0 : Int32)) hx hb dJ7_copyOf_9075b_21 (by decide) ?_
  refine lv_aload_n hx hb dJ7_copyOf_9075b_22 rfl (lv_at hl 1 rfl) ?_
  refine va_alen hx hb hK hw.1 0 0 (x := (m, .inl f)) rfl rfl rfl dJ7_copyOf_9075b_23 ?_
  refine lv_iload_n hx hb dJ7_copyOf_9075b_24 rfl (lv_at hl 2 rfl) ?_
  refine va_mmin hx hb (hml.trans hl.1.symm) hown (ht _ q_959) (ht _ q_960) (ht _ q_64) (ht _ q_961) (Nat.le_of_ble_eq_true rfl) (Nat.le_of_ble_eq_true rfl) (show 0 + 1 ≤ 1 by omega) (show 0 + q ≤ q by omega) dJ7_copyOf_9075b_25 ?_
  refine lv_topi (fun x2 ex2 => ?_)
  rw [show x2 = (nI m) from ex2.trans (if_neg (nI_nlt (by omega) (by omega)))]
  refine va_copyi hx hb (hml.trans hl.1.symm) hown (ht _ q_962) (ht _ q_964) (ht _ q_963) (ht _ q_72) hK hw.1 hw.2.1 hw.2.2.1 0 1 0 0 rfl rfl rfl rfl rfl (by decide) (by decide) (nI_pos (by omega)) (by rw [nI_clamp (by omega)]; show 0 + m ≤ m; omega) (by rw [nI_clamp (by omega)]; show 0 + m ≤ q; omega) (fun i _ => hf _) (Nat.le_of_ble_eq_true rfl) (Nat.le_of_ble_eq_true rfl) dJ7_copyOf_9075b_28 (fun H locs hP hD hS => ?_)
  have hw : MW D [] [(v, .inl (cB, m, .inl f)), (q1, .inl (cB, q, .inl (va_cpy f (fun _ => 0) ((0 : Int32) : Int32).toNatClampNeg ((0 : Int32) : Int32).toNatClampNeg ((nI m) : Int32).toNatClampNeg)))] (va_A [(v, .inl (cB, m, .inl f))] s.heap.size) s H locs := ⟨hP, hD, hS, hw.2.2.2⟩
  refine lv_aload_n hx hb dJ7_copyOf_9075b_31 rfl (lv_at hl 0 rfl) ?_
  exact hret H locs ls 32 _ _ (q1, (va_cpy f (fun _ => 0) ((0 : Int32) : Int32).toNatClampNeg ((0 : Int32) : Int32).toNatClampNeg ((nI m) : Int32).toNatClampNeg)) q1 hw (FT.cpy hf FT0) rfl (show 0 + 1 ≤ 1 by omega) (show 0 + q ≤ q by omega) dJ7_copyOf_9075b_32

set_option maxHeartbeats 4000000 in
set_option maxRecDepth 100000 in
theorem c0_J5_ensureCapacityInternal_d00df {l : Launch} {D : va_G} {cB : ClassId} (b v m n q : Nat) (f : Nat → Int32)(sz : Nat) (hq : q ≤ m) (hm : m ≤ 20000) (hf : FT f) : JMv l yJ5_ensureCapacityInternal_d00df (.code yJ5_ensureCapacityInternal_d00df cJ5_ensureCapacityInternal_d00df 3 (Option.none : Option Jvm.ClassFile.FieldType)) 3 0 0 [.ref b, .int (nI q)] D cB [(b, .inr (11, [.ref v, .int 0, .int 0, .int (nI n)])), (v, .inl (cB, m, .inl f))] [] sz (fun (u : Nat × (Nat → Int32)) => FT u.2) (fun (u : Nat × (Nat → Int32)) => [bC b u.1 n, bV cB u.1 m u.2]) := by
  refine J_metv (by decide +kernel) (Nat.le_of_ble_eq_true rfl) ?_
  intro p e s mI below meth c Z ls hx hb hml hown hin ht hK hC hZ hSL hw hret hl
  have hl : lv_has ls 3 [(0, .ref b), (1, .int (nI q))] := hl
  suffices hh : ∀ (H : Heap) (locs : List Loc), MW D [] [(b, .inr (11, [.ref v, .int 0, .int 0, .int (nI n)])), (v, .inl (cB, m, .inl f))] (va_A [(b, .inr (11, [.ref v, .int 0, .int 0, .int (nI n)])), (v, .inl (cB, m, .inl f))] s.heap.size) s H locs → W p l e (RA 3 0 0) s mI #[.ref b, .int (nI q)] below meth c H locs 0 0 Z (F0 mI 0 ls []) from hh _ _ hw
  intro H locs hw
  refine lv_aload_n hx hb dJ5_ensureCapacityInternal_d00df_0 rfl (lv_at hl 0 rfl) ?_
  refine va_get hx hb ht in_11 hown hK hw.1 0 rfl cl_11 0 (by decide) (ht _ q_910) (fun _ h => h) rfl dJ5_ensureCapacityInternal_d00df_1 ?_
  refine va_alen hx hb hK hw.1 1 0 (x := (m, .inl f)) rfl rfl rfl dJ5_ensureCapacityInternal_d00df_4 ?_
  refine lv_aload_n hx hb dJ5_ensureCapacityInternal_d00df_5 rfl (lv_at hl 0 rfl) ?_
  refine va_get hx hb ht in_11 hown hK hw.1 0 rfl cl_11 1 (by decide) (ht _ q_911) (fun _ h => h) rfl dJ5_ensureCapacityInternal_d00df_6 ?_
  refine lv_ishr hx hb dJ5_ensureCapacityInternal_d00df_9 ?_
  refine lv_topi (fun x1 ex1 => ?_)
  rw [show x1 = (nI m) from ex1.trans (sb_shr0 _)]
  refine lv_istore_n (lv' := [(2, .int (nI m)), (0, .ref b), (1, .int (nI q))]) hx hb dJ5_ensureCapacityInternal_d00df_10 rfl hl (by decide) rfl (fun ls hl => ?_)
  refine lv_iload_n hx hb dJ5_ensureCapacityInternal_d00df_11 rfl (lv_at hl 2 rfl) ?_
  refine lv_iload_n hx hb dJ5_ensureCapacityInternal_d00df_12 rfl (lv_at hl 0 rfl) ?_
  refine lv_isub hx hb dJ5_ensureCapacityInternal_d00df_13 ?_
  refine lv_if_le (tgt := 38) hx hb dJ5_ensureCapacityInternal_d00df_14 (by decide) (fun c9 => ?_) (fun c9 => absurd (by rw [Int32.le_iff_toInt_le, pk_sub_toInt (by omega) (by omega), Int32.toInt_zero]; omega) c9)
  exact hret H locs ls 38 _ _ (v, f) hw hf (show 0 ≤ 0 by omega) (show 0 ≤ 0 by omega) dJ5_ensureCapacityInternal_d00df_38

set_option maxHeartbeats 4000000 in
set_option maxRecDepth 100000 in
theorem c1_J5_ensureCapacityInternal_d00df {l : Launch} {D : va_G} {cB : ClassId} (b v m n q : Nat) (f : Nat → Int32)(sz : Nat) (hq : ¬ q ≤ m) (hm : m ≤ 20000) (hq2 : q ≤ 20000) (hf : FT f) : JMv l yJ5_ensureCapacityInternal_d00df (.code yJ5_ensureCapacityInternal_d00df cJ5_ensureCapacityInternal_d00df 3 (Option.none : Option Jvm.ClassFile.FieldType)) 3 1 (cap q m) [.ref b, .int (nI q)] D cB [(b, .inr (11, [.ref v, .int 0, .int 0, .int (nI n)])), (v, .inl (cB, m, .inl f))] [] sz (fun (u : Nat × (Nat → Int32)) => FT u.2) (fun (u : Nat × (Nat → Int32)) => [bC b u.1 n, bV cB u.1 (cap q m) u.2]) := by
  refine J_metv (by decide +kernel) (Nat.le_of_ble_eq_true rfl) ?_
  intro p e s mI below meth c Z ls hx hb hml hown hin ht hK hC hZ hSL hw hret hl
  have hl : lv_has ls 3 [(0, .ref b), (1, .int (nI q))] := hl
  suffices hh : ∀ (H : Heap) (locs : List Loc), MW D [] [(b, .inr (11, [.ref v, .int 0, .int 0, .int (nI n)])), (v, .inl (cB, m, .inl f))] (va_A [(b, .inr (11, [.ref v, .int 0, .int 0, .int (nI n)])), (v, .inl (cB, m, .inl f))] s.heap.size) s H locs → W p l e (RA 3 1 (cap q m)) s mI #[.ref b, .int (nI q)] below meth c H locs 0 0 Z (F0 mI 0 ls []) from hh _ _ hw
  intro H locs hw
  refine lv_aload_n hx hb dJ5_ensureCapacityInternal_d00df_0 rfl (lv_at hl 0 rfl) ?_
  refine va_get hx hb ht in_11 hown hK hw.1 0 rfl cl_11 0 (by decide) (ht _ q_910) (fun _ h => h) rfl dJ5_ensureCapacityInternal_d00df_1 ?_
  refine va_alen hx hb hK hw.1 1 0 (x := (m, .inl f)) rfl rfl rfl dJ5_ensureCapacityInternal_d00df_4 ?_
  refine lv_aload_n hx hb dJ5_ensureCapacityInternal_d00df_5 rfl (lv_at hl 0 rfl) ?_
  refine va_get hx hb ht in_11 hown hK hw.1 0 rfl cl_11 1 (by decide) (ht _ q_911) (fun _ h => h) rfl dJ5_ensureCapacityInternal_d00df_6 ?_
  refine lv_ishr hx hb dJ5_ensureCapacityInternal_d00df_9 ?_
  refine lv_topi (fun x1 ex1 => ?_)
  rw [show x1 = (nI m) from ex1.trans (sb_shr0 _)]
  refine lv_istore_n (lv' := [(2, .int (nI m)), (0, .ref b), (1, .int (nI q))]) hx hb dJ5_ensureCapacityInternal_d00df_10 rfl hl (by decide) rfl (fun ls hl => ?_)
  refine lv_iload_n hx hb dJ5_ensureCapacityInternal_d00df_11 rfl (lv_at hl 2 rfl) ?_
  refine lv_iload_n hx hb dJ5_ensureCapacityInternal_d00df_12 rfl (lv_at hl 0 rfl) ?_
  refine lv_isub hx hb dJ5_ensureCapacityInternal_d00df_13 ?_
  refine lv_if_le (tgt := 38) hx hb dJ5_ensureCapacityInternal_d00df_14 (by decide) (fun c9 => absurd c9 (by rw [Int32.le_iff_toInt_le, pk_sub_toInt (by omega) (by omega), Int32.toInt_zero]; omega)) (fun c9 => ?_)
  refine lv_aload_n hx hb dJ5_ensureCapacityInternal_d00df_17 rfl (lv_at hl 1 rfl) ?_
  refine lv_aload_n hx hb dJ5_ensureCapacityInternal_d00df_18 rfl (lv_at hl 1 rfl) ?_
  refine va_get hx hb ht in_11 hown hK hw.1 0 rfl cl_11 0 (by decide) (ht _ q_910) (fun _ h => h) rfl dJ5_ensureCapacityInternal_d00df_19 ?_
  refine lv_aload_n hx hb dJ5_ensureCapacityInternal_d00df_22 rfl (lv_at hl 1 rfl) ?_
  refine lv_iload_n hx hb dJ5_ensureCapacityInternal_d00df_23 rfl (lv_at hl 2 rfl) ?_
  refine J_calli (N0 := []) (ws := [(b, .inr (11, [.ref v, .int 0, .int 0, .int (nI n)])), (v, .inl (cB, m, .inl f))]) hw (va_runU (own := "java/lang/AbstractStringBuilder") (As := [.int (nI q)]) (rest := [.ref v, .ref b]) ⟨hx, hb, hml, hown, ht⟩ (c_J5_newCapacity_0f7a4 b v m n q f H.size (by omega) hm hq2) (cwUP (C0 := "java/lang/StringBuilder") 1 ht q_934 q_1609 q_936 q_66 q_937 (va_any rfl (hC.2 _ (List.mem_of_getElem? (i := 1) rfl))) rfl rfl jd_1 ⟨Nat.le_of_ble_eq_true rfl, Nat.le_of_ble_eq_true rfl⟩) ⟨JB.blind, J_recv hK hw (j := 0) rfl cl_11, JB.pre (N0 := []) (ws := [(b, .inr (11, [.ref v, .int 0, .int 0, .int (nI n)])), (v, .inl (cB, m, .inl f))]) hK hC hZ hw SL0⟩ rfl rfl hl.1 rfl (lv_room (Nat.le_of_ble_eq_true rfl)) dJ5_ensureCapacityInternal_d00df_24 ⟨show 0 + 0 ≤ 1 by omega, show 0 + 0 ≤ cap q m by omega⟩) (fun r4 u2 H locs hp3 hw => ?_)
  have hw : MW D [] [(b, .inr (11, [.ref v, .int 0, .int 0, .int (nI n)])), (v, .inl (cB, m, .inl f))] (va_A [(b, .inr (11, [.ref v, .int 0, .int 0, .int (nI n)])), (v, .inl (cB, m, .inl f))] s.heap.size) s H locs := hw
  rw [hp3]
  refine lv_aload_n hx hb dJ5_ensureCapacityInternal_d00df_27 rfl (lv_at hl 1 rfl) ?_
  refine va_get hx hb ht in_11 hown hK hw.1 0 rfl cl_11 1 (by decide) (ht _ q_911) (fun _ h => h) rfl dJ5_ensureCapacityInternal_d00df_28 ?_
  refine lv_ishl hx hb dJ5_ensureCapacityInternal_d00df_31 ?_
  refine lv_topi (fun x5 ex5 => ?_)
  rw [show x5 = (nI (cap q m)) from ex5.trans (sb_shl0 _)]
  refine J_callr (N0 := [(b, .inr (11, [.ref v, .int 0, .int 0, .int (nI n)]))]) (ws := [(v, .inl (cB, m, .inl f))]) hw (va_runS (own := "java/lang/AbstractStringBuilder") (As := [.ref v, .int (nI (cap q m))]) (rest := [.ref b]) ⟨hx, hb, hml, hown, ht⟩ (c_J7_copyOf_9075b v m (cap q m) f H.size (by have := cap_ge q m; omega) (by have := cap_b hm hq2; omega) hf) (va_cwS 2 ht (G_S q_949 q_950 q_71 q_951) rfl rfl rfl jd_2 ⟨Nat.le_of_ble_eq_true rfl, Nat.le_of_ble_eq_true rfl⟩) ⟨JB.blind, JB.pre (N0 := [(b, .inr (11, [.ref v, .int 0, .int 0, .int (nI n)]))]) (ws := [(v, .inl (cB, m, .inl f))]) hK hC hZ hw SL0⟩ rfl rfl hl.1 rfl (lv_room (Nat.le_of_ble_eq_true rfl)) dJ5_ensureCapacityInternal_d00df_32 ⟨show 0 + 0 + 1 ≤ 1 by omega, show 0 + 0 + (cap q m) ≤ cap q m by omega⟩) (fun u6 H locs hp7 hw => ?_)
  obtain ⟨v1, f1⟩ := u6
  have hw : MW D [] [(b, .inr (11, [.ref v, .int 0, .int 0, .int (nI n)])), (v, .inl (cB, m, .inl f)), (v1, .inl (cB, (cap q m), .inl f1))] (va_A [(b, .inr (11, [.ref v, .int 0, .int 0, .int (nI n)])), (v, .inl (cB, m, .inl f))] s.heap.size) s H locs := hw
  refine va_put (ty := (.array .byte)) hx hb ht in_11 tyJ4 tyJ4_ok nmJ4 hown hK hw.1 hw.2.1 hw.2.2.1 0 rfl cl_11 0 (by decide) (ht _ q_910) (fun _ h => h) rfl (by decide +kernel) rfl rfl (Nat.le_of_ble_eq_true rfl) dJ5_ensureCapacityInternal_d00df_35 (fun H locs hP hD hS => ?_)
  have hw : MW D [] [(b, .inr (11, [.ref v1, .int 0, .int 0, .int (nI n)])), (v, .inl (cB, m, .inl f)), (v1, .inl (cB, (cap q m), .inl f1))] (va_A [(b, .inr (11, [.ref v, .int 0, .int 0, .int (nI n)])), (v, .inl (cB, m, .inl f))] s.heap.size) s H locs := ⟨hP, hD, hS, hw.2.2.2⟩
  have hw := hw.sub (N' := [(b, .inr (11, [.ref v1, .int 0, .int 0, .int (nI n)])), (v1, .inl (cB, (cap q m), .inl f1))]) [0, 2] (by decide) rfl
  have hw : MW D [] [(b, .inr (11, [.ref v1, .int 0, .int 0, .int (nI n)])), (v1, .inl (cB, (cap q m), .inl f1))] (va_A [(b, .inr (11, [.ref v, .int 0, .int 0, .int (nI n)])), (v, .inl (cB, m, .inl f))] s.heap.size) s H locs := hw
  exact hret H locs ls 38 _ _ (v1, f1) hw hp7 (show 0 + 0 + 1 ≤ 1 by omega) (show 0 + 0 + (cap q m) ≤ cap q m by omega) dJ5_ensureCapacityInternal_d00df_38

theorem c_J5_ensureCapacityInternal_d00df {l : Launch} {D : va_G} {cB : ClassId} (b v m n q : Nat) (f : Nat → Int32) (sz : Nat) (hm : m ≤ 20000) (hq2 : q ≤ 20000) (hf : FT f) : JMv l yJ5_ensureCapacityInternal_d00df (.code yJ5_ensureCapacityInternal_d00df cJ5_ensureCapacityInternal_d00df 3 (Option.none : Option Jvm.ClassFile.FieldType)) 3 (gr q m) (gs q m) [.ref b, .int (nI q)] D cB [bC b v n, bV cB v m f] [] sz (fun (u : Nat × (Nat → Int32)) => FT u.2) (fun u => [bC b u.1 n, bV cB u.1 (cap q m) u.2]) := by
  by_cases h : q ≤ m
  · rw [(gr0 h).1, (gr0 h).2, cap_le h]
    exact c0_J5_ensureCapacityInternal_d00df b v m n q f sz h hm hf
  · rw [(grs h).1, (grs h).2]
    exact c1_J5_ensureCapacityInternal_d00df b v m n q f sz h hm hq2 hf

set_option maxHeartbeats 4000000 in
set_option maxRecDepth 100000 in
theorem c_J5_append_3fe6f {l : Launch} {D : va_G} {cB : ClassId} (b v m n : Nat) (f : Nat → Int32) (ch : Int32)(sz : Nat) (hnm : n ≤ m) (hm : m ≤ 20000) (hn : n < 20000) (hf : FT f) (hc : ¬ 255 < ch) : JMr l yJ5_append_3fe6f (.code yJ5_append_3fe6f cJ5_append_3fe6f 2 (Option.some (Jvm.ClassFile.FieldType.object "java/lang/AbstractStringBuilder"))) 4 (gr (n + 1) m) (gs (n + 1) m) [.ref b, .int ch] D cB [(b, .inr (11, [.ref v, .int 0, .int 0, .int (nI n)])), (v, .inl (cB, m, .inl f))] [] sz (fun (u : Nat × (Nat → Int32)) => FT u.2) (fun (u : Nat × (Nat → Int32)) => b) (fun (u : Nat × (Nat → Int32)) => [bC b u.1 (n + 1), bV cB u.1 (cap (n + 1) m) u.2]) := by
  refine J_metr (by decide +kernel) (Nat.le_of_ble_eq_true rfl) (Or.inl ⟨_, rfl⟩) ?_
  intro p e s mI below meth c Z ls hx hb hml hown hin ht hK hC hZ hSL hw hret hl
  have hl : lv_has ls 2 [(0, .ref b), (1, .int ch)] := hl
  suffices hh : ∀ (H : Heap) (locs : List Loc), MW D [] [(b, .inr (11, [.ref v, .int 0, .int 0, .int (nI n)])), (v, .inl (cB, m, .inl f))] (va_A [(b, .inr (11, [.ref v, .int 0, .int 0, .int (nI n)])), (v, .inl (cB, m, .inl f))] s.heap.size) s H locs → W p l e (RA 4 (gr (n + 1) m) (gs (n + 1) m)) s mI #[.ref b, .int ch] below meth c H locs 0 0 Z (F0 mI 0 ls []) from hh _ _ hw
  intro H locs hw
  refine lv_aload_n hx hb dJ5_append_3fe6f_0 rfl (lv_at hl 0 rfl) ?_
  refine lv_aload_n hx hb dJ5_append_3fe6f_1 rfl (lv_at hl 0 rfl) ?_
  refine va_get hx hb ht in_11 hown hK hw.1 0 rfl cl_11 3 (by decide) (ht _ q_913) (fun _ h => h) rfl dJ5_append_3fe6f_2 ?_
  refine lv_iconst (v := (1 : Int32)) hx hb dJ5_append_3fe6f_5 (by decide) ?_
  refine lv_iadd hx hb dJ5_append_3fe6f_6 ?_
  refine lv_topi (fun x1 ex1 => ?_)
  rw [show x1 = (nI (n + 1)) from ex1.trans (nI_add n 1)]
  refine J_callv (N0 := []) (ws := [(b, .inr (11, [.ref v, .int 0, .int 0, .int (nI n)])), (v, .inl (cB, m, .inl f))]) hw (va_runU (own := "java/lang/AbstractStringBuilder") (As := [.int (nI (n + 1))]) (rest := []) ⟨hx, hb, hml, hown, ht⟩ (c_J5_ensureCapacityInternal_d00df b v m n (n + 1) f H.size hm (by omega) hf) (cwUP (C0 := "java/lang/StringBuilder") 1 ht q_930 q_1608 q_932 q_66 q_933 (va_any rfl (hC.2 _ (List.mem_of_getElem? (i := 0) rfl))) rfl rfl jd_3 ⟨Nat.le_of_ble_eq_true rfl, Nat.le_of_ble_eq_true rfl⟩) ⟨JB.blind, J_recv hK hw (j := 0) rfl cl_11, JB.pre (N0 := []) (ws := [(b, .inr (11, [.ref v, .int 0, .int 0, .int (nI n)])), (v, .inl (cB, m, .inl f))]) hK hC hZ hw SL0⟩ rfl rfl hl.1 rfl (lv_room (Nat.le_of_ble_eq_true rfl)) dJ5_append_3fe6f_7 ⟨show 0 + (gr (n + 1) m) ≤ gr (n + 1) m by omega, show 0 + (gs (n + 1) m) ≤ gs (n + 1) m by omega⟩) (fun u2 H locs hp3 hw => ?_)
  obtain ⟨v1, f1⟩ := u2
  have hw : MW D [] [(b, .inr (11, [.ref v1, .int 0, .int 0, .int (nI n)])), (v1, .inl (cB, (cap (n + 1) m), .inl f1))] (va_A [(b, .inr (11, [.ref v, .int 0, .int 0, .int (nI n)])), (v, .inl (cB, m, .inl f))] s.heap.size) s H locs := hw
  refine lv_aload_n hx hb dJ5_append_3fe6f_10 rfl (lv_at hl 0 rfl) ?_
  refine J_calli (N0 := []) (ws := [(b, .inr (11, [.ref v1, .int 0, .int 0, .int (nI n)])), (v1, .inl (cB, (cap (n + 1) m), .inl f1))]) hw (va_runU (own := "java/lang/AbstractStringBuilder") (As := []) (rest := []) ⟨hx, hb, hml, hown, ht⟩ (c_J5_isLatin1_aae02 b v1 (cap (n + 1) m) n f1 H.size) (va_cwU (C := "java/lang/StringBuilder") (owner := "java/lang/AbstractStringBuilder") 0 ht (G_U q_965 q_967 q_968 q_966 q_66 q_969) rfl rfl rfl rfl jd_4 ⟨Nat.le_of_ble_eq_true rfl, Nat.le_of_ble_eq_true rfl⟩) ⟨JB.blind, J_recv hK hw (j := 0) rfl cl_11, JB.pre (N0 := []) (ws := [(b, .inr (11, [.ref v1, .int 0, .int 0, .int (nI n)])), (v1, .inl (cB, (cap (n + 1) m), .inl f1))]) hK hC hZ hw SL0⟩ rfl rfl hl.1 rfl (lv_room (Nat.le_of_ble_eq_true rfl)) dJ5_append_3fe6f_11 ⟨show 0 + (gr (n + 1) m) + 0 ≤ gr (n + 1) m by omega, show 0 + (gs (n + 1) m) + 0 ≤ gs (n + 1) m by omega⟩) (fun r7 u5 H locs hp6 hw => ?_)
  have hw : MW D [] [(b, .inr (11, [.ref v1, .int 0, .int 0, .int (nI n)])), (v1, .inl (cB, (cap (n + 1) m), .inl f1))] (va_A [(b, .inr (11, [.ref v, .int 0, .int 0, .int (nI n)])), (v, .inl (cB, m, .inl f))] s.heap.size) s H locs := hw
  rw [hp6]
  refine lv_if_eq (tgt := 45) hx hb dJ5_append_3fe6f_14 (by decide) (fun c9 => absurd c9 (by decide)) (fun c9 => ?_)
  refine lv_iload_n hx hb dJ5_append_3fe6f_17 rfl (lv_at hl 1 rfl) ?_
  refine P_calli (va_runS (own := "java/lang/AbstractStringBuilder") (As := [.int ch]) (rest := []) ⟨hx, hb, hml, hown, ht⟩ (c_J1_canEncode_fc78d ch hc) (va_cwS 1 ht (G_S q_970 q_971 q_73 q_972) rfl rfl rfl jd_5 ⟨Nat.le_of_ble_eq_true rfl, Nat.le_of_ble_eq_true rfl⟩) ⟨PM_blind, PM_pre⟩ rfl rfl hl.1 rfl (lv_room (Nat.le_of_ble_eq_true rfl)) dJ5_append_3fe6f_18 ⟨show 0 + (gr (n + 1) m) + 0 + 0 ≤ gr (n + 1) m by omega, show 0 + (gs (n + 1) m) + 0 + 0 ≤ gs (n + 1) m by omega⟩) (fun r8 hr8 => ?_)
  rw [hr8]
  refine lv_if_eq (tgt := 45) hx hb dJ5_append_3fe6f_21 (by decide) (fun c9 => absurd c9 (by decide)) (fun c9 => ?_)
  refine lv_aload_n hx hb dJ5_append_3fe6f_24 rfl (lv_at hl 0 rfl) ?_
  refine va_get hx hb ht in_11 hown hK hw.1 0 rfl cl_11 0 (by decide) (ht _ q_910) (fun _ h => h) rfl dJ5_append_3fe6f_25 ?_
  refine lv_aload_n hx hb dJ5_append_3fe6f_28 rfl (lv_at hl 0 rfl) ?_
  refine lv_dup hx hb dJ5_append_3fe6f_29 rfl ?_
  refine va_get hx hb ht in_11 hown hK hw.1 0 rfl cl_11 3 (by decide) (ht _ q_913) (fun _ h => h) rfl dJ5_append_3fe6f_30 ?_
  refine lv_dup_x1 hx hb dJ5_append_3fe6f_33 rfl rfl ?_
  refine lv_iconst (v := (1 : Int32)) hx hb dJ5_append_3fe6f_34 (by decide) ?_
  refine lv_iadd hx hb dJ5_append_3fe6f_35 ?_
  refine lv_topi (fun x9 ex9 => ?_)
  rw [show x9 = (nI (n + 1)) from ex9.trans (nI_add n 1)]
  refine va_put (ty := .int) hx hb ht in_11 tyJ4 tyJ4_ok nmJ4 hown hK hw.1 hw.2.1 hw.2.2.1 0 rfl cl_11 3 (by decide) (ht _ q_913) (fun _ h => h) rfl (by decide +kernel) rfl rfl (Nat.le_of_ble_eq_true rfl) dJ5_append_3fe6f_36 (fun H locs hP hD hS => ?_)
  have hw : MW D [] [(b, .inr (11, [.ref v1, .int 0, .int 0, .int (nI (n + 1))])), (v1, .inl (cB, (cap (n + 1) m), .inl f1))] (va_A [(b, .inr (11, [.ref v, .int 0, .int 0, .int (nI n)])), (v, .inl (cB, m, .inl f))] s.heap.size) s H locs := ⟨hP, hD, hS, hw.2.2.2⟩
  refine lv_iload_n hx hb dJ5_append_3fe6f_39 rfl (lv_at hl 1 rfl) ?_
  refine lv_i2b hx hb dJ5_append_3fe6f_40 rfl ?_
  refine va_bast hx hb hK hw.1 hw.2.1 hw.2.2.1 1 0 rfl rfl (vp_in_nI (by have := cap_ge (n + 1) m; omega) (by have := cap_b hm (show n + 1 ≤ 20000 by omega); omega)) dJ5_append_3fe6f_41 (fun H locs hP hD hS => ?_)
  have hw : MW D [] [(b, .inr (11, [.ref v1, .int 0, .int 0, .int (nI (n + 1))])), (v1, .inl (cB, (cap (n + 1) m), .inl (upd f1 ((nI n) : Int32).toNatClampNeg (vp_nar .byte ch.toInt8.toInt32))))] (va_A [(b, .inr (11, [.ref v, .int 0, .int 0, .int (nI n)])), (v, .inl (cB, m, .inl f))] s.heap.size) s H locs := ⟨hP, hD, hS, hw.2.2.2⟩
  refine lv_goto (tgt := 75) hx hb dJ5_append_3fe6f_42 (by decide) ?_
  refine lv_aload_n hx hb dJ5_append_3fe6f_75 rfl (lv_at hl 0 rfl) ?_
  exact hret H locs ls 76 _ _ (v1, (upd f1 ((nI n) : Int32).toNatClampNeg (vp_nar .byte ch.toInt8.toInt32))) b hw (FT.st hp3 (by rw [pk_vb]; exact pk_fb _)) rfl (show 0 + (gr (n + 1) m) + 0 ≤ gr (n + 1) m by omega) (show 0 + (gs (n + 1) m) + 0 ≤ gs (n + 1) m by omega) dJ5_append_3fe6f_76

set_option maxHeartbeats 4000000 in
set_option maxRecDepth 100000 in
theorem c_J4_append_cf468 {l : Launch} {D : va_G} {cB : ClassId} (b v m n : Nat) (f : Nat → Int32) (ch : Int32)(sz : Nat) (hnm : n ≤ m) (hm : m ≤ 20000) (hn : n < 20000) (hf : FT f) (hc : ¬ 255 < ch) : JMr l yJ4_append_cf468 (.code yJ4_append_cf468 cJ4_append_cf468 2 (Option.some (Jvm.ClassFile.FieldType.object "java/lang/StringBuilder"))) 5 (gr (n + 1) m) (gs (n + 1) m) [.ref b, .int ch] D cB [(b, .inr (11, [.ref v, .int 0, .int 0, .int (nI n)])), (v, .inl (cB, m, .inl f))] [] sz (fun (u : Nat × (Nat → Int32)) => FT u.2) (fun (u : Nat × (Nat → Int32)) => b) (fun (u : Nat × (Nat → Int32)) => [bC b u.1 (n + 1), bV cB u.1 (cap (n + 1) m) u.2]) := by
  refine J_metr (by decide +kernel) (Nat.le_of_ble_eq_true rfl) (Or.inl ⟨_, rfl⟩) ?_
  intro p e s mI below meth c Z ls hx hb hml hown hin ht hK hC hZ hSL hw hret hl
  have hl : lv_has ls 2 [(0, .ref b), (1, .int ch)] := hl
  suffices hh : ∀ (H : Heap) (locs : List Loc), MW D [] [(b, .inr (11, [.ref v, .int 0, .int 0, .int (nI n)])), (v, .inl (cB, m, .inl f))] (va_A [(b, .inr (11, [.ref v, .int 0, .int 0, .int (nI n)])), (v, .inl (cB, m, .inl f))] s.heap.size) s H locs → W p l e (RA 5 (gr (n + 1) m) (gs (n + 1) m)) s mI #[.ref b, .int ch] below meth c H locs 0 0 Z (F0 mI 0 ls []) from hh _ _ hw
  intro H locs hw
  refine lv_aload_n hx hb dJ4_append_cf468_0 rfl (lv_at hl 0 rfl) ?_
  refine lv_iload_n hx hb dJ4_append_cf468_1 rfl (lv_at hl 1 rfl) ?_
  obtain ⟨cS, hat⟩ := classAt_of (ht _ q_893)
  refine J_callr (N0 := []) (ws := [(b, .inr (11, [.ref v, .int 0, .int 0, .int (nI n)])), (v, .inl (cB, m, .inl f))]) hw (va_runSU hat (own := "java/lang/StringBuilder") (As := [.int ch]) (rest := []) ⟨hx, hb, hml, hown, ht⟩ (c_J5_append_3fe6f b v m n f ch H.size hnm hm hn hf hc) (va_cwSU 1 ht (G_SU q_927 q_1607 q_922 q_928 q_66 q_929) rfl rfl rfl ⟨by decide, by decide +kernel⟩ ⟨Nat.le_of_ble_eq_true rfl, Nat.le_of_ble_eq_true rfl⟩) ⟨JB.blind, J_recv hK hw (j := 0) rfl cl_11, JB.pre (N0 := []) (ws := [(b, .inr (11, [.ref v, .int 0, .int 0, .int (nI n)])), (v, .inl (cB, m, .inl f))]) hK hC hZ hw SL0⟩ rfl rfl hl.1 rfl (lv_room (Nat.le_of_ble_eq_true rfl)) dJ4_append_cf468_2 ⟨show 0 + (gr (n + 1) m) ≤ gr (n + 1) m by omega, show 0 + (gs (n + 1) m) ≤ gs (n + 1) m by omega⟩) (fun u1 H locs hp2 hw => ?_)
  obtain ⟨v1, f1⟩ := u1
  have hw : MW D [] [(b, .inr (11, [.ref v1, .int 0, .int 0, .int (nI (n + 1))])), (v1, .inl (cB, (cap (n + 1) m), .inl f1))] (va_A [(b, .inr (11, [.ref v, .int 0, .int 0, .int (nI n)])), (v, .inl (cB, m, .inl f))] s.heap.size) s H locs := hw
  refine lv_pop hx hb dJ4_append_cf468_5 rfl ?_
  refine lv_aload_n hx hb dJ4_append_cf468_6 rfl (lv_at hl 0 rfl) ?_
  exact hret H locs ls 7 _ _ (v1, f1) b hw hp2 rfl (show 0 + (gr (n + 1) m) ≤ gr (n + 1) m by omega) (show 0 + (gs (n + 1) m) ≤ gs (n + 1) m by omega) dJ4_append_cf468_7
end
/-! part 96.jdk2 -/
section
set_option maxRecDepth 100000 in
theorem db_cJ6_stringSize_0f7a4_dJ6_stringSize_0f7a4_0_0 : zw [(0, .iconst 1, 1), (1, .istore_n 1, 1), (2, .iload_n 0, 1), (3, .ifCond .lt 8, 3), (6, .iconst 0, 1), (7, .istore_n 1, 1), (8, .iload_n 0, 1), (9, .ineg, 1), (10, .istore_n 0, 1), (11, .bipush (-10), 2), (13, .istore_n 2, 1), (14, .iconst 1, 1), (15, .istore_n 3, 1), (16, .iload_n 3, 1), (17, .bipush 10, 2), (19, .if_icmp .ge 23, 3)] (cJ6_stringSize_0f7a4.data.toList.drop 0) 0 = true := by decide +kernel
def dc_cJ6_stringSize_0f7a4_dJ6_stringSize_0f7a4_0_0 := zw_16 db_cJ6_stringSize_0f7a4_dJ6_stringSize_0f7a4_0_0
def dJ6_stringSize_0f7a4_0 := dc_cJ6_stringSize_0f7a4_dJ6_stringSize_0f7a4_0_0.1
def dJ6_stringSize_0f7a4_1 := dc_cJ6_stringSize_0f7a4_dJ6_stringSize_0f7a4_0_0.2.1
def dJ6_stringSize_0f7a4_2 := dc_cJ6_stringSize_0f7a4_dJ6_stringSize_0f7a4_0_0.2.2.1
def dJ6_stringSize_0f7a4_3 := dc_cJ6_stringSize_0f7a4_dJ6_stringSize_0f7a4_0_0.2.2.2.1
def dJ6_stringSize_0f7a4_6 := dc_cJ6_stringSize_0f7a4_dJ6_stringSize_0f7a4_0_0.2.2.2.2.1
def dJ6_stringSize_0f7a4_7 := dc_cJ6_stringSize_0f7a4_dJ6_stringSize_0f7a4_0_0.2.2.2.2.2.1
def dJ6_stringSize_0f7a4_8 := dc_cJ6_stringSize_0f7a4_dJ6_stringSize_0f7a4_0_0.2.2.2.2.2.2.1
def dJ6_stringSize_0f7a4_9 := dc_cJ6_stringSize_0f7a4_dJ6_stringSize_0f7a4_0_0.2.2.2.2.2.2.2.1
def dJ6_stringSize_0f7a4_10 := dc_cJ6_stringSize_0f7a4_dJ6_stringSize_0f7a4_0_0.2.2.2.2.2.2.2.2.1
def dJ6_stringSize_0f7a4_11 := dc_cJ6_stringSize_0f7a4_dJ6_stringSize_0f7a4_0_0.2.2.2.2.2.2.2.2.2.1
def dJ6_stringSize_0f7a4_13 := dc_cJ6_stringSize_0f7a4_dJ6_stringSize_0f7a4_0_0.2.2.2.2.2.2.2.2.2.2.1
def dJ6_stringSize_0f7a4_14 := dc_cJ6_stringSize_0f7a4_dJ6_stringSize_0f7a4_0_0.2.2.2.2.2.2.2.2.2.2.2.1
def dJ6_stringSize_0f7a4_15 := dc_cJ6_stringSize_0f7a4_dJ6_stringSize_0f7a4_0_0.2.2.2.2.2.2.2.2.2.2.2.2.1
def dJ6_stringSize_0f7a4_16 := dc_cJ6_stringSize_0f7a4_dJ6_stringSize_0f7a4_0_0.2.2.2.2.2.2.2.2.2.2.2.2.2.1
def dJ6_stringSize_0f7a4_17 := dc_cJ6_stringSize_0f7a4_dJ6_stringSize_0f7a4_0_0.2.2.2.2.2.2.2.2.2.2.2.2.2.2.1
def dJ6_stringSize_0f7a4_19 := dc_cJ6_stringSize_0f7a4_dJ6_stringSize_0f7a4_0_0.2.2.2.2.2.2.2.2.2.2.2.2.2.2.2
set_option maxRecDepth 100000 in
theorem db_cJ6_stringSize_0f7a4_dJ6_stringSize_0f7a4_22_1 : zw [(22, .iload_n 0, 1), (23, .iload_n 2, 1), (24, .if_icmp .le 7, 3), (27, .iload_n 3, 1), (28, .iload_n 1, 1), (29, .iadd, 1), (30, .ireturn, 1), (31, .bipush 10, 2), (33, .iload_n 2, 1), (34, .imul, 1), (35, .istore_n 2, 1), (36, .iinc 3 1, 3), (39, .goto (-23), 3), (42, .bipush 10, 2), (44, .iload_n 1, 1), (45, .iadd, 1)] (cJ6_stringSize_0f7a4.data.toList.drop 22) 22 = true := by decide +kernel
def dc_cJ6_stringSize_0f7a4_dJ6_stringSize_0f7a4_22_1 := zw_16 db_cJ6_stringSize_0f7a4_dJ6_stringSize_0f7a4_22_1
def dJ6_stringSize_0f7a4_22 := dc_cJ6_stringSize_0f7a4_dJ6_stringSize_0f7a4_22_1.1
def dJ6_stringSize_0f7a4_23 := dc_cJ6_stringSize_0f7a4_dJ6_stringSize_0f7a4_22_1.2.1
def dJ6_stringSize_0f7a4_24 := dc_cJ6_stringSize_0f7a4_dJ6_stringSize_0f7a4_22_1.2.2.1
def dJ6_stringSize_0f7a4_27 := dc_cJ6_stringSize_0f7a4_dJ6_stringSize_0f7a4_22_1.2.2.2.1
def dJ6_stringSize_0f7a4_28 := dc_cJ6_stringSize_0f7a4_dJ6_stringSize_0f7a4_22_1.2.2.2.2.1
def dJ6_stringSize_0f7a4_29 := dc_cJ6_stringSize_0f7a4_dJ6_stringSize_0f7a4_22_1.2.2.2.2.2.1
def dJ6_stringSize_0f7a4_30 := dc_cJ6_stringSize_0f7a4_dJ6_stringSize_0f7a4_22_1.2.2.2.2.2.2.1
def dJ6_stringSize_0f7a4_31 := dc_cJ6_stringSize_0f7a4_dJ6_stringSize_0f7a4_22_1.2.2.2.2.2.2.2.1
def dJ6_stringSize_0f7a4_33 := dc_cJ6_stringSize_0f7a4_dJ6_stringSize_0f7a4_22_1.2.2.2.2.2.2.2.2.1
def dJ6_stringSize_0f7a4_34 := dc_cJ6_stringSize_0f7a4_dJ6_stringSize_0f7a4_22_1.2.2.2.2.2.2.2.2.2.1
def dJ6_stringSize_0f7a4_35 := dc_cJ6_stringSize_0f7a4_dJ6_stringSize_0f7a4_22_1.2.2.2.2.2.2.2.2.2.2.1
def dJ6_stringSize_0f7a4_36 := dc_cJ6_stringSize_0f7a4_dJ6_stringSize_0f7a4_22_1.2.2.2.2.2.2.2.2.2.2.2.1
def dJ6_stringSize_0f7a4_39 := dc_cJ6_stringSize_0f7a4_dJ6_stringSize_0f7a4_22_1.2.2.2.2.2.2.2.2.2.2.2.2.1
def dJ6_stringSize_0f7a4_42 := dc_cJ6_stringSize_0f7a4_dJ6_stringSize_0f7a4_22_1.2.2.2.2.2.2.2.2.2.2.2.2.2.1
def dJ6_stringSize_0f7a4_44 := dc_cJ6_stringSize_0f7a4_dJ6_stringSize_0f7a4_22_1.2.2.2.2.2.2.2.2.2.2.2.2.2.2.1
def dJ6_stringSize_0f7a4_45 := dc_cJ6_stringSize_0f7a4_dJ6_stringSize_0f7a4_22_1.2.2.2.2.2.2.2.2.2.2.2.2.2.2.2
set_option maxRecDepth 100000 in
theorem db_cJ6_stringSize_0f7a4_dJ6_stringSize_0f7a4_46_2 : zw [(46, .ireturn, 1)] (cJ6_stringSize_0f7a4.data.toList.drop 46) 46 = true := by decide +kernel
def dJ6_stringSize_0f7a4_46 := zw_1 db_cJ6_stringSize_0f7a4_dJ6_stringSize_0f7a4_46_2
set_option maxRecDepth 100000 in
theorem db_cJ6_getChars_ba4f3_dJ6_getChars_ba4f3_0_0 : zw [(0, .iload_n 1, 1), (1, .istore 5, 2), (3, .iload_n 0, 1), (4, .ifCond .ge 7, 3), (7, .iconst 1, 1), (8, .goto 4, 3), (11, .iconst 0, 1), (12, .istore 6, 2), (14, .iload 6, 2), (16, .ifCond .ne 6, 3), (19, .iload_n 0, 1), (20, .ineg, 1), (21, .istore_n 0, 1), (22, .iload_n 0, 1), (23, .bipush (-100), 2), (25, .if_icmp .gt 47, 3)] (cJ6_getChars_ba4f3.data.toList.drop 0) 0 = true := by decide +kernel
def dc_cJ6_getChars_ba4f3_dJ6_getChars_ba4f3_0_0 := zw_16 db_cJ6_getChars_ba4f3_dJ6_getChars_ba4f3_0_0
def dJ6_getChars_ba4f3_0 := dc_cJ6_getChars_ba4f3_dJ6_getChars_ba4f3_0_0.1
def dJ6_getChars_ba4f3_1 := dc_cJ6_getChars_ba4f3_dJ6_getChars_ba4f3_0_0.2.1
def dJ6_getChars_ba4f3_3 := dc_cJ6_getChars_ba4f3_dJ6_getChars_ba4f3_0_0.2.2.1
def dJ6_getChars_ba4f3_4 := dc_cJ6_getChars_ba4f3_dJ6_getChars_ba4f3_0_0.2.2.2.1
def dJ6_getChars_ba4f3_7 := dc_cJ6_getChars_ba4f3_dJ6_getChars_ba4f3_0_0.2.2.2.2.1
def dJ6_getChars_ba4f3_8 := dc_cJ6_getChars_ba4f3_dJ6_getChars_ba4f3_0_0.2.2.2.2.2.1
def dJ6_getChars_ba4f3_11 := dc_cJ6_getChars_ba4f3_dJ6_getChars_ba4f3_0_0.2.2.2.2.2.2.1
def dJ6_getChars_ba4f3_12 := dc_cJ6_getChars_ba4f3_dJ6_getChars_ba4f3_0_0.2.2.2.2.2.2.2.1
def dJ6_getChars_ba4f3_14 := dc_cJ6_getChars_ba4f3_dJ6_getChars_ba4f3_0_0.2.2.2.2.2.2.2.2.1
def dJ6_getChars_ba4f3_16 := dc_cJ6_getChars_ba4f3_dJ6_getChars_ba4f3_0_0.2.2.2.2.2.2.2.2.2.1
def dJ6_getChars_ba4f3_19 := dc_cJ6_getChars_ba4f3_dJ6_getChars_ba4f3_0_0.2.2.2.2.2.2.2.2.2.2.1
def dJ6_getChars_ba4f3_20 := dc_cJ6_getChars_ba4f3_dJ6_getChars_ba4f3_0_0.2.2.2.2.2.2.2.2.2.2.2.1
def dJ6_getChars_ba4f3_21 := dc_cJ6_getChars_ba4f3_dJ6_getChars_ba4f3_0_0.2.2.2.2.2.2.2.2.2.2.2.2.1
def dJ6_getChars_ba4f3_22 := dc_cJ6_getChars_ba4f3_dJ6_getChars_ba4f3_0_0.2.2.2.2.2.2.2.2.2.2.2.2.2.1
def dJ6_getChars_ba4f3_23 := dc_cJ6_getChars_ba4f3_dJ6_getChars_ba4f3_0_0.2.2.2.2.2.2.2.2.2.2.2.2.2.2.1
def dJ6_getChars_ba4f3_25 := dc_cJ6_getChars_ba4f3_dJ6_getChars_ba4f3_0_0.2.2.2.2.2.2.2.2.2.2.2.2.2.2.2
set_option maxRecDepth 100000 in
theorem db_cJ6_getChars_ba4f3_dJ6_getChars_ba4f3_28_1 : zw [(28, .iload_n 0, 1), (29, .bipush 100, 2), (31, .idiv, 1), (32, .istore_n 3, 1), (33, .iload_n 3, 1), (34, .bipush 100, 2), (36, .imul, 1), (37, .iload_n 0, 1), (38, .isub, 1), (39, .istore 4, 2), (41, .iload_n 3, 1), (42, .istore_n 0, 1), (43, .aload_n 2, 1), (44, .iinc 5 (-1), 3), (47, .iload 5, 2), (49, .getstatic 83, 3)] (cJ6_getChars_ba4f3.data.toList.drop 28) 28 = true := by decide +kernel
def dc_cJ6_getChars_ba4f3_dJ6_getChars_ba4f3_28_1 := zw_16 db_cJ6_getChars_ba4f3_dJ6_getChars_ba4f3_28_1
def dJ6_getChars_ba4f3_28 := dc_cJ6_getChars_ba4f3_dJ6_getChars_ba4f3_28_1.1
def dJ6_getChars_ba4f3_29 := dc_cJ6_getChars_ba4f3_dJ6_getChars_ba4f3_28_1.2.1
def dJ6_getChars_ba4f3_31 := dc_cJ6_getChars_ba4f3_dJ6_getChars_ba4f3_28_1.2.2.1
def dJ6_getChars_ba4f3_32 := dc_cJ6_getChars_ba4f3_dJ6_getChars_ba4f3_28_1.2.2.2.1
def dJ6_getChars_ba4f3_33 := dc_cJ6_getChars_ba4f3_dJ6_getChars_ba4f3_28_1.2.2.2.2.1
def dJ6_getChars_ba4f3_34 := dc_cJ6_getChars_ba4f3_dJ6_getChars_ba4f3_28_1.2.2.2.2.2.1
def dJ6_getChars_ba4f3_36 := dc_cJ6_getChars_ba4f3_dJ6_getChars_ba4f3_28_1.2.2.2.2.2.2.1
def dJ6_getChars_ba4f3_37 := dc_cJ6_getChars_ba4f3_dJ6_getChars_ba4f3_28_1.2.2.2.2.2.2.2.1
def dJ6_getChars_ba4f3_38 := dc_cJ6_getChars_ba4f3_dJ6_getChars_ba4f3_28_1.2.2.2.2.2.2.2.2.1
def dJ6_getChars_ba4f3_39 := dc_cJ6_getChars_ba4f3_dJ6_getChars_ba4f3_28_1.2.2.2.2.2.2.2.2.2.1
def dJ6_getChars_ba4f3_41 := dc_cJ6_getChars_ba4f3_dJ6_getChars_ba4f3_28_1.2.2.2.2.2.2.2.2.2.2.1
def dJ6_getChars_ba4f3_42 := dc_cJ6_getChars_ba4f3_dJ6_getChars_ba4f3_28_1.2.2.2.2.2.2.2.2.2.2.2.1
def dJ6_getChars_ba4f3_43 := dc_cJ6_getChars_ba4f3_dJ6_getChars_ba4f3_28_1.2.2.2.2.2.2.2.2.2.2.2.2.1
def dJ6_getChars_ba4f3_44 := dc_cJ6_getChars_ba4f3_dJ6_getChars_ba4f3_28_1.2.2.2.2.2.2.2.2.2.2.2.2.2.1
def dJ6_getChars_ba4f3_47 := dc_cJ6_getChars_ba4f3_dJ6_getChars_ba4f3_28_1.2.2.2.2.2.2.2.2.2.2.2.2.2.2.1
def dJ6_getChars_ba4f3_49 := dc_cJ6_getChars_ba4f3_dJ6_getChars_ba4f3_28_1.2.2.2.2.2.2.2.2.2.2.2.2.2.2.2
set_option maxRecDepth 100000 in
theorem db_cJ6_getChars_ba4f3_dJ6_getChars_ba4f3_52_2 : zw [(52, .iload 4, 2), (54, .baload, 1), (55, .bastore, 1), (56, .aload_n 2, 1), (57, .iinc 5 (-1), 3), (60, .iload 5, 2), (62, .getstatic 87, 3), (65, .iload 4, 2), (67, .baload, 1), (68, .bastore, 1), (69, .goto (-47), 3), (72, .aload_n 2, 1), (73, .iinc 5 (-1), 3), (76, .iload 5, 2), (78, .getstatic 83, 3), (81, .iload_n 0, 1)] (cJ6_getChars_ba4f3.data.toList.drop 52) 52 = true := by decide +kernel
def dc_cJ6_getChars_ba4f3_dJ6_getChars_ba4f3_52_2 := zw_16 db_cJ6_getChars_ba4f3_dJ6_getChars_ba4f3_52_2
def dJ6_getChars_ba4f3_52 := dc_cJ6_getChars_ba4f3_dJ6_getChars_ba4f3_52_2.1
def dJ6_getChars_ba4f3_54 := dc_cJ6_getChars_ba4f3_dJ6_getChars_ba4f3_52_2.2.1
def dJ6_getChars_ba4f3_55 := dc_cJ6_getChars_ba4f3_dJ6_getChars_ba4f3_52_2.2.2.1
def dJ6_getChars_ba4f3_56 := dc_cJ6_getChars_ba4f3_dJ6_getChars_ba4f3_52_2.2.2.2.1
def dJ6_getChars_ba4f3_57 := dc_cJ6_getChars_ba4f3_dJ6_getChars_ba4f3_52_2.2.2.2.2.1
def dJ6_getChars_ba4f3_60 := dc_cJ6_getChars_ba4f3_dJ6_getChars_ba4f3_52_2.2.2.2.2.2.1
def dJ6_getChars_ba4f3_62 := dc_cJ6_getChars_ba4f3_dJ6_getChars_ba4f3_52_2.2.2.2.2.2.2.1
def dJ6_getChars_ba4f3_65 := dc_cJ6_getChars_ba4f3_dJ6_getChars_ba4f3_52_2.2.2.2.2.2.2.2.1
def dJ6_getChars_ba4f3_67 := dc_cJ6_getChars_ba4f3_dJ6_getChars_ba4f3_52_2.2.2.2.2.2.2.2.2.1
def dJ6_getChars_ba4f3_68 := dc_cJ6_getChars_ba4f3_dJ6_getChars_ba4f3_52_2.2.2.2.2.2.2.2.2.2.1
def dJ6_getChars_ba4f3_69 := dc_cJ6_getChars_ba4f3_dJ6_getChars_ba4f3_52_2.2.2.2.2.2.2.2.2.2.2.1
def dJ6_getChars_ba4f3_72 := dc_cJ6_getChars_ba4f3_dJ6_getChars_ba4f3_52_2.2.2.2.2.2.2.2.2.2.2.2.1
def dJ6_getChars_ba4f3_73 := dc_cJ6_getChars_ba4f3_dJ6_getChars_ba4f3_52_2.2.2.2.2.2.2.2.2.2.2.2.2.1
def dJ6_getChars_ba4f3_76 := dc_cJ6_getChars_ba4f3_dJ6_getChars_ba4f3_52_2.2.2.2.2.2.2.2.2.2.2.2.2.2.1
def dJ6_getChars_ba4f3_78 := dc_cJ6_getChars_ba4f3_dJ6_getChars_ba4f3_52_2.2.2.2.2.2.2.2.2.2.2.2.2.2.2.1
def dJ6_getChars_ba4f3_81 := dc_cJ6_getChars_ba4f3_dJ6_getChars_ba4f3_52_2.2.2.2.2.2.2.2.2.2.2.2.2.2.2.2
set_option maxRecDepth 100000 in
theorem db_cJ6_getChars_ba4f3_dJ6_getChars_ba4f3_82_3 : zw [(82, .ineg, 1), (83, .baload, 1), (84, .bastore, 1), (85, .iload_n 0, 1), (86, .bipush (-9), 2), (88, .if_icmp .ge 16, 3), (91, .aload_n 2, 1), (92, .iinc 5 (-1), 3), (95, .iload 5, 2), (97, .getstatic 87, 3), (100, .iload_n 0, 1), (101, .ineg, 1), (102, .baload, 1), (103, .bastore, 1), (104, .iload 6, 2), (106, .ifCond .eq 12, 3)] (cJ6_getChars_ba4f3.data.toList.drop 82) 82 = true := by decide +kernel
def dc_cJ6_getChars_ba4f3_dJ6_getChars_ba4f3_82_3 := zw_16 db_cJ6_getChars_ba4f3_dJ6_getChars_ba4f3_82_3
def dJ6_getChars_ba4f3_82 := dc_cJ6_getChars_ba4f3_dJ6_getChars_ba4f3_82_3.1
def dJ6_getChars_ba4f3_83 := dc_cJ6_getChars_ba4f3_dJ6_getChars_ba4f3_82_3.2.1
def dJ6_getChars_ba4f3_84 := dc_cJ6_getChars_ba4f3_dJ6_getChars_ba4f3_82_3.2.2.1
def dJ6_getChars_ba4f3_85 := dc_cJ6_getChars_ba4f3_dJ6_getChars_ba4f3_82_3.2.2.2.1
def dJ6_getChars_ba4f3_86 := dc_cJ6_getChars_ba4f3_dJ6_getChars_ba4f3_82_3.2.2.2.2.1
def dJ6_getChars_ba4f3_88 := dc_cJ6_getChars_ba4f3_dJ6_getChars_ba4f3_82_3.2.2.2.2.2.1
def dJ6_getChars_ba4f3_91 := dc_cJ6_getChars_ba4f3_dJ6_getChars_ba4f3_82_3.2.2.2.2.2.2.1
def dJ6_getChars_ba4f3_92 := dc_cJ6_getChars_ba4f3_dJ6_getChars_ba4f3_82_3.2.2.2.2.2.2.2.1
def dJ6_getChars_ba4f3_95 := dc_cJ6_getChars_ba4f3_dJ6_getChars_ba4f3_82_3.2.2.2.2.2.2.2.2.1
def dJ6_getChars_ba4f3_97 := dc_cJ6_getChars_ba4f3_dJ6_getChars_ba4f3_82_3.2.2.2.2.2.2.2.2.2.1
def dJ6_getChars_ba4f3_100 := dc_cJ6_getChars_ba4f3_dJ6_getChars_ba4f3_82_3.2.2.2.2.2.2.2.2.2.2.1
def dJ6_getChars_ba4f3_101 := dc_cJ6_getChars_ba4f3_dJ6_getChars_ba4f3_82_3.2.2.2.2.2.2.2.2.2.2.2.1
def dJ6_getChars_ba4f3_102 := dc_cJ6_getChars_ba4f3_dJ6_getChars_ba4f3_82_3.2.2.2.2.2.2.2.2.2.2.2.2.1
def dJ6_getChars_ba4f3_103 := dc_cJ6_getChars_ba4f3_dJ6_getChars_ba4f3_82_3.2.2.2.2.2.2.2.2.2.2.2.2.2.1
def dJ6_getChars_ba4f3_104 := dc_cJ6_getChars_ba4f3_dJ6_getChars_ba4f3_82_3.2.2.2.2.2.2.2.2.2.2.2.2.2.2.1
def dJ6_getChars_ba4f3_106 := dc_cJ6_getChars_ba4f3_dJ6_getChars_ba4f3_82_3.2.2.2.2.2.2.2.2.2.2.2.2.2.2.2
set_option maxRecDepth 100000 in
theorem db_cJ6_getChars_ba4f3_dJ6_getChars_ba4f3_109_4 : zw [(109, .aload_n 2, 1), (110, .iinc 5 (-1), 3), (113, .iload 5, 2), (115, .bipush 45, 2), (117, .bastore, 1), (118, .iload 5, 2), (120, .ireturn, 1)] (cJ6_getChars_ba4f3.data.toList.drop 109) 109 = true := by decide +kernel
def dc_cJ6_getChars_ba4f3_dJ6_getChars_ba4f3_109_4 := zw_7 db_cJ6_getChars_ba4f3_dJ6_getChars_ba4f3_109_4
def dJ6_getChars_ba4f3_109 := dc_cJ6_getChars_ba4f3_dJ6_getChars_ba4f3_109_4.1
def dJ6_getChars_ba4f3_110 := dc_cJ6_getChars_ba4f3_dJ6_getChars_ba4f3_109_4.2.1
def dJ6_getChars_ba4f3_113 := dc_cJ6_getChars_ba4f3_dJ6_getChars_ba4f3_109_4.2.2.1
def dJ6_getChars_ba4f3_115 := dc_cJ6_getChars_ba4f3_dJ6_getChars_ba4f3_109_4.2.2.2.1
def dJ6_getChars_ba4f3_117 := dc_cJ6_getChars_ba4f3_dJ6_getChars_ba4f3_109_4.2.2.2.2.1
def dJ6_getChars_ba4f3_118 := dc_cJ6_getChars_ba4f3_dJ6_getChars_ba4f3_109_4.2.2.2.2.2.1
def dJ6_getChars_ba4f3_120 := dc_cJ6_getChars_ba4f3_dJ6_getChars_ba4f3_109_4.2.2.2.2.2.2
set_option maxRecDepth 100000 in
theorem db_cJ5_append_c97b9_dJ5_append_c97b9_0_0 : zw [(0, .aload_n 0, 1), (1, .getfield 79, 3), (4, .istore_n 2, 1), (5, .iload_n 2, 1), (6, .iload_n 1, 1), (7, .invokestatic 245, 3), (10, .iadd, 1), (11, .istore_n 3, 1), (12, .aload_n 0, 1), (13, .iload_n 3, 1), (14, .invokevirtual 100, 3), (17, .aload_n 0, 1), (18, .invokevirtual 83, 3), (21, .ifCond .eq 16, 3), (24, .iload_n 1, 1), (25, .iload_n 3, 1)] (cJ5_append_c97b9.data.toList.drop 0) 0 = true := by decide +kernel
def dc_cJ5_append_c97b9_dJ5_append_c97b9_0_0 := zw_16 db_cJ5_append_c97b9_dJ5_append_c97b9_0_0
def dJ5_append_c97b9_0 := dc_cJ5_append_c97b9_dJ5_append_c97b9_0_0.1
def dJ5_append_c97b9_1 := dc_cJ5_append_c97b9_dJ5_append_c97b9_0_0.2.1
def dJ5_append_c97b9_4 := dc_cJ5_append_c97b9_dJ5_append_c97b9_0_0.2.2.1
def dJ5_append_c97b9_5 := dc_cJ5_append_c97b9_dJ5_append_c97b9_0_0.2.2.2.1
def dJ5_append_c97b9_6 := dc_cJ5_append_c97b9_dJ5_append_c97b9_0_0.2.2.2.2.1
def dJ5_append_c97b9_7 := dc_cJ5_append_c97b9_dJ5_append_c97b9_0_0.2.2.2.2.2.1
def dJ5_append_c97b9_10 := dc_cJ5_append_c97b9_dJ5_append_c97b9_0_0.2.2.2.2.2.2.1
def dJ5_append_c97b9_11 := dc_cJ5_append_c97b9_dJ5_append_c97b9_0_0.2.2.2.2.2.2.2.1
def dJ5_append_c97b9_12 := dc_cJ5_append_c97b9_dJ5_append_c97b9_0_0.2.2.2.2.2.2.2.2.1
def dJ5_append_c97b9_13 := dc_cJ5_append_c97b9_dJ5_append_c97b9_0_0.2.2.2.2.2.2.2.2.2.1
def dJ5_append_c97b9_14 := dc_cJ5_append_c97b9_dJ5_append_c97b9_0_0.2.2.2.2.2.2.2.2.2.2.1
def dJ5_append_c97b9_17 := dc_cJ5_append_c97b9_dJ5_append_c97b9_0_0.2.2.2.2.2.2.2.2.2.2.2.1
def dJ5_append_c97b9_18 := dc_cJ5_append_c97b9_dJ5_append_c97b9_0_0.2.2.2.2.2.2.2.2.2.2.2.2.1
def dJ5_append_c97b9_21 := dc_cJ5_append_c97b9_dJ5_append_c97b9_0_0.2.2.2.2.2.2.2.2.2.2.2.2.2.1
def dJ5_append_c97b9_24 := dc_cJ5_append_c97b9_dJ5_append_c97b9_0_0.2.2.2.2.2.2.2.2.2.2.2.2.2.2.1
def dJ5_append_c97b9_25 := dc_cJ5_append_c97b9_dJ5_append_c97b9_0_0.2.2.2.2.2.2.2.2.2.2.2.2.2.2.2
set_option maxRecDepth 100000 in
theorem db_cJ5_append_c97b9_dJ5_append_c97b9_26_1 : zw [(26, .aload_n 0, 1), (27, .getfield 15, 3), (30, .invokestatic 248, 3), (33, .pop, 1), (34, .goto 14, 3), (37, .iload_n 1, 1), (38, .iload_n 2, 1), (39, .iload_n 3, 1), (40, .aload_n 0, 1), (41, .getfield 15, 3), (44, .invokestatic 251, 3), (47, .pop, 1), (48, .aload_n 0, 1), (49, .iload_n 3, 1), (50, .putfield 79, 3), (53, .aload_n 0, 1)] (cJ5_append_c97b9.data.toList.drop 26) 26 = true := by decide +kernel
def dc_cJ5_append_c97b9_dJ5_append_c97b9_26_1 := zw_16 db_cJ5_append_c97b9_dJ5_append_c97b9_26_1
def dJ5_append_c97b9_26 := dc_cJ5_append_c97b9_dJ5_append_c97b9_26_1.1
def dJ5_append_c97b9_27 := dc_cJ5_append_c97b9_dJ5_append_c97b9_26_1.2.1
def dJ5_append_c97b9_30 := dc_cJ5_append_c97b9_dJ5_append_c97b9_26_1.2.2.1
def dJ5_append_c97b9_33 := dc_cJ5_append_c97b9_dJ5_append_c97b9_26_1.2.2.2.1
def dJ5_append_c97b9_34 := dc_cJ5_append_c97b9_dJ5_append_c97b9_26_1.2.2.2.2.1
def dJ5_append_c97b9_37 := dc_cJ5_append_c97b9_dJ5_append_c97b9_26_1.2.2.2.2.2.1
def dJ5_append_c97b9_38 := dc_cJ5_append_c97b9_dJ5_append_c97b9_26_1.2.2.2.2.2.2.1
def dJ5_append_c97b9_39 := dc_cJ5_append_c97b9_dJ5_append_c97b9_26_1.2.2.2.2.2.2.2.1
def dJ5_append_c97b9_40 := dc_cJ5_append_c97b9_dJ5_append_c97b9_26_1.2.2.2.2.2.2.2.2.1
def dJ5_append_c97b9_41 := dc_cJ5_append_c97b9_dJ5_append_c97b9_26_1.2.2.2.2.2.2.2.2.2.1
def dJ5_append_c97b9_44 := dc_cJ5_append_c97b9_dJ5_append_c97b9_26_1.2.2.2.2.2.2.2.2.2.2.1
def dJ5_append_c97b9_47 := dc_cJ5_append_c97b9_dJ5_append_c97b9_26_1.2.2.2.2.2.2.2.2.2.2.2.1
def dJ5_append_c97b9_48 := dc_cJ5_append_c97b9_dJ5_append_c97b9_26_1.2.2.2.2.2.2.2.2.2.2.2.2.1
def dJ5_append_c97b9_49 := dc_cJ5_append_c97b9_dJ5_append_c97b9_26_1.2.2.2.2.2.2.2.2.2.2.2.2.2.1
def dJ5_append_c97b9_50 := dc_cJ5_append_c97b9_dJ5_append_c97b9_26_1.2.2.2.2.2.2.2.2.2.2.2.2.2.2.1
def dJ5_append_c97b9_53 := dc_cJ5_append_c97b9_dJ5_append_c97b9_26_1.2.2.2.2.2.2.2.2.2.2.2.2.2.2.2
set_option maxRecDepth 100000 in
theorem db_cJ5_append_c97b9_dJ5_append_c97b9_54_2 : zw [(54, .areturn, 1)] (cJ5_append_c97b9.data.toList.drop 54) 54 = true := by decide +kernel
def dJ5_append_c97b9_54 := zw_1 db_cJ5_append_c97b9_dJ5_append_c97b9_54_2
set_option maxRecDepth 100000 in
theorem db_cJ4_append_bf812_dJ4_append_bf812_0_0 : zw [(0, .aload_n 0, 1), (1, .iload_n 1, 1), (2, .invokespecial 53, 3), (5, .pop, 1), (6, .aload_n 0, 1), (7, .areturn, 1)] (cJ4_append_bf812.data.toList.drop 0) 0 = true := by decide +kernel
def dc_cJ4_append_bf812_dJ4_append_bf812_0_0 := zw_6 db_cJ4_append_bf812_dJ4_append_bf812_0_0
def dJ4_append_bf812_0 := dc_cJ4_append_bf812_dJ4_append_bf812_0_0.1
def dJ4_append_bf812_1 := dc_cJ4_append_bf812_dJ4_append_bf812_0_0.2.1
def dJ4_append_bf812_2 := dc_cJ4_append_bf812_dJ4_append_bf812_0_0.2.2.1
def dJ4_append_bf812_5 := dc_cJ4_append_bf812_dJ4_append_bf812_0_0.2.2.2.1
def dJ4_append_bf812_6 := dc_cJ4_append_bf812_dJ4_append_bf812_0_0.2.2.2.2.1
def dJ4_append_bf812_7 := dc_cJ4_append_bf812_dJ4_append_bf812_0_0.2.2.2.2.2
theorem jd_7 : (yJ6_stringSize_0f7a4 : MethodName).cls ≠ "java/lang/invoke/MethodHandle" ∧ (yJ6_stringSize_0f7a4 : MethodName).cls ≠ "java/lang/invoke/VarHandle" ∧ (parseMethodDescriptor (yJ6_stringSize_0f7a4 : MethodName).desc).map (fun d => d.parameters.length) = some 1 := by decide +kernel
theorem jd_8 : (yJ6_getChars_ba4f3 : MethodName).cls ≠ "java/lang/invoke/MethodHandle" ∧ (yJ6_getChars_ba4f3 : MethodName).cls ≠ "java/lang/invoke/VarHandle" ∧ (parseMethodDescriptor (yJ6_getChars_ba4f3 : MethodName).desc).map (fun d => d.parameters.length) = some 3 := by decide +kernel
theorem jd_9 : (yJ5_append_c97b9 : MethodName).cls ≠ "java/lang/invoke/MethodHandle" ∧ (yJ5_append_c97b9 : MethodName).cls ≠ "java/lang/invoke/VarHandle" ∧ (parseMethodDescriptor (yJ5_append_c97b9 : MethodName).desc).map (fun d => d.parameters.length) = some 1 := by decide +kernel
/-- how many digits -/
def szj (a : Nat) : Nat := if a < 10 then 1 else if a < 100 then 2 else if a < 1000 then 3 else if a < 10000 then 4 else if a < 100000 then 5 else if a < 1000000 then 6 else if a < 10000000 then 7 else if a < 100000000 then 8 else if a < 1000000000 then 9 else 10
def szk (x : Int32) : Nat := szj x.toInt.natAbs + (if x.toInt < 0 then 1 else 0)
theorem szj_v1 {a : Nat} (h0 : 0 ≤ a) (h1 : a < 10) : szj a = 1 := by
  unfold szj
  rw [if_pos h1]
theorem szj_v2 {a : Nat} (h0 : 10 ≤ a) (h1 : a < 100) : szj a = 2 := by
  unfold szj
  rw [if_neg (show ¬ a < 10 by omega), if_pos h1]
theorem szj_v3 {a : Nat} (h0 : 100 ≤ a) (h1 : a < 1000) : szj a = 3 := by
  unfold szj
  rw [if_neg (show ¬ a < 10 by omega), if_neg (show ¬ a < 100 by omega), if_pos h1]
theorem szj_v4 {a : Nat} (h0 : 1000 ≤ a) (h1 : a < 10000) : szj a = 4 := by
  unfold szj
  rw [if_neg (show ¬ a < 10 by omega), if_neg (show ¬ a < 100 by omega), if_neg (show ¬ a < 1000 by omega), if_pos h1]
theorem szj_v5 {a : Nat} (h0 : 10000 ≤ a) (h1 : a < 100000) : szj a = 5 := by
  unfold szj
  rw [if_neg (show ¬ a < 10 by omega), if_neg (show ¬ a < 100 by omega), if_neg (show ¬ a < 1000 by omega), if_neg (show ¬ a < 10000 by omega), if_pos h1]
theorem szj_v6 {a : Nat} (h0 : 100000 ≤ a) (h1 : a < 1000000) : szj a = 6 := by
  unfold szj
  rw [if_neg (show ¬ a < 10 by omega), if_neg (show ¬ a < 100 by omega), if_neg (show ¬ a < 1000 by omega), if_neg (show ¬ a < 10000 by omega), if_neg (show ¬ a < 100000 by omega), if_pos h1]
theorem szj_v7 {a : Nat} (h0 : 1000000 ≤ a) (h1 : a < 10000000) : szj a = 7 := by
  unfold szj
  rw [if_neg (show ¬ a < 10 by omega), if_neg (show ¬ a < 100 by omega), if_neg (show ¬ a < 1000 by omega), if_neg (show ¬ a < 10000 by omega), if_neg (show ¬ a < 100000 by omega), if_neg (show ¬ a < 1000000 by omega), if_pos h1]
theorem szj_v8 {a : Nat} (h0 : 10000000 ≤ a) (h1 : a < 100000000) : szj a = 8 := by
  unfold szj
  rw [if_neg (show ¬ a < 10 by omega), if_neg (show ¬ a < 100 by omega), if_neg (show ¬ a < 1000 by omega), if_neg (show ¬ a < 10000 by omega), if_neg (show ¬ a < 100000 by omega), if_neg (show ¬ a < 1000000 by omega), if_neg (show ¬ a < 10000000 by omega), if_pos h1]
theorem szj_v9 {a : Nat} (h0 : 100000000 ≤ a) (h1 : a < 1000000000) : szj a = 9 := by
  unfold szj
  rw [if_neg (show ¬ a < 10 by omega), if_neg (show ¬ a < 100 by omega), if_neg (show ¬ a < 1000 by omega), if_neg (show ¬ a < 10000 by omega), if_neg (show ¬ a < 100000 by omega), if_neg (show ¬ a < 1000000 by omega), if_neg (show ¬ a < 10000000 by omega), if_neg (show ¬ a < 100000000 by omega), if_pos h1]
theorem szj_v10 {a : Nat} (h0 : 1000000000 ≤ a) : szj a = 10 := by
  unfold szj
  rw [if_neg (show ¬ a < 10 by omega), if_neg (show ¬ a < 100 by omega), if_neg (show ¬ a < 1000 by omega), if_neg (show ¬ a < 10000 by omega), if_neg (show ¬ a < 100000 by omega), if_neg (show ¬ a < 1000000 by omega), if_neg (show ¬ a < 10000000 by omega), if_neg (show ¬ a < 100000000 by omega), if_neg (show ¬ a < 1000000000 by omega)]
theorem szj_1 (a : Nat) : 1 ≤ szj a ∧ szj a ≤ 10 := by
  by_cases k1 : a < 10
  · rw [szj_v1 (by omega) k1]; omega
  by_cases k2 : a < 100
  · rw [szj_v2 (by omega) k2]; omega
  by_cases k3 : a < 1000
  · rw [szj_v3 (by omega) k3]; omega
  by_cases k4 : a < 10000
  · rw [szj_v4 (by omega) k4]; omega
  by_cases k5 : a < 100000
  · rw [szj_v5 (by omega) k5]; omega
  by_cases k6 : a < 1000000
  · rw [szj_v6 (by omega) k6]; omega
  by_cases k7 : a < 10000000
  · rw [szj_v7 (by omega) k7]; omega
  by_cases k8 : a < 100000000
  · rw [szj_v8 (by omega) k8]; omega
  by_cases k9 : a < 1000000000
  · rw [szj_v9 (by omega) k9]; omega
  rw [szj_v10 (by omega)]; omega
theorem szj_10 {a : Nat} (h : 10 ≤ a) : 2 ≤ szj a := by
  by_cases k1 : a < 10
  · omega
  by_cases k2 : a < 100
  · rw [szj_v2 (by omega) k2]; omega
  by_cases k3 : a < 1000
  · rw [szj_v3 (by omega) k3]; omega
  by_cases k4 : a < 10000
  · rw [szj_v4 (by omega) k4]; omega
  by_cases k5 : a < 100000
  · rw [szj_v5 (by omega) k5]; omega
  by_cases k6 : a < 1000000
  · rw [szj_v6 (by omega) k6]; omega
  by_cases k7 : a < 10000000
  · rw [szj_v7 (by omega) k7]; omega
  by_cases k8 : a < 100000000
  · rw [szj_v8 (by omega) k8]; omega
  by_cases k9 : a < 1000000000
  · rw [szj_v9 (by omega) k9]; omega
  rw [szj_v10 (by omega)]; omega
theorem szj_100 {a : Nat} (h : 100 ≤ a) (hb : a < 10000000000) : szj (a / 100) + 2 ≤ szj a := by
  by_cases k1 : a < 10
  · omega
  by_cases k2 : a < 100
  · omega
  by_cases k3 : a < 1000
  · rw [szj_v3 (a := a) (by omega) k3, szj_v1 (a := a / 100) (by omega) (by omega)]; omega
  by_cases k4 : a < 10000
  · rw [szj_v4 (a := a) (by omega) k4, szj_v2 (a := a / 100) (by omega) (by omega)]; omega
  by_cases k5 : a < 100000
  · rw [szj_v5 (a := a) (by omega) k5, szj_v3 (a := a / 100) (by omega) (by omega)]; omega
  by_cases k6 : a < 1000000
  · rw [szj_v6 (a := a) (by omega) k6, szj_v4 (a := a / 100) (by omega) (by omega)]; omega
  by_cases k7 : a < 10000000
  · rw [szj_v7 (a := a) (by omega) k7, szj_v5 (a := a / 100) (by omega) (by omega)]; omega
  by_cases k8 : a < 100000000
  · rw [szj_v8 (a := a) (by omega) k8, szj_v6 (a := a / 100) (by omega) (by omega)]; omega
  by_cases k9 : a < 1000000000
  · rw [szj_v9 (a := a) (by omega) k9, szj_v7 (a := a / 100) (by omega) (by omega)]; omega
  rw [szj_v10 (a := a) (by omega), szj_v8 (a := a / 100) (by omega) (by omega)]; omega
theorem szk_b (x : Int32) : 1 ≤ szk x ∧ szk x ≤ 11 := by
  have := szj_1 x.toInt.natAbs
  unfold szk
  split <;> omega
theorem szk_s {x : Int32} {j : Nat} (h : szj x.toInt.natAbs = j) : szk x = j + (if x.toInt < 0 then 1 else 0) := by
  unfold szk
  rw [h]
theorem neg_t {x : Int32} (h : 0 ≤ x.toInt) : (-x).toInt = -x.toInt := by
  have := x.toInt_lt
  rw [Int32.toInt_neg]
  exact Int.bmod_eq_of_le (by omega) (by omega)

set_option maxHeartbeats 4000000 in
theorem c_J6_stringSize_0f7a4 {l : Launch} (x : Int32) : PMi l yJ6_stringSize_0f7a4 (.code yJ6_stringSize_0f7a4 cJ6_stringSize_0f7a4 4 (Option.some Jvm.ClassFile.FieldType.int)) 0 [.int x] (fun r => r = nI (szk x)) := by
  refine P_meti (by decide +kernel) (Nat.le_of_ble_eq_true rfl) ?_
  intro p e s mI below meth c Z ls hx hb hml hown ht hret hl
  have hl : lv_has ls 4 [(0, .int x)] := hl
  have L11 : ∀ (X : Int32) (d : Nat) (ls : Array Slot), X.toInt = -(x.toInt.natAbs : Int) → d = (if x.toInt < 0 then 1 else 0) → lv_has ls 4 [(0, .int X), (1, .int (nI d))] → W p l e (RM 0) s mI #[.int x] below meth c s.heap [] 0 0 Z (F0 mI 11 ls []) := by
    intro X d ls hX hd hl
    have hxb := x.le_toInt
    have hxt := x.toInt_lt
    refine lv_bipush (v := (-10 : Int32)) hx hb dJ6_stringSize_0f7a4_11 (by decide) ?_
    refine lv_istore_n (lv' := [(2, .int (-10 : Int32)), (0, .int X), (1, .int (nI d))]) hx hb dJ6_stringSize_0f7a4_13 rfl hl (by decide) rfl (fun ls hl => ?_)
    refine lv_iconst (v := (1 : Int32)) hx hb dJ6_stringSize_0f7a4_14 (by decide) ?_
    refine lv_istore_n (lv' := [(3, .int (1 : Int32)), (2, .int (-10 : Int32)), (0, .int X), (1, .int (nI d))]) hx hb dJ6_stringSize_0f7a4_15 rfl hl (by decide) rfl (fun ls hl => ?_)
    refine lv_iload_n hx hb dJ6_stringSize_0f7a4_16 rfl (lv_at hl 0 rfl) ?_
    refine lv_bipush (v := (10 : Int32)) hx hb dJ6_stringSize_0f7a4_17 (by decide) ?_
    refine lv_icmp_ge (tgt := 42) hx hb dJ6_stringSize_0f7a4_19 (by decide) (fun c9 => absurd c9 (by decide)) (fun c9 => ?_)
    refine lv_iload_n hx hb dJ6_stringSize_0f7a4_22 rfl (lv_at hl 2 rfl) ?_
    refine lv_iload_n hx hb dJ6_stringSize_0f7a4_23 rfl (lv_at hl 1 rfl) ?_
    by_cases k1 : x.toInt.natAbs < 10
    · refine lv_icmp_le (tgt := 31) hx hb dJ6_stringSize_0f7a4_24 (by decide) (fun c9 => absurd c9 (by rw [Int32.le_iff_toInt_le, hX, show ((-10 : Int32)).toInt = -10 from by decide]; omega)) (fun c9 => ?_)
      refine lv_iload_n hx hb dJ6_stringSize_0f7a4_27 rfl (lv_at hl 0 rfl) ?_
      refine lv_iload_n hx hb dJ6_stringSize_0f7a4_28 rfl (lv_at hl 3 rfl) ?_
      refine lv_iadd hx hb dJ6_stringSize_0f7a4_29 ?_
      refine lv_topi (fun x1 ex1 => ?_)
      rw [show x1 = (nI (1 + d)) from ex1.trans (nI_add 1 d)]
      exact hret ls 30 _ (show nI (1 + d) = nI (szk x) by rw [szk_s (j := 1) (by unfold szj; rw [if_pos k1]), hd]) rfl dJ6_stringSize_0f7a4_30
    refine lv_icmp_le (tgt := 31) hx hb dJ6_stringSize_0f7a4_24 (by decide) (fun c9 => ?_) (fun c9 => absurd (by rw [Int32.le_iff_toInt_le, hX, show ((-10 : Int32)).toInt = -10 from by decide]; omega) c9)
    refine lv_bipush (v := (10 : Int32)) hx hb dJ6_stringSize_0f7a4_31 (by decide) ?_
    refine lv_iload_n hx hb dJ6_stringSize_0f7a4_33 rfl (lv_at hl 1 rfl) ?_
    refine lv_imul hx hb dJ6_stringSize_0f7a4_34 ?_
    refine lv_topi (fun x2 ex2 => ?_)
    rw [show x2 = (-100 : Int32) from ex2.trans (by decide)]
    refine lv_istore_n (lv' := [(2, .int (-100 : Int32)), (3, .int (1 : Int32)), (0, .int X), (1, .int (nI d))]) hx hb dJ6_stringSize_0f7a4_35 rfl hl (by decide) rfl (fun ls hl => ?_)
    refine lv_iinc (v := (2 : Int32)) (lv' := [(3, .int (2 : Int32)), (2, .int (-100 : Int32)), (0, .int X), (1, .int (nI d))]) hx hb dJ6_stringSize_0f7a4_36 hl (k := 1) rfl (by decide) (by decide) rfl (fun ls hl => ?_)
    refine lv_goto (tgt := 16) hx hb dJ6_stringSize_0f7a4_39 (by decide) ?_
    refine lv_iload_n hx hb dJ6_stringSize_0f7a4_16 rfl (lv_at hl 0 rfl) ?_
    refine lv_bipush (v := (10 : Int32)) hx hb dJ6_stringSize_0f7a4_17 (by decide) ?_
    refine lv_icmp_ge (tgt := 42) hx hb dJ6_stringSize_0f7a4_19 (by decide) (fun c9 => absurd c9 (by decide)) (fun c9 => ?_)
    refine lv_iload_n hx hb dJ6_stringSize_0f7a4_22 rfl (lv_at hl 2 rfl) ?_
    refine lv_iload_n hx hb dJ6_stringSize_0f7a4_23 rfl (lv_at hl 1 rfl) ?_
    by_cases k2 : x.toInt.natAbs < 100
    · refine lv_icmp_le (tgt := 31) hx hb dJ6_stringSize_0f7a4_24 (by decide) (fun c9 => absurd c9 (by rw [Int32.le_iff_toInt_le, hX, show ((-100 : Int32)).toInt = -100 from by decide]; omega)) (fun c9 => ?_)
      refine lv_iload_n hx hb dJ6_stringSize_0f7a4_27 rfl (lv_at hl 0 rfl) ?_
      refine lv_iload_n hx hb dJ6_stringSize_0f7a4_28 rfl (lv_at hl 3 rfl) ?_
      refine lv_iadd hx hb dJ6_stringSize_0f7a4_29 ?_
      refine lv_topi (fun x3 ex3 => ?_)
      rw [show x3 = (nI (2 + d)) from ex3.trans (nI_add 2 d)]
      exact hret ls 30 _ (show nI (2 + d) = nI (szk x) by rw [szk_s (j := 2) (by unfold szj; rw [if_neg k1, if_pos k2]), hd]) rfl dJ6_stringSize_0f7a4_30
    refine lv_icmp_le (tgt := 31) hx hb dJ6_stringSize_0f7a4_24 (by decide) (fun c9 => ?_) (fun c9 => absurd (by rw [Int32.le_iff_toInt_le, hX, show ((-100 : Int32)).toInt = -100 from by decide]; omega) c9)
    refine lv_bipush (v := (10 : Int32)) hx hb dJ6_stringSize_0f7a4_31 (by decide) ?_
    refine lv_iload_n hx hb dJ6_stringSize_0f7a4_33 rfl (lv_at hl 1 rfl) ?_
    refine lv_imul hx hb dJ6_stringSize_0f7a4_34 ?_
    refine lv_topi (fun x4 ex4 => ?_)
    rw [show x4 = (-1000 : Int32) from ex4.trans (by decide)]
    refine lv_istore_n (lv' := [(2, .int (-1000 : Int32)), (3, .int (2 : Int32)), (0, .int X), (1, .int (nI d))]) hx hb dJ6_stringSize_0f7a4_35 rfl hl (by decide) rfl (fun ls hl => ?_)
    refine lv_iinc (v := (3 : Int32)) (lv' := [(3, .int (3 : Int32)), (2, .int (-1000 : Int32)), (0, .int X), (1, .int (nI d))]) hx hb dJ6_stringSize_0f7a4_36 hl (k := 1) rfl (by decide) (by decide) rfl (fun ls hl => ?_)
    refine lv_goto (tgt := 16) hx hb dJ6_stringSize_0f7a4_39 (by decide) ?_
    refine lv_iload_n hx hb dJ6_stringSize_0f7a4_16 rfl (lv_at hl 0 rfl) ?_
    refine lv_bipush (v := (10 : Int32)) hx hb dJ6_stringSize_0f7a4_17 (by decide) ?_
    refine lv_icmp_ge (tgt := 42) hx hb dJ6_stringSize_0f7a4_19 (by decide) (fun c9 => absurd c9 (by decide)) (fun c9 => ?_)
    refine lv_iload_n hx hb dJ6_stringSize_0f7a4_22 rfl (lv_at hl 2 rfl) ?_
    refine lv_iload_n hx hb dJ6_stringSize_0f7a4_23 rfl (lv_at hl 1 rfl) ?_
    by_cases k3 : x.toInt.natAbs < 1000
    · refine lv_icmp_le (tgt := 31) hx hb dJ6_stringSize_0f7a4_24 (by decide) (fun c9 => absurd c9 (by rw [Int32.le_iff_toInt_le, hX, show ((-1000 : Int32)).toInt = -1000 from by decide]; omega)) (fun c9 => ?_)
      refine lv_iload_n hx hb dJ6_stringSize_0f7a4_27 rfl (lv_at hl 0 rfl) ?_
      refine lv_iload_n hx hb dJ6_stringSize_0f7a4_28 rfl (lv_at hl 3 rfl) ?_
      refine lv_iadd hx hb dJ6_stringSize_0f7a4_29 ?_
      refine lv_topi (fun x5 ex5 => ?_)
      rw [show x5 = (nI (3 + d)) from ex5.trans (nI_add 3 d)]
      exact hret ls 30 _ (show nI (3 + d) = nI (szk x) by rw [szk_s (j := 3) (by unfold szj; rw [if_neg k1, if_neg k2, if_pos k3]), hd]) rfl dJ6_stringSize_0f7a4_30
    refine lv_icmp_le (tgt := 31) hx hb dJ6_stringSize_0f7a4_24 (by decide) (fun c9 => ?_) (fun c9 => absurd (by rw [Int32.le_iff_toInt_le, hX, show ((-1000 : Int32)).toInt = -1000 from by decide]; omega) c9)
    refine lv_bipush (v := (10 : Int32)) hx hb dJ6_stringSize_0f7a4_31 (by decide) ?_
    refine lv_iload_n hx hb dJ6_stringSize_0f7a4_33 rfl (lv_at hl 1 rfl) ?_
    refine lv_imul hx hb dJ6_stringSize_0f7a4_34 ?_
    refine lv_topi (fun x6 ex6 => ?_)
    rw [show x6 = (-10000 : Int32) from ex6.trans (by decide)]
    refine lv_istore_n (lv' := [(2, .int (-10000 : Int32)), (3, .int (3 : Int32)), (0, .int X), (1, .int (nI d))]) hx hb dJ6_stringSize_0f7a4_35 rfl hl (by decide) rfl (fun ls hl => ?_)
    refine lv_iinc (v := (4 : Int32)) (lv' := [(3, .int (4 : Int32)), (2, .int (-10000 : Int32)), (0, .int X), (1, .int (nI d))]) hx hb dJ6_stringSize_0f7a4_36 hl (k := 1) rfl (by decide) (by decide) rfl (fun ls hl => ?_)
    refine lv_goto (tgt := 16) hx hb dJ6_stringSize_0f7a4_39 (by decide) ?_
    refine lv_iload_n hx hb dJ6_stringSize_0f7a4_16 rfl (lv_at hl 0 rfl) ?_
    refine lv_bipush (v := (10 : Int32)) hx hb dJ6_stringSize_0f7a4_17 (by decide) ?_
    refine lv_icmp_ge (tgt := 42) hx hb dJ6_stringSize_0f7a4_19 (by decide) (fun c9 => absurd c9 (by decide)) (fun c9 => ?_)
    refine lv_iload_n hx hb dJ6_stringSize_0f7a4_22 rfl (lv_at hl 2 rfl) ?_
    refine lv_iload_n hx hb dJ6_stringSize_0f7a4_23 rfl (lv_at hl 1 rfl) ?_
    by_cases k4 : x.toInt.natAbs < 10000
    · refine lv_icmp_le (tgt := 31) hx hb dJ6_stringSize_0f7a4_24 (by decide) (fun c9 => absurd c9 (by rw [Int32.le_iff_toInt_le, hX, show ((-10000 : Int32)).toInt = -10000 from by decide]; omega)) (fun c9 => ?_)
      refine lv_iload_n hx hb dJ6_stringSize_0f7a4_27 rfl (lv_at hl 0 rfl) ?_
      refine lv_iload_n hx hb dJ6_stringSize_0f7a4_28 rfl (lv_at hl 3 rfl) ?_
      refine lv_iadd hx hb dJ6_stringSize_0f7a4_29 ?_
      refine lv_topi (fun x7 ex7 => ?_)
      rw [show x7 = (nI (4 + d)) from ex7.trans (nI_add 4 d)]
      exact hret ls 30 _ (show nI (4 + d) = nI (szk x) by rw [szk_s (j := 4) (by unfold szj; rw [if_neg k1, if_neg k2, if_neg k3, if_pos k4]), hd]) rfl dJ6_stringSize_0f7a4_30
    refine lv_icmp_le (tgt := 31) hx hb dJ6_stringSize_0f7a4_24 (by decide) (fun c9 => ?_) (fun c9 => absurd (by rw [Int32.le_iff_toInt_le, hX, show ((-10000 : Int32)).toInt = -10000 from by decide]; omega) c9)
    refine lv_bipush (v := (10 : Int32)) hx hb dJ6_stringSize_0f7a4_31 (by decide) ?_
    refine lv_iload_n hx hb dJ6_stringSize_0f7a4_33 rfl (lv_at hl 1 rfl) ?_
    refine lv_imul hx hb dJ6_stringSize_0f7a4_34 ?_
    refine lv_topi (fun x8 ex8 => ?_)
    rw [show x8 = (-100000 : Int32) from ex8.trans (by decide)]
    refine lv_istore_n (lv' := [(2, .int (-100000 : Int32)), (3, .int (4 : Int32)), (0, .int X), (1, .int (nI d))]) hx hb dJ6_stringSize_0f7a4_35 rfl hl (by decide) rfl (fun ls hl => ?_)
    refine lv_iinc (v := (5 : Int32)) (lv' := [(3, .int (5 : Int32)), (2, .int (-100000 : Int32)), (0, .int X), (1, .int (nI d))]) hx hb dJ6_stringSize_0f7a4_36 hl (k := 1) rfl (by decide) (by decide) rfl (fun ls hl => ?_)
    refine lv_goto (tgt := 16) hx hb dJ6_stringSize_0f7a4_39 (by decide) ?_
    refine lv_iload_n hx hb dJ6_stringSize_0f7a4_16 rfl (lv_at hl 0 rfl) ?_
    refine lv_bipush (v := (10 : Int32)) hx hb dJ6_stringSize_0f7a4_17 (by decide) ?_
    refine lv_icmp_ge (tgt := 42) hx hb dJ6_stringSize_0f7a4_19 (by decide) (fun c9 => absurd c9 (by decide)) (fun c9 => ?_)
    refine lv_iload_n hx hb dJ6_stringSize_0f7a4_22 rfl (lv_at hl 2 rfl) ?_
    refine lv_iload_n hx hb dJ6_stringSize_0f7a4_23 rfl (lv_at hl 1 rfl) ?_
    by_cases k5 : x.toInt.natAbs < 100000
    · refine lv_icmp_le (tgt := 31) hx hb dJ6_stringSize_0f7a4_24 (by decide) (fun c9 => absurd c9 (by rw [Int32.le_iff_toInt_le, hX, show ((-100000 : Int32)).toInt = -100000 from by decide]; omega)) (fun c9 => ?_)
      refine lv_iload_n hx hb dJ6_stringSize_0f7a4_27 rfl (lv_at hl 0 rfl) ?_
      refine lv_iload_n hx hb dJ6_stringSize_0f7a4_28 rfl (lv_at hl 3 rfl) ?_
      refine lv_iadd hx hb dJ6_stringSize_0f7a4_29 ?_
      refine lv_topi (fun x9 ex9 => ?_)
      rw [show x9 = (nI (5 + d)) from ex9.trans (nI_add 5 d)]
      exact hret ls 30 _ (show nI (5 + d) = nI (szk x) by rw [szk_s (j := 5) (by unfold szj; rw [if_neg k1, if_neg k2, if_neg k3, if_neg k4, if_pos k5]), hd]) rfl dJ6_stringSize_0f7a4_30
    refine lv_icmp_le (tgt := 31) hx hb dJ6_stringSize_0f7a4_24 (by decide) (fun c9 => ?_) (fun c9 => absurd (by rw [Int32.le_iff_toInt_le, hX, show ((-100000 : Int32)).toInt = -100000 from by decide]; omega) c9)
    refine lv_bipush (v := (10 : Int32)) hx hb dJ6_stringSize_0f7a4_31 (by decide) ?_
    refine lv_iload_n hx hb dJ6_stringSize_0f7a4_33 rfl (lv_at hl 1 rfl) ?_
    refine lv_imul hx hb dJ6_stringSize_0f7a4_34 ?_
    refine lv_topi (fun x10 ex10 => ?_)
    rw [show x10 = (-1000000 : Int32) from ex10.trans (by decide)]
    refine lv_istore_n (lv' := [(2, .int (-1000000 : Int32)), (3, .int (5 : Int32)), (0, .int X), (1, .int (nI d))]) hx hb dJ6_stringSize_0f7a4_35 rfl hl (by decide) rfl (fun ls hl => ?_)
    refine lv_iinc (v := (6 : Int32)) (lv' := [(3, .int (6 : Int32)), (2, .int (-1000000 : Int32)), (0, .int X), (1, .int (nI d))]) hx hb dJ6_stringSize_0f7a4_36 hl (k := 1) rfl (by decide) (by decide) rfl (fun ls hl => ?_)
    refine lv_goto (tgt := 16) hx hb dJ6_stringSize_0f7a4_39 (by decide) ?_
    refine lv_iload_n hx hb dJ6_stringSize_0f7a4_16 rfl (lv_at hl 0 rfl) ?_
    refine lv_bipush (v := (10 : Int32)) hx hb dJ6_stringSize_0f7a4_17 (by decide) ?_
    refine lv_icmp_ge (tgt := 42) hx hb dJ6_stringSize_0f7a4_19 (by decide) (fun c9 => absurd c9 (by decide)) (fun c9 => ?_)
    refine lv_iload_n hx hb dJ6_stringSize_0f7a4_22 rfl (lv_at hl 2 rfl) ?_
    refine lv_iload_n hx hb dJ6_stringSize_0f7a4_23 rfl (lv_at hl 1 rfl) ?_
    by_cases k6 : x.toInt.natAbs < 1000000
    · refine lv_icmp_le (tgt := 31) hx hb dJ6_stringSize_0f7a4_24 (by decide) (fun c9 => absurd c9 (by rw [Int32.le_iff_toInt_le, hX, show ((-1000000 : Int32)).toInt = -1000000 from by decide]; omega)) (fun c9 => ?_)
      refine lv_iload_n hx hb dJ6_stringSize_0f7a4_27 rfl (lv_at hl 0 rfl) ?_
      refine lv_iload_n hx hb dJ6_stringSize_0f7a4_28 rfl (lv_at hl 3 rfl) ?_
      refine lv_iadd hx hb dJ6_stringSize_0f7a4_29 ?_
      refine lv_topi (fun x11 ex11 => ?_)
      rw [show x11 = (nI (6 + d)) from ex11.trans (nI_add 6 d)]
      exact hret ls 30 _ (show nI (6 + d) = nI (szk x) by rw [szk_s (j := 6) (by unfold szj; rw [if_neg k1, if_neg k2, if_neg k3, if_neg k4, if_neg k5, if_pos k6]), hd]) rfl dJ6_stringSize_0f7a4_30
    refine lv_icmp_le (tgt := 31) hx hb dJ6_stringSize_0f7a4_24 (by decide) (fun c9 => ?_) (fun c9 => absurd (by rw [Int32.le_iff_toInt_le, hX, show ((-1000000 : Int32)).toInt = -1000000 from by decide]; omega) c9)
    refine lv_bipush (v := (10 : Int32)) hx hb dJ6_stringSize_0f7a4_31 (by decide) ?_
    refine lv_iload_n hx hb dJ6_stringSize_0f7a4_33 rfl (lv_at hl 1 rfl) ?_
    refine lv_imul hx hb dJ6_stringSize_0f7a4_34 ?_
    refine lv_topi (fun x12 ex12 => ?_)
    rw [show x12 = (-10000000 : Int32) from ex12.trans (by decide)]
    refine lv_istore_n (lv' := [(2, .int (-10000000 : Int32)), (3, .int (6 : Int32)), (0, .int X), (1, .int (nI d))]) hx hb dJ6_stringSize_0f7a4_35 rfl hl (by decide) rfl (fun ls hl => ?_)
    refine lv_iinc (v := (7 : Int32)) (lv' := [(3, .int (7 : Int32)), (2, .int (-10000000 : Int32)), (0, .int X), (1, .int (nI d))]) hx hb dJ6_stringSize_0f7a4_36 hl (k := 1) rfl (by decide) (by decide) rfl (fun ls hl => ?_)
    refine lv_goto (tgt := 16) hx hb dJ6_stringSize_0f7a4_39 (by decide) ?_
    refine lv_iload_n hx hb dJ6_stringSize_0f7a4_16 rfl (lv_at hl 0 rfl) ?_
    refine lv_bipush (v := (10 : Int32)) hx hb dJ6_stringSize_0f7a4_17 (by decide) ?_
    refine lv_icmp_ge (tgt := 42) hx hb dJ6_stringSize_0f7a4_19 (by decide) (fun c9 => absurd c9 (by decide)) (fun c9 => ?_)
    refine lv_iload_n hx hb dJ6_stringSize_0f7a4_22 rfl (lv_at hl 2 rfl) ?_
    refine lv_iload_n hx hb dJ6_stringSize_0f7a4_23 rfl (lv_at hl 1 rfl) ?_
    by_cases k7 : x.toInt.natAbs < 10000000
    · refine lv_icmp_le (tgt := 31) hx hb dJ6_stringSize_0f7a4_24 (by decide) (fun c9 => absurd c9 (by rw [Int32.le_iff_toInt_le, hX, show ((-10000000 : Int32)).toInt = -10000000 from by decide]; omega)) (fun c9 => ?_)
      refine lv_iload_n hx hb dJ6_stringSize_0f7a4_27 rfl (lv_at hl 0 rfl) ?_
      refine lv_iload_n hx hb dJ6_stringSize_0f7a4_28 rfl (lv_at hl 3 rfl) ?_
      refine lv_iadd hx hb dJ6_stringSize_0f7a4_29 ?_
      refine lv_topi (fun x13 ex13 => ?_)
      rw [show x13 = (nI (7 + d)) from ex13.trans (nI_add 7 d)]
      exact hret ls 30 _ (show nI (7 + d) = nI (szk x) by rw [szk_s (j := 7) (by unfold szj; rw [if_neg k1, if_neg k2, if_neg k3, if_neg k4, if_neg k5, if_neg k6, if_pos k7]), hd]) rfl dJ6_stringSize_0f7a4_30
    refine lv_icmp_le (tgt := 31) hx hb dJ6_stringSize_0f7a4_24 (by decide) (fun c9 => ?_) (fun c9 => absurd (by rw [Int32.le_iff_toInt_le, hX, show ((-10000000 : Int32)).toInt = -10000000 from by decide]; omega) c9)
    refine lv_bipush (v := (10 : Int32)) hx hb dJ6_stringSize_0f7a4_31 (by decide) ?_
    refine lv_iload_n hx hb dJ6_stringSize_0f7a4_33 rfl (lv_at hl 1 rfl) ?_
    refine lv_imul hx hb dJ6_stringSize_0f7a4_34 ?_
    refine lv_topi (fun x14 ex14 => ?_)
    rw [show x14 = (-100000000 : Int32) from ex14.trans (by decide)]
    refine lv_istore_n (lv' := [(2, .int (-100000000 : Int32)), (3, .int (7 : Int32)), (0, .int X), (1, .int (nI d))]) hx hb dJ6_stringSize_0f7a4_35 rfl hl (by decide) rfl (fun ls hl => ?_)
    refine lv_iinc (v := (8 : Int32)) (lv' := [(3, .int (8 : Int32)), (2, .int (-100000000 : Int32)), (0, .int X), (1, .int (nI d))]) hx hb dJ6_stringSize_0f7a4_36 hl (k := 1) rfl (by decide) (by decide) rfl (fun ls hl => ?_)
    refine lv_goto (tgt := 16) hx hb dJ6_stringSize_0f7a4_39 (by decide) ?_
    refine lv_iload_n hx hb dJ6_stringSize_0f7a4_16 rfl (lv_at hl 0 rfl) ?_
    refine lv_bipush (v := (10 : Int32)) hx hb dJ6_stringSize_0f7a4_17 (by decide) ?_
    refine lv_icmp_ge (tgt := 42) hx hb dJ6_stringSize_0f7a4_19 (by decide) (fun c9 => absurd c9 (by decide)) (fun c9 => ?_)
    refine lv_iload_n hx hb dJ6_stringSize_0f7a4_22 rfl (lv_at hl 2 rfl) ?_
    refine lv_iload_n hx hb dJ6_stringSize_0f7a4_23 rfl (lv_at hl 1 rfl) ?_
    by_cases k8 : x.toInt.natAbs < 100000000
    · refine lv_icmp_le (tgt := 31) hx hb dJ6_stringSize_0f7a4_24 (by decide) (fun c9 => absurd c9 (by rw [Int32.le_iff_toInt_le, hX, show ((-100000000 : Int32)).toInt = -100000000 from by decide]; omega)) (fun c9 => ?_)
      refine lv_iload_n hx hb dJ6_stringSize_0f7a4_27 rfl (lv_at hl 0 rfl) ?_
      refine lv_iload_n hx hb dJ6_stringSize_0f7a4_28 rfl (lv_at hl 3 rfl) ?_
      refine lv_iadd hx hb dJ6_stringSize_0f7a4_29 ?_
      refine lv_topi (fun x15 ex15 => ?_)
      rw [show x15 = (nI (8 + d)) from ex15.trans (nI_add 8 d)]
      exact hret ls 30 _ (show nI (8 + d) = nI (szk x) by rw [szk_s (j := 8) (by unfold szj; rw [if_neg k1, if_neg k2, if_neg k3, if_neg k4, if_neg k5, if_neg k6, if_neg k7, if_pos k8]), hd]) rfl dJ6_stringSize_0f7a4_30
    refine lv_icmp_le (tgt := 31) hx hb dJ6_stringSize_0f7a4_24 (by decide) (fun c9 => ?_) (fun c9 => absurd (by rw [Int32.le_iff_toInt_le, hX, show ((-100000000 : Int32)).toInt = -100000000 from by decide]; omega) c9)
    refine lv_bipush (v := (10 : Int32)) hx hb dJ6_stringSize_0f7a4_31 (by decide) ?_
    refine lv_iload_n hx hb dJ6_stringSize_0f7a4_33 rfl (lv_at hl 1 rfl) ?_
    refine lv_imul hx hb dJ6_stringSize_0f7a4_34 ?_
    refine lv_topi (fun x16 ex16 => ?_)
    rw [show x16 = (-1000000000 : Int32) from ex16.trans (by decide)]
    refine lv_istore_n (lv' := [(2, .int (-1000000000 : Int32)), (3, .int (8 : Int32)), (0, .int X), (1, .int (nI d))]) hx hb dJ6_stringSize_0f7a4_35 rfl hl (by decide) rfl (fun ls hl => ?_)
    refine lv_iinc (v := (9 : Int32)) (lv' := [(3, .int (9 : Int32)), (2, .int (-1000000000 : Int32)), (0, .int X), (1, .int (nI d))]) hx hb dJ6_stringSize_0f7a4_36 hl (k := 1) rfl (by decide) (by decide) rfl (fun ls hl => ?_)
    refine lv_goto (tgt := 16) hx hb dJ6_stringSize_0f7a4_39 (by decide) ?_
    refine lv_iload_n hx hb dJ6_stringSize_0f7a4_16 rfl (lv_at hl 0 rfl) ?_
    refine lv_bipush (v := (10 : Int32)) hx hb dJ6_stringSize_0f7a4_17 (by decide) ?_
    refine lv_icmp_ge (tgt := 42) hx hb dJ6_stringSize_0f7a4_19 (by decide) (fun c9 => absurd c9 (by decide)) (fun c9 => ?_)
    refine lv_iload_n hx hb dJ6_stringSize_0f7a4_22 rfl (lv_at hl 2 rfl) ?_
    refine lv_iload_n hx hb dJ6_stringSize_0f7a4_23 rfl (lv_at hl 1 rfl) ?_
    by_cases k9 : x.toInt.natAbs < 1000000000
    · refine lv_icmp_le (tgt := 31) hx hb dJ6_stringSize_0f7a4_24 (by decide) (fun c9 => absurd c9 (by rw [Int32.le_iff_toInt_le, hX, show ((-1000000000 : Int32)).toInt = -1000000000 from by decide]; omega)) (fun c9 => ?_)
      refine lv_iload_n hx hb dJ6_stringSize_0f7a4_27 rfl (lv_at hl 0 rfl) ?_
      refine lv_iload_n hx hb dJ6_stringSize_0f7a4_28 rfl (lv_at hl 3 rfl) ?_
      refine lv_iadd hx hb dJ6_stringSize_0f7a4_29 ?_
      refine lv_topi (fun x17 ex17 => ?_)
      rw [show x17 = (nI (9 + d)) from ex17.trans (nI_add 9 d)]
      exact hret ls 30 _ (show nI (9 + d) = nI (szk x) by rw [szk_s (j := 9) (by unfold szj; rw [if_neg k1, if_neg k2, if_neg k3, if_neg k4, if_neg k5, if_neg k6, if_neg k7, if_neg k8, if_pos k9]), hd]) rfl dJ6_stringSize_0f7a4_30
    refine lv_icmp_le (tgt := 31) hx hb dJ6_stringSize_0f7a4_24 (by decide) (fun c9 => ?_) (fun c9 => absurd (by rw [Int32.le_iff_toInt_le, hX, show ((-1000000000 : Int32)).toInt = -1000000000 from by decide]; omega) c9)
    refine lv_bipush (v := (10 : Int32)) hx hb dJ6_stringSize_0f7a4_31 (by decide) ?_
    refine lv_iload_n hx hb dJ6_stringSize_0f7a4_33 rfl (lv_at hl 1 rfl) ?_
    refine lv_imul hx hb dJ6_stringSize_0f7a4_34 ?_
    refine lv_topi (fun x18 ex18 => ?_)
    rw [show x18 = (-1410065408 : Int32) from ex18.trans (by decide)]
    refine lv_istore_n (lv' := [(2, .int (-1410065408 : Int32)), (3, .int (9 : Int32)), (0, .int X), (1, .int (nI d))]) hx hb dJ6_stringSize_0f7a4_35 rfl hl (by decide) rfl (fun ls hl => ?_)
    refine lv_iinc (v := (10 : Int32)) (lv' := [(3, .int (10 : Int32)), (2, .int (-1410065408 : Int32)), (0, .int X), (1, .int (nI d))]) hx hb dJ6_stringSize_0f7a4_36 hl (k := 1) rfl (by decide) (by decide) rfl (fun ls hl => ?_)
    refine lv_goto (tgt := 16) hx hb dJ6_stringSize_0f7a4_39 (by decide) ?_
    refine lv_iload_n hx hb dJ6_stringSize_0f7a4_16 rfl (lv_at hl 0 rfl) ?_
    refine lv_bipush (v := (10 : Int32)) hx hb dJ6_stringSize_0f7a4_17 (by decide) ?_
    refine lv_icmp_ge (tgt := 42) hx hb dJ6_stringSize_0f7a4_19 (by decide) (fun c9 => ?_) (fun c9 => absurd (by decide) c9)
    refine lv_bipush (v := (10 : Int32)) hx hb dJ6_stringSize_0f7a4_42 (by decide) ?_
    refine lv_iload_n hx hb dJ6_stringSize_0f7a4_44 rfl (lv_at hl 3 rfl) ?_
    refine lv_iadd hx hb dJ6_stringSize_0f7a4_45 ?_
    refine lv_topi (fun x19 ex19 => ?_)
    rw [show x19 = (nI (10 + d)) from ex19.trans (nI_add 10 d)]
    exact hret ls 46 _ (show nI (10 + d) = nI (szk x) by rw [szk_s (j := 10) (by unfold szj; rw [if_neg k1, if_neg k2, if_neg k3, if_neg k4, if_neg k5, if_neg k6, if_neg k7, if_neg k8, if_neg k9]), hd]) rfl dJ6_stringSize_0f7a4_46
  refine lv_iconst (v := (1 : Int32)) hx hb dJ6_stringSize_0f7a4_0 (by decide) ?_
  refine lv_istore_n (lv' := [(1, .int (1 : Int32)), (0, .int x)]) hx hb dJ6_stringSize_0f7a4_1 rfl hl (by decide) rfl (fun ls hl => ?_)
  refine lv_iload_n hx hb dJ6_stringSize_0f7a4_2 rfl (lv_at hl 1 rfl) ?_
  refine lv_if_lt (tgt := 11) hx hb dJ6_stringSize_0f7a4_3 (by decide) (fun c9 => ?_) (fun c9 => ?_)
  · have hx0 : x.toInt < 0 := by rw [Int32.lt_iff_toInt_lt, Int32.toInt_zero] at c9; exact c9
    exact L11 x 1 ls (by omega) (by rw [if_pos hx0]) (lv_sub hl [1, 0] rfl)
  · have hx0 : 0 ≤ x.toInt := by rw [Int32.lt_iff_toInt_lt, Int32.toInt_zero] at c9; omega
    refine lv_iconst (v := (0 : Int32)) hx hb dJ6_stringSize_0f7a4_6 (by decide) ?_
    refine lv_istore_n (lv' := [(1, .int (0 : Int32)), (0, .int x)]) hx hb dJ6_stringSize_0f7a4_7 rfl hl (by decide) rfl (fun ls hl => ?_)
    refine lv_iload_n hx hb dJ6_stringSize_0f7a4_8 rfl (lv_at hl 1 rfl) ?_
    refine lv_ineg hx hb dJ6_stringSize_0f7a4_9 ?_
    refine lv_istore_n (lv' := [(0, .int (-x)), (1, .int (0 : Int32))]) hx hb dJ6_stringSize_0f7a4_10 rfl hl (by decide) rfl (fun ls hl => ?_)
    exact L11 (-x) 0 ls (by rw [neg_t hx0]; omega) (by rw [if_neg (by omega)]) (lv_sub hl [0, 1] rfl)

theorem vnb {x : Int32} : fits .byte (.int (vp_nar .byte x)) = true := by rw [vp_nar_byte]; exact pk_fb _
theorem nI_dec {t : Nat} (h : 1 ≤ t) : nI t + Int32.ofInt (-1) = nI (t - 1) := by
  obtain ⟨k, rfl⟩ : ∃ k, t = k + 1 := ⟨t - 1, by omega⟩
  show nI (k + 1) + Int32.ofInt (-1) = nI k
  rw [show Int32.ofInt (-1) = -1 from rfl, ← Int32.sub_eq_add_neg]
  exact nI_pred k
theorem nI_dec2 {t : Nat} (h : 2 ≤ t) : nI (t - 1) + Int32.ofInt (-1) = nI (t - 2) := nI_dec (t := t - 1) (by omega)
theorem gc_d {X : Int32} {a : Nat} (hX : X.toInt = -(a : Int)) (ha : a < 10000000000) : (X / (100 : Int32)).toInt = -((a / 100 : Nat) : Int) := by
  have h1 := X.le_toInt
  have h2 : Int.tdiv X.toInt 100 = -((a / 100 : Nat) : Int) := by
    rw [hX, Int.neg_tdiv]
    rfl
  rw [Int32.toInt_div, show (100 : Int32).toInt = 100 from rfl, h2]
  exact Int.bmod_eq_of_le (by omega) (by omega)
theorem gc_r {X q : Int32} {a : Nat} (hX : X.toInt = -(a : Int)) (hq : q.toInt = -((a / 100 : Nat) : Int)) (ha : a < 10000000000) : (q * (100 : Int32) - X).toInt = ((a % 100 : Nat) : Int) := by
  have h1 := X.le_toInt
  have : (q * (100 : Int32) - X).toInt = -((a / 100 : Nat) : Int) * 100 - -(a : Int) := ii_s (ii_m hq rfl (by omega) (by omega)) hX (by omega) (by omega)
  omega
theorem gc_n {X : Int32} {a : Nat} (hX : X.toInt = -(a : Int)) (ha : a < 1000) : (-X).toInt = (a : Int) := by
  rw [Int32.toInt_neg, hX]
  exact (Int.bmod_eq_of_le (by omega) (by omega)).trans (by omega)

set_option maxHeartbeats 4000000 in
set_option maxRecDepth 100000 in
theorem c_J6_getChars_ba4f3 {l : Launch} {D : va_G} {cB : ClassId} (x : Int32) (en v m : Nat) (f : Nat → Int32)(sz : Nat) (hk : szk x ≤ en) (hem : en ≤ m) (hm : m ≤ 100000) (hf : FT f) : JMi l yJ6_getChars_ba4f3 (.code yJ6_getChars_ba4f3 cJ6_getChars_ba4f3 7 (Option.some Jvm.ClassFile.FieldType.int)) 0 0 0 [.int x, .int (nI en), .ref v] D cB [(v, .inl (cB, m, .inl f))] [] sz (fun (r : Int32) (u : (Nat → Int32)) => FT u) (fun (u : (Nat → Int32)) => [bV cB v m u]) := by
  refine J_meti (by decide +kernel) (Nat.le_of_ble_eq_true rfl) ?_
  intro p e s mI below meth c Z ls hx hb hml hown hin ht hK hC hZ hSL hw hret hl
  have hl : lv_has ls 7 [(0, .int x), (1, .int (nI en)), (2, .ref v)] := hl
  suffices hh : ∀ (H : Heap) (locs : List Loc), MW D [] [(v, .inl (cB, m, .inl f))] (va_A [(v, .inl (cB, m, .inl f))] s.heap.size) s H locs → W p l e (RA 0 0 0) s mI #[.int x, .int (nI en), .ref v] below meth c H locs 0 0 Z (F0 mI 0 ls []) from hh _ _ hw
  intro H locs hw
  obtain ⟨az1, fz1, hz1, ht1⟩ := hZ.2.1
  obtain ⟨az2, fz2, hz2, ht2⟩ := hZ.2.2
  have L22 : ∀ (a : Nat) (X : Int32) (t d : Nat) (g : Nat → Int32) (H : Heap) (locs : List Loc) (ls : Array Slot), X.toInt = -(a : Int) → a < 10000000000 → szj a + d ≤ t → d ≤ 1 → t ≤ m → FT g → MW D [] [(v, .inl (cB, m, .inl g))] (va_A [(v, .inl (cB, m, .inl f))] s.heap.size) s H locs → lv_has ls 7 [(6, .int (nI d)), (5, .int (nI t)), (0, .int X), (2, .ref v)] → W p l e (RA 0 0 0) s mI #[.int x, .int (nI en), .ref v] below meth c H locs 0 0 Z (F0 mI 22 ls []) := by
    intro a
    induction a using Nat.strongRecOn with
    | ind a ih =>
      intro X t d g H locs ls hX ha hs hd htm hg hw hl
      have hs1 := szj_1 a
      by_cases k9 : 100 ≤ a
      · have h100 := szj_100 k9 ha
        refine lv_iload_n hx hb dJ6_getChars_ba4f3_22 rfl (lv_at hl 2 rfl) ?_
        refine lv_bipush (v := (-100 : Int32)) hx hb dJ6_getChars_ba4f3_23 (by decide) ?_
        refine lv_icmp_gt (tgt := 72) hx hb dJ6_getChars_ba4f3_25 (by decide) (fun c9 => absurd c9 (by rw [Int32.lt_iff_toInt_lt, hX, show (-100 : Int32).toInt = -100 from by decide]; omega)) (fun c9 => ?_)
        refine lv_iload_n hx hb dJ6_getChars_ba4f3_28 rfl (lv_at hl 2 rfl) ?_
        refine lv_bipush (v := (100 : Int32)) hx hb dJ6_getChars_ba4f3_29 (by decide) ?_
        refine lv_idiv hx hb dJ6_getChars_ba4f3_31 (by decide) ?_
        refine lv_topi (fun qq eq => ?_)
        have hq : qq.toInt = -((a / 100 : Nat) : Int) := by rw [eq, gc_d hX ha]
        refine lv_istore_n (lv' := [(3, .int qq), (6, .int (nI d)), (5, .int (nI t)), (0, .int X), (2, .ref v)]) hx hb dJ6_getChars_ba4f3_32 rfl hl (by decide) rfl (fun ls hl => ?_)
        refine lv_iload_n hx hb dJ6_getChars_ba4f3_33 rfl (lv_at hl 0 rfl) ?_
        refine lv_bipush (v := (100 : Int32)) hx hb dJ6_getChars_ba4f3_34 (by decide) ?_
        refine lv_imul hx hb dJ6_getChars_ba4f3_36 ?_
        refine lv_iload_n hx hb dJ6_getChars_ba4f3_37 rfl (lv_at hl 3 rfl) ?_
        refine lv_isub hx hb dJ6_getChars_ba4f3_38 ?_
        refine lv_topi (fun rr er => ?_)
        have hr : rr.toInt = ((a % 100 : Nat) : Int) := by rw [er, gc_r hX hq ha]
        refine lv_istore (lv' := [(4, .int rr), (3, .int qq), (6, .int (nI d)), (5, .int (nI t)), (0, .int X), (2, .ref v)]) hx hb dJ6_getChars_ba4f3_39 hl (by decide) rfl (fun ls hl => ?_)
        refine lv_iload_n hx hb dJ6_getChars_ba4f3_41 rfl (lv_at hl 1 rfl) ?_
        refine lv_istore_n (lv' := [(0, .int qq), (4, .int rr), (3, .int qq), (6, .int (nI d)), (5, .int (nI t)), (2, .ref v)]) hx hb dJ6_getChars_ba4f3_42 rfl hl (by decide) rfl (fun ls hl => ?_)
        refine lv_aload_n hx hb dJ6_getChars_ba4f3_43 rfl (lv_at hl 5 rfl) ?_
        refine lv_iinc (v := (nI (t - 1))) (lv' := [(5, .int (nI (t - 1))), (0, .int qq), (4, .int rr), (3, .int qq), (6, .int (nI d)), (2, .ref v)]) hx hb dJ6_getChars_ba4f3_44 hl (k := 4) rfl (nI_dec (by omega)) (by decide) rfl (fun ls hl => ?_)
        refine lv_iload hx hb dJ6_getChars_ba4f3_47 (lv_at hl 0 rfl) ?_
        refine va_gets hx hb hz1 hw.2.2.1 hown (ht _ q_1031) (fun _ h => h) dJ6_getChars_ba4f3_49 ?_
        refine lv_iload hx hb dJ6_getChars_ba4f3_52 (lv_at hl 2 rfl) ?_
        refine va_tb hx hb ht1 hw.2.2.1 (vin (by omega)) rfl dJ6_getChars_ba4f3_54 ?_
        refine va_bast hx hb hK hw.1 hw.2.1 hw.2.2.1 0 0 rfl rfl (vp_in_nI (by omega) (by omega)) dJ6_getChars_ba4f3_55 (fun H locs hP hD hS => ?_)
        have hw : MW D [] [(v, .inl (cB, m, .inl (upd g ((nI (t - 1)) : Int32).toNatClampNeg (vp_nar .byte (fz1 rr.toNatClampNeg)))))] (va_A [(v, .inl (cB, m, .inl f))] s.heap.size) s H locs := ⟨hP, hD, hS, hw.2.2.2⟩
        refine lv_aload_n hx hb dJ6_getChars_ba4f3_56 rfl (lv_at hl 5 rfl) ?_
        refine lv_iinc (v := (nI (t - 2))) (lv' := [(5, .int (nI (t - 2))), (0, .int qq), (4, .int rr), (3, .int qq), (6, .int (nI d)), (2, .ref v)]) hx hb dJ6_getChars_ba4f3_57 hl (k := 0) rfl (nI_dec2 (by omega)) (by decide) rfl (fun ls hl => ?_)
        refine lv_iload hx hb dJ6_getChars_ba4f3_60 (lv_at hl 0 rfl) ?_
        refine va_gets hx hb hz2 hw.2.2.1 hown (ht _ q_1033) (fun _ h => h) dJ6_getChars_ba4f3_62 ?_
        refine lv_iload hx hb dJ6_getChars_ba4f3_65 (lv_at hl 2 rfl) ?_
        refine va_tb hx hb ht2 hw.2.2.1 (vin (by omega)) rfl dJ6_getChars_ba4f3_67 ?_
        refine va_bast hx hb hK hw.1 hw.2.1 hw.2.2.1 0 0 rfl rfl (vp_in_nI (by omega) (by omega)) dJ6_getChars_ba4f3_68 (fun H locs hP hD hS => ?_)
        have hw : MW D [] [(v, .inl (cB, m, .inl (upd (upd g ((nI (t - 1)) : Int32).toNatClampNeg (vp_nar .byte (fz1 rr.toNatClampNeg))) ((nI (t - 2)) : Int32).toNatClampNeg (vp_nar .byte (fz2 rr.toNatClampNeg)))))] (va_A [(v, .inl (cB, m, .inl f))] s.heap.size) s H locs := ⟨hP, hD, hS, hw.2.2.2⟩
        refine lv_goto (tgt := 22) hx hb dJ6_getChars_ba4f3_69 (by decide) ?_
        exact ih (a / 100) (by omega) qq (t - 2) d _ H locs ls hq (by omega) (by omega) hd (by omega) (FT.st (FT.st hg vnb) vnb) hw (lv_sub hl [4, 0, 1, 5] rfl)
      refine lv_iload_n hx hb dJ6_getChars_ba4f3_22 rfl (lv_at hl 2 rfl) ?_
      refine lv_bipush (v := (-100 : Int32)) hx hb dJ6_getChars_ba4f3_23 (by decide) ?_
      refine lv_icmp_gt (tgt := 72) hx hb dJ6_getChars_ba4f3_25 (by decide) (fun c9 => ?_) (fun c9 => absurd (by rw [Int32.lt_iff_toInt_lt, hX, show (-100 : Int32).toInt = -100 from by decide]; omega) c9)
      have hn : (-X).toInt = (a : Int) := by rw [gc_n hX (by omega)]
      refine lv_aload_n hx hb dJ6_getChars_ba4f3_72 rfl (lv_at hl 3 rfl) ?_
      refine lv_iinc (v := (nI (t - 1))) (lv' := [(5, .int (nI (t - 1))), (6, .int (nI d)), (0, .int X), (2, .ref v)]) hx hb dJ6_getChars_ba4f3_73 hl (k := 1) rfl (nI_dec (by omega)) (by decide) rfl (fun ls hl => ?_)
      refine lv_iload hx hb dJ6_getChars_ba4f3_76 (lv_at hl 0 rfl) ?_
      refine va_gets hx hb hz1 hw.2.2.1 hown (ht _ q_1031) (fun _ h => h) dJ6_getChars_ba4f3_78 ?_
      refine lv_iload_n hx hb dJ6_getChars_ba4f3_81 rfl (lv_at hl 2 rfl) ?_
      refine lv_ineg hx hb dJ6_getChars_ba4f3_82 ?_
      refine va_tb hx hb ht1 hw.2.2.1 (vin (by omega)) rfl dJ6_getChars_ba4f3_83 ?_
      refine va_bast hx hb hK hw.1 hw.2.1 hw.2.2.1 0 0 rfl rfl (vp_in_nI (by omega) (by omega)) dJ6_getChars_ba4f3_84 (fun H locs hP hD hS => ?_)
      have hw : MW D [] [(v, .inl (cB, m, .inl (upd g ((nI (t - 1)) : Int32).toNatClampNeg (vp_nar .byte (fz1 (-X).toNatClampNeg)))))] (va_A [(v, .inl (cB, m, .inl f))] s.heap.size) s H locs := ⟨hP, hD, hS, hw.2.2.2⟩
      have L104 : ∀ (t2 : Nat) (g : Nat → Int32) (H : Heap) (locs : List Loc) (ls : Array Slot), d ≤ t2 → t2 ≤ m → FT g → MW D [] [(v, .inl (cB, m, .inl g))] (va_A [(v, .inl (cB, m, .inl f))] s.heap.size) s H locs → lv_has ls 7 [(6, .int (nI d)), (5, .int (nI t2)), (2, .ref v)] → W p l e (RA 0 0 0) s mI #[.int x, .int (nI en), .ref v] below meth c H locs 0 0 Z (F0 mI 104 ls []) := by
        intro t2 g H locs ls h1 h2 hg hw hl
        refine lv_iload hx hb dJ6_getChars_ba4f3_104 (lv_at hl 0 rfl) ?_
        refine lv_if_eq (tgt := 118) hx hb dJ6_getChars_ba4f3_106 (by decide) (fun c9 => ?_) (fun c9 => ?_)
        · refine lv_iload hx hb dJ6_getChars_ba4f3_118 (lv_at hl 1 rfl) ?_
          exact hret H locs ls 120 _ _ (nI t2) g hw hg rfl (show 0 ≤ 0 by omega) (show 0 ≤ 0 by omega) dJ6_getChars_ba4f3_120
        · have hd1 : 1 ≤ d := by
            rcases Nat.lt_or_ge d 1 with z | z
            · exact absurd (by rw [show d = 0 by omega]; rfl) c9
            · exact z
          refine lv_aload_n hx hb dJ6_getChars_ba4f3_109 rfl (lv_at hl 2 rfl) ?_
          refine lv_iinc (v := (nI (t2 - 1))) (lv' := [(5, .int (nI (t2 - 1))), (6, .int (nI d)), (2, .ref v)]) hx hb dJ6_getChars_ba4f3_110 hl (k := 1) rfl (nI_dec (by omega)) (by decide) rfl (fun ls hl => ?_)
          refine lv_iload hx hb dJ6_getChars_ba4f3_113 (lv_at hl 0 rfl) ?_
          refine lv_bipush (v := (45 : Int32)) hx hb dJ6_getChars_ba4f3_115 (by decide) ?_
          refine va_bast hx hb hK hw.1 hw.2.1 hw.2.2.1 0 0 rfl rfl (vp_in_nI (by omega) (by omega)) dJ6_getChars_ba4f3_117 (fun H locs hP hD hS => ?_)
          have hw : MW D [] [(v, .inl (cB, m, .inl (upd g ((nI (t2 - 1)) : Int32).toNatClampNeg (vp_nar .byte (45 : Int32)))))] (va_A [(v, .inl (cB, m, .inl f))] s.heap.size) s H locs := ⟨hP, hD, hS, hw.2.2.2⟩
          refine lv_iload hx hb dJ6_getChars_ba4f3_118 (lv_at hl 0 rfl) ?_
          exact hret H locs ls 120 _ _ (nI (t2 - 1)) (upd g ((nI (t2 - 1)) : Int32).toNatClampNeg (vp_nar .byte (45 : Int32))) hw (FT.st hg (by decide)) rfl (show 0 ≤ 0 by omega) (show 0 ≤ 0 by omega) dJ6_getChars_ba4f3_120
      refine lv_iload_n hx hb dJ6_getChars_ba4f3_85 rfl (lv_at hl 2 rfl) ?_
      refine lv_bipush (v := (-9 : Int32)) hx hb dJ6_getChars_ba4f3_86 (by decide) ?_
      refine lv_icmp_ge (tgt := 104) hx hb dJ6_getChars_ba4f3_88 (by decide) (fun c9 => ?_) (fun c9 => ?_)
      · exact L104 (t - 1) _ H locs ls (by omega) (by omega) (FT.st hg vnb) hw (lv_sub hl [1, 0, 3] rfl)
      · have h10 : 10 ≤ a := by
          rw [Int32.le_iff_toInt_le, hX, show (-9 : Int32).toInt = -9 from by decide] at c9
          omega
        have hs10 := szj_10 h10
        refine lv_aload_n hx hb dJ6_getChars_ba4f3_91 rfl (lv_at hl 3 rfl) ?_
        refine lv_iinc (v := (nI (t - 2))) (lv' := [(5, .int (nI (t - 2))), (6, .int (nI d)), (0, .int X), (2, .ref v)]) hx hb dJ6_getChars_ba4f3_92 hl (k := 0) rfl (nI_dec2 (by omega)) (by decide) rfl (fun ls hl => ?_)
        refine lv_iload hx hb dJ6_getChars_ba4f3_95 (lv_at hl 0 rfl) ?_
        refine va_gets hx hb hz2 hw.2.2.1 hown (ht _ q_1033) (fun _ h => h) dJ6_getChars_ba4f3_97 ?_
        refine lv_iload_n hx hb dJ6_getChars_ba4f3_100 rfl (lv_at hl 2 rfl) ?_
        refine lv_ineg hx hb dJ6_getChars_ba4f3_101 ?_
        refine va_tb hx hb ht2 hw.2.2.1 (vin (by omega)) rfl dJ6_getChars_ba4f3_102 ?_
        refine va_bast hx hb hK hw.1 hw.2.1 hw.2.2.1 0 0 rfl rfl (vp_in_nI (by omega) (by omega)) dJ6_getChars_ba4f3_103 (fun H locs hP hD hS => ?_)
        have hw : MW D [] [(v, .inl (cB, m, .inl (upd (upd g ((nI (t - 1)) : Int32).toNatClampNeg (vp_nar .byte (fz1 (-X).toNatClampNeg))) ((nI (t - 2)) : Int32).toNatClampNeg (vp_nar .byte (fz2 (-X).toNatClampNeg)))))] (va_A [(v, .inl (cB, m, .inl f))] s.heap.size) s H locs := ⟨hP, hD, hS, hw.2.2.2⟩
        exact L104 (t - 2) _ H locs ls (by omega) (by omega) (FT.st (FT.st hg vnb) vnb) hw (lv_sub hl [1, 0, 3] rfl)
  have hxb := x.le_toInt
  have hxt := x.toInt_lt
  refine lv_iload_n hx hb dJ6_getChars_ba4f3_0 rfl (lv_at hl 1 rfl) ?_
  refine lv_istore (lv' := [(5, .int (nI en)), (0, .int x), (1, .int (nI en)), (2, .ref v)]) hx hb dJ6_getChars_ba4f3_1 hl (by decide) rfl (fun ls hl => ?_)
  refine lv_iload_n hx hb dJ6_getChars_ba4f3_3 rfl (lv_at hl 1 rfl) ?_
  refine lv_if_ge (tgt := 11) hx hb dJ6_getChars_ba4f3_4 (by decide) (fun c9 => ?_) (fun c9 => ?_)
  · have hx0 : 0 ≤ x.toInt := by rw [Int32.le_iff_toInt_le, Int32.toInt_zero] at c9; exact c9
    have hz0 : szk x = szj x.toInt.natAbs + 0 := by unfold szk; rw [if_neg (by omega)]
    refine lv_iconst (v := (0 : Int32)) hx hb dJ6_getChars_ba4f3_11 (by decide) ?_
    refine lv_istore (lv' := [(6, .int (0 : Int32)), (5, .int (nI en)), (0, .int x), (1, .int (nI en)), (2, .ref v)]) hx hb dJ6_getChars_ba4f3_12 hl (by decide) rfl (fun ls hl => ?_)
    refine lv_iload hx hb dJ6_getChars_ba4f3_14 (lv_at hl 0 rfl) ?_
    refine lv_if_ne (tgt := 22) hx hb dJ6_getChars_ba4f3_16 (by decide) (fun c9 => absurd c9 (by decide)) (fun c9 => ?_)
    refine lv_iload_n hx hb dJ6_getChars_ba4f3_19 rfl (lv_at hl 2 rfl) ?_
    refine lv_ineg hx hb dJ6_getChars_ba4f3_20 ?_
    refine lv_istore_n (lv' := [(0, .int (-x)), (6, .int (0 : Int32)), (5, .int (nI en)), (1, .int (nI en)), (2, .ref v)]) hx hb dJ6_getChars_ba4f3_21 rfl hl (by decide) rfl (fun ls hl => ?_)
    exact L22 x.toInt.natAbs (-x) en 0 f H locs ls (by rw [neg_t hx0]; omega) (by omega) (by omega) (by omega) hem hf hw (lv_sub hl [1, 2, 0, 4] rfl)
  · have hx0 : x.toInt < 0 := by rw [Int32.le_iff_toInt_le, Int32.toInt_zero] at c9; omega
    have hz0 : szk x = szj x.toInt.natAbs + 1 := by unfold szk; rw [if_pos hx0]
    refine lv_iconst (v := (1 : Int32)) hx hb dJ6_getChars_ba4f3_7 (by decide) ?_
    refine lv_goto (tgt := 12) hx hb dJ6_getChars_ba4f3_8 (by decide) ?_
    refine lv_istore (lv' := [(6, .int (1 : Int32)), (5, .int (nI en)), (0, .int x), (1, .int (nI en)), (2, .ref v)]) hx hb dJ6_getChars_ba4f3_12 hl (by decide) rfl (fun ls hl => ?_)
    refine lv_iload hx hb dJ6_getChars_ba4f3_14 (lv_at hl 0 rfl) ?_
    refine lv_if_ne (tgt := 22) hx hb dJ6_getChars_ba4f3_16 (by decide) (fun c9 => ?_) (fun c9 => absurd c9 (by decide))
    exact L22 x.toInt.natAbs x en 1 f H locs ls (by omega) (by omega) (by omega) (by omega) hem hf hw (lv_sub hl [0, 1, 2, 4] rfl)

set_option maxHeartbeats 4000000 in
set_option maxRecDepth 100000 in
theorem c_J5_append_c97b9 {l : Launch} {D : va_G} {cB : ClassId} (b v m n : Nat) (f : Nat → Int32) (x : Int32)(sz : Nat) (hnm : n ≤ m) (hm : m ≤ 20000) (hn : n < 10000) (hf : FT f) : JMr l yJ5_append_c97b9 (.code yJ5_append_c97b9 cJ5_append_c97b9 4 (Option.some (Jvm.ClassFile.FieldType.object "java/lang/AbstractStringBuilder"))) 4 (gr (n + szk x) m) (gs (n + szk x) m) [.ref b, .int x] D cB [(b, .inr (11, [.ref v, .int 0, .int 0, .int (nI n)])), (v, .inl (cB, m, .inl f))] [] sz (fun (u : Nat × (Nat → Int32)) => FT u.2) (fun (u : Nat × (Nat → Int32)) => b) (fun (u : Nat × (Nat → Int32)) => [bC b u.1 (n + szk x), bV cB u.1 (cap (n + szk x) m) u.2]) := by
  refine J_metr (by decide +kernel) (Nat.le_of_ble_eq_true rfl) (Or.inl ⟨_, rfl⟩) ?_
  intro p e s mI below meth c Z ls hx hb hml hown hin ht hK hC hZ hSL hw hret hl
  have hl : lv_has ls 4 [(0, .ref b), (1, .int x)] := hl
  suffices hh : ∀ (H : Heap) (locs : List Loc), MW D [] [(b, .inr (11, [.ref v, .int 0, .int 0, .int (nI n)])), (v, .inl (cB, m, .inl f))] (va_A [(b, .inr (11, [.ref v, .int 0, .int 0, .int (nI n)])), (v, .inl (cB, m, .inl f))] s.heap.size) s H locs → W p l e (RA 4 (gr (n + szk x) m) (gs (n + szk x) m)) s mI #[.ref b, .int x] below meth c H locs 0 0 Z (F0 mI 0 ls []) from hh _ _ hw
  intro H locs hw
  have hsk := szk_b x
  refine lv_aload_n hx hb dJ5_append_c97b9_0 rfl (lv_at hl 0 rfl) ?_
  refine va_get hx hb ht in_11 hown hK hw.1 0 rfl cl_11 3 (by decide) (ht _ q_913) (fun _ h => h) rfl dJ5_append_c97b9_1 ?_
  refine lv_istore_n (lv' := [(2, .int (nI n)), (0, .ref b), (1, .int x)]) hx hb dJ5_append_c97b9_4 rfl hl (by decide) rfl (fun ls hl => ?_)
  refine lv_iload_n hx hb dJ5_append_c97b9_5 rfl (lv_at hl 0 rfl) ?_
  refine lv_iload_n hx hb dJ5_append_c97b9_6 rfl (lv_at hl 2 rfl) ?_
  refine P_calli (va_runS (own := "java/lang/AbstractStringBuilder") (As := [.int x]) (rest := [.int (nI n)]) ⟨hx, hb, hml, hown, ht⟩ (c_J6_stringSize_0f7a4 x) (va_cwS 1 ht (G_S q_1025 q_1026 q_63 q_1027) rfl rfl rfl jd_7 ⟨Nat.le_of_ble_eq_true rfl, Nat.le_of_ble_eq_true rfl⟩) ⟨PM_blind, PM_pre⟩ rfl rfl hl.1 rfl (lv_room (Nat.le_of_ble_eq_true rfl)) dJ5_append_c97b9_7 ⟨show 0 + 0 ≤ gr (n + szk x) m by omega, show 0 + 0 ≤ gs (n + szk x) m by omega⟩) (fun r1 hr1 => ?_)
  rw [hr1]
  refine lv_iadd hx hb dJ5_append_c97b9_10 ?_
  refine lv_topi (fun x2 ex2 => ?_)
  rw [show x2 = (nI (n + szk x)) from ex2.trans (nI_add n (szk x))]
  refine lv_istore_n (lv' := [(3, .int (nI (n + szk x))), (2, .int (nI n)), (0, .ref b), (1, .int x)]) hx hb dJ5_append_c97b9_11 rfl hl (by decide) rfl (fun ls hl => ?_)
  refine lv_aload_n hx hb dJ5_append_c97b9_12 rfl (lv_at hl 2 rfl) ?_
  refine lv_iload_n hx hb dJ5_append_c97b9_13 rfl (lv_at hl 0 rfl) ?_
  refine J_callv (N0 := []) (ws := [(b, .inr (11, [.ref v, .int 0, .int 0, .int (nI n)])), (v, .inl (cB, m, .inl f))]) hw (va_runU (own := "java/lang/AbstractStringBuilder") (As := [.int (nI (n + szk x))]) (rest := []) ⟨hx, hb, hml, hown, ht⟩ (c_J5_ensureCapacityInternal_d00df b v m n (n + szk x) f H.size hm (by omega) hf) (cwUP (C0 := "java/lang/StringBuilder") 1 ht q_930 q_1608 q_932 q_66 q_933 (va_any rfl (hC.2 _ (List.mem_of_getElem? (i := 0) rfl))) rfl rfl jd_3 ⟨Nat.le_of_ble_eq_true rfl, Nat.le_of_ble_eq_true rfl⟩) ⟨JB.blind, J_recv hK hw (j := 0) rfl cl_11, JB.pre (N0 := []) (ws := [(b, .inr (11, [.ref v, .int 0, .int 0, .int (nI n)])), (v, .inl (cB, m, .inl f))]) hK hC hZ hw SL0⟩ rfl rfl hl.1 rfl (lv_room (Nat.le_of_ble_eq_true rfl)) dJ5_append_c97b9_14 ⟨show 0 + (gr (n + szk x) m) ≤ gr (n + szk x) m by omega, show 0 + (gs (n + szk x) m) ≤ gs (n + szk x) m by omega⟩) (fun u3 H locs hp4 hw => ?_)
  obtain ⟨v1, f1⟩ := u3
  have hw : MW D [] [(b, .inr (11, [.ref v1, .int 0, .int 0, .int (nI n)])), (v1, .inl (cB, (cap (n + szk x) m), .inl f1))] (va_A [(b, .inr (11, [.ref v, .int 0, .int 0, .int (nI n)])), (v, .inl (cB, m, .inl f))] s.heap.size) s H locs := hw
  refine lv_aload_n hx hb dJ5_append_c97b9_17 rfl (lv_at hl 2 rfl) ?_
  refine J_calli (N0 := []) (ws := [(b, .inr (11, [.ref v1, .int 0, .int 0, .int (nI n)])), (v1, .inl (cB, (cap (n + szk x) m), .inl f1))]) hw (va_runU (own := "java/lang/AbstractStringBuilder") (As := []) (rest := []) ⟨hx, hb, hml, hown, ht⟩ (c_J5_isLatin1_aae02 b v1 (cap (n + szk x) m) n f1 H.size) (va_cwU (C := "java/lang/StringBuilder") (owner := "java/lang/AbstractStringBuilder") 0 ht (G_U q_965 q_967 q_968 q_966 q_66 q_969) rfl rfl rfl rfl jd_4 ⟨Nat.le_of_ble_eq_true rfl, Nat.le_of_ble_eq_true rfl⟩) ⟨JB.blind, J_recv hK hw (j := 0) rfl cl_11, JB.pre (N0 := []) (ws := [(b, .inr (11, [.ref v1, .int 0, .int 0, .int (nI n)])), (v1, .inl (cB, (cap (n + szk x) m), .inl f1))]) hK hC hZ hw SL0⟩ rfl rfl hl.1 rfl (lv_room (Nat.le_of_ble_eq_true rfl)) dJ5_append_c97b9_18 ⟨show 0 + (gr (n + szk x) m) + 0 ≤ gr (n + szk x) m by omega, show 0 + (gs (n + szk x) m) + 0 ≤ gs (n + szk x) m by omega⟩) (fun r8 u6 H locs hp7 hw => ?_)
  have hw : MW D [] [(b, .inr (11, [.ref v1, .int 0, .int 0, .int (nI n)])), (v1, .inl (cB, (cap (n + szk x) m), .inl f1))] (va_A [(b, .inr (11, [.ref v, .int 0, .int 0, .int (nI n)])), (v, .inl (cB, m, .inl f))] s.heap.size) s H locs := hw
  rw [hp7]
  refine lv_if_eq (tgt := 37) hx hb dJ5_append_c97b9_21 (by decide) (fun c9 => absurd c9 (by decide)) (fun c9 => ?_)
  refine lv_iload_n hx hb dJ5_append_c97b9_24 rfl (lv_at hl 3 rfl) ?_
  refine lv_iload_n hx hb dJ5_append_c97b9_25 rfl (lv_at hl 0 rfl) ?_
  refine lv_aload_n hx hb dJ5_append_c97b9_26 rfl (lv_at hl 2 rfl) ?_
  refine va_get hx hb ht in_11 hown hK hw.1 0 rfl cl_11 0 (by decide) (ht _ q_910) (fun _ h => h) rfl dJ5_append_c97b9_27 ?_
  refine J_calli (N0 := [(b, .inr (11, [.ref v1, .int 0, .int 0, .int (nI n)]))]) (ws := [(v1, .inl (cB, (cap (n + szk x) m), .inl f1))]) hw (va_runS (own := "java/lang/AbstractStringBuilder") (As := [.int x, .int (nI (n + szk x)), .ref v1]) (rest := []) ⟨hx, hb, hml, hown, ht⟩ (c_J6_getChars_ba4f3 x (n + szk x) v1 (cap (n + szk x) m) f1 H.size (by omega) (cap_ge _ _).1 (by have := cap_b hm (show (n + szk x) ≤ 20000 by omega); omega) hp4) (va_cwS 3 ht (G_S q_1028 q_1029 q_63 q_1030) rfl rfl rfl jd_8 ⟨Nat.le_of_ble_eq_true rfl, Nat.le_of_ble_eq_true rfl⟩) ⟨JB.blind, JB.pre (N0 := [(b, .inr (11, [.ref v1, .int 0, .int 0, .int (nI n)]))]) (ws := [(v1, .inl (cB, (cap (n + szk x) m), .inl f1))]) hK hC hZ hw SL0⟩ rfl rfl hl.1 rfl (lv_room (Nat.le_of_ble_eq_true rfl)) dJ5_append_c97b9_30 ⟨show 0 + (gr (n + szk x) m) + 0 + 0 ≤ gr (n + szk x) m by omega, show 0 + (gs (n + szk x) m) + 0 + 0 ≤ gs (n + szk x) m by omega⟩) (fun r11 u9 H locs hp10 hw => ?_)
  have hw : MW D [] [(b, .inr (11, [.ref v1, .int 0, .int 0, .int (nI n)])), (v1, .inl (cB, (cap (n + szk x) m), .inl u9))] (va_A [(b, .inr (11, [.ref v, .int 0, .int 0, .int (nI n)])), (v, .inl (cB, m, .inl f))] s.heap.size) s H locs := hw
  refine lv_pop hx hb dJ5_append_c97b9_33 rfl ?_
  refine lv_goto (tgt := 48) hx hb dJ5_append_c97b9_34 (by decide) ?_
  refine lv_aload_n hx hb dJ5_append_c97b9_48 rfl (lv_at hl 2 rfl) ?_
  refine lv_iload_n hx hb dJ5_append_c97b9_49 rfl (lv_at hl 0 rfl) ?_
  refine va_put (ty := .int) hx hb ht in_11 tyJ4 tyJ4_ok nmJ4 hown hK hw.1 hw.2.1 hw.2.2.1 0 rfl cl_11 3 (by decide) (ht _ q_913) (fun _ h => h) rfl (by decide +kernel) rfl rfl (Nat.le_of_ble_eq_true rfl) dJ5_append_c97b9_50 (fun H locs hP hD hS => ?_)
  have hw : MW D [] [(b, .inr (11, [.ref v1, .int 0, .int 0, .int (nI (n + szk x))])), (v1, .inl (cB, (cap (n + szk x) m), .inl u9))] (va_A [(b, .inr (11, [.ref v, .int 0, .int 0, .int (nI n)])), (v, .inl (cB, m, .inl f))] s.heap.size) s H locs := ⟨hP, hD, hS, hw.2.2.2⟩
  refine lv_aload_n hx hb dJ5_append_c97b9_53 rfl (lv_at hl 2 rfl) ?_
  exact hret H locs ls 54 _ _ (v1, u9) b hw hp10 rfl (show 0 + (gr (n + szk x) m) + 0 + 0 ≤ gr (n + szk x) m by omega) (show 0 + (gs (n + szk x) m) + 0 + 0 ≤ gs (n + szk x) m by omega) dJ5_append_c97b9_54

set_option maxHeartbeats 4000000 in
set_option maxRecDepth 100000 in
theorem c_J4_append_bf812 {l : Launch} {D : va_G} {cB : ClassId} (b v m n : Nat) (f : Nat → Int32) (x : Int32)(sz : Nat) (hnm : n ≤ m) (hm : m ≤ 20000) (hn : n < 10000) (hf : FT f) : JMr l yJ4_append_bf812 (.code yJ4_append_bf812 cJ4_append_bf812 2 (Option.some (Jvm.ClassFile.FieldType.object "java/lang/StringBuilder"))) 5 (gr (n + szk x) m) (gs (n + szk x) m) [.ref b, .int x] D cB [(b, .inr (11, [.ref v, .int 0, .int 0, .int (nI n)])), (v, .inl (cB, m, .inl f))] [] sz (fun (u : Nat × (Nat → Int32)) => FT u.2) (fun (u : Nat × (Nat → Int32)) => b) (fun (u : Nat × (Nat → Int32)) => [bC b u.1 (n + szk x), bV cB u.1 (cap (n + szk x) m) u.2]) := by
  refine J_metr (by decide +kernel) (Nat.le_of_ble_eq_true rfl) (Or.inl ⟨_, rfl⟩) ?_
  intro p e s mI below meth c Z ls hx hb hml hown hin ht hK hC hZ hSL hw hret hl
  have hl : lv_has ls 2 [(0, .ref b), (1, .int x)] := hl
  suffices hh : ∀ (H : Heap) (locs : List Loc), MW D [] [(b, .inr (11, [.ref v, .int 0, .int 0, .int (nI n)])), (v, .inl (cB, m, .inl f))] (va_A [(b, .inr (11, [.ref v, .int 0, .int 0, .int (nI n)])), (v, .inl (cB, m, .inl f))] s.heap.size) s H locs → W p l e (RA 5 (gr (n + szk x) m) (gs (n + szk x) m)) s mI #[.ref b, .int x] below meth c H locs 0 0 Z (F0 mI 0 ls []) from hh _ _ hw
  intro H locs hw
  refine lv_aload_n hx hb dJ4_append_bf812_0 rfl (lv_at hl 0 rfl) ?_
  refine lv_iload_n hx hb dJ4_append_bf812_1 rfl (lv_at hl 1 rfl) ?_
  obtain ⟨cS, hat⟩ := classAt_of (ht _ q_893)
  refine J_callr (N0 := []) (ws := [(b, .inr (11, [.ref v, .int 0, .int 0, .int (nI n)])), (v, .inl (cB, m, .inl f))]) hw (va_runSU hat (own := "java/lang/StringBuilder") (As := [.int x]) (rest := []) ⟨hx, hb, hml, hown, ht⟩ (c_J5_append_c97b9 b v m n f x H.size hnm hm hn hf) (va_cwSU 1 ht (G_SU q_1022 q_1611 q_922 q_1023 q_66 q_1024) rfl rfl rfl ⟨by decide, by decide +kernel⟩ ⟨Nat.le_of_ble_eq_true rfl, Nat.le_of_ble_eq_true rfl⟩) ⟨JB.blind, J_recv hK hw (j := 0) rfl cl_11, JB.pre (N0 := []) (ws := [(b, .inr (11, [.ref v, .int 0, .int 0, .int (nI n)])), (v, .inl (cB, m, .inl f))]) hK hC hZ hw SL0⟩ rfl rfl hl.1 rfl (lv_room (Nat.le_of_ble_eq_true rfl)) dJ4_append_bf812_2 ⟨show 0 + (gr (n + szk x) m) ≤ gr (n + szk x) m by omega, show 0 + (gs (n + szk x) m) ≤ gs (n + szk x) m by omega⟩) (fun u1 H locs hp2 hw => ?_)
  obtain ⟨v1, f1⟩ := u1
  have hw : MW D [] [(b, .inr (11, [.ref v1, .int 0, .int 0, .int (nI (n + szk x))])), (v1, .inl (cB, (cap (n + szk x) m), .inl f1))] (va_A [(b, .inr (11, [.ref v, .int 0, .int 0, .int (nI n)])), (v, .inl (cB, m, .inl f))] s.heap.size) s H locs := hw
  refine lv_pop hx hb dJ4_append_bf812_5 rfl ?_
  refine lv_aload_n hx hb dJ4_append_bf812_6 rfl (lv_at hl 0 rfl) ?_
  exact hret H locs ls 7 _ _ (v1, f1) b hw hp2 rfl (show 0 + (gr (n + szk x) m) ≤ gr (n + szk x) m by omega) (show 0 + (gs (n + szk x) m) ≤ gs (n + szk x) m by omega) dJ4_append_bf812_7
end
/-! part 97.jdk3 -/
section
set_option maxRecDepth 100000 in
theorem db_cJ0_coder_7d493_dJ0_coder_7d493_0_0 : zw [(0, .getstatic 38, 3), (3, .ifCond .eq 10, 3), (6, .aload_n 0, 1), (7, .getfield 15, 3), (10, .goto 4, 3), (13, .iconst 1, 1), (14, .ireturn, 1)] (cJ0_coder_7d493.data.toList.drop 0) 0 = true := by decide +kernel
def dc_cJ0_coder_7d493_dJ0_coder_7d493_0_0 := zw_7 db_cJ0_coder_7d493_dJ0_coder_7d493_0_0
def dJ0_coder_7d493_0 := dc_cJ0_coder_7d493_dJ0_coder_7d493_0_0.1
def dJ0_coder_7d493_3 := dc_cJ0_coder_7d493_dJ0_coder_7d493_0_0.2.1
def dJ0_coder_7d493_6 := dc_cJ0_coder_7d493_dJ0_coder_7d493_0_0.2.2.1
def dJ0_coder_7d493_7 := dc_cJ0_coder_7d493_dJ0_coder_7d493_0_0.2.2.2.1
def dJ0_coder_7d493_10 := dc_cJ0_coder_7d493_dJ0_coder_7d493_0_0.2.2.2.2.1
def dJ0_coder_7d493_13 := dc_cJ0_coder_7d493_dJ0_coder_7d493_0_0.2.2.2.2.2.1
def dJ0_coder_7d493_14 := dc_cJ0_coder_7d493_dJ0_coder_7d493_0_0.2.2.2.2.2.2
set_option maxRecDepth 100000 in
theorem db_cJ0_length_8abf5_dJ0_length_8abf5_0_0 : zw [(0, .aload_n 0, 1), (1, .getfield 9, 3), (4, .arraylength, 1), (5, .aload_n 0, 1), (6, .invokevirtual 335, 3), (9, .ishr, 1), (10, .ireturn, 1)] (cJ0_length_8abf5.data.toList.drop 0) 0 = true := by decide +kernel
def dc_cJ0_length_8abf5_dJ0_length_8abf5_0_0 := zw_7 db_cJ0_length_8abf5_dJ0_length_8abf5_0_0
def dJ0_length_8abf5_0 := dc_cJ0_length_8abf5_dJ0_length_8abf5_0_0.1
def dJ0_length_8abf5_1 := dc_cJ0_length_8abf5_dJ0_length_8abf5_0_0.2.1
def dJ0_length_8abf5_4 := dc_cJ0_length_8abf5_dJ0_length_8abf5_0_0.2.2.1
def dJ0_length_8abf5_5 := dc_cJ0_length_8abf5_dJ0_length_8abf5_0_0.2.2.2.1
def dJ0_length_8abf5_6 := dc_cJ0_length_8abf5_dJ0_length_8abf5_0_0.2.2.2.2.1
def dJ0_length_8abf5_9 := dc_cJ0_length_8abf5_dJ0_length_8abf5_0_0.2.2.2.2.2.1
def dJ0_length_8abf5_10 := dc_cJ0_length_8abf5_dJ0_length_8abf5_0_0.2.2.2.2.2.2
set_option maxRecDepth 100000 in
theorem db_cJ5_inflateIfNeededFor_a7421_dJ5_inflateIfNeededFor_a7421_0_0 : zw [(0, .getstatic 18, 3), (3, .ifCond .eq 18, 3), (6, .aload_n 0, 1), (7, .getfield 22, 3), (10, .aload_n 1, 1), (11, .invokevirtual 40, 3), (14, .if_icmp .eq 7, 3), (17, .aload_n 0, 1), (18, .invokevirtual 195, 3), (21, .return_, 1)] (cJ5_inflateIfNeededFor_a7421.data.toList.drop 0) 0 = true := by decide +kernel
def dc_cJ5_inflateIfNeededFor_a7421_dJ5_inflateIfNeededFor_a7421_0_0 := zw_10 db_cJ5_inflateIfNeededFor_a7421_dJ5_inflateIfNeededFor_a7421_0_0
def dJ5_inflateIfNeededFor_a7421_0 := dc_cJ5_inflateIfNeededFor_a7421_dJ5_inflateIfNeededFor_a7421_0_0.1
def dJ5_inflateIfNeededFor_a7421_3 := dc_cJ5_inflateIfNeededFor_a7421_dJ5_inflateIfNeededFor_a7421_0_0.2.1
def dJ5_inflateIfNeededFor_a7421_6 := dc_cJ5_inflateIfNeededFor_a7421_dJ5_inflateIfNeededFor_a7421_0_0.2.2.1
def dJ5_inflateIfNeededFor_a7421_7 := dc_cJ5_inflateIfNeededFor_a7421_dJ5_inflateIfNeededFor_a7421_0_0.2.2.2.1
def dJ5_inflateIfNeededFor_a7421_10 := dc_cJ5_inflateIfNeededFor_a7421_dJ5_inflateIfNeededFor_a7421_0_0.2.2.2.2.1
def dJ5_inflateIfNeededFor_a7421_11 := dc_cJ5_inflateIfNeededFor_a7421_dJ5_inflateIfNeededFor_a7421_0_0.2.2.2.2.2.1
def dJ5_inflateIfNeededFor_a7421_14 := dc_cJ5_inflateIfNeededFor_a7421_dJ5_inflateIfNeededFor_a7421_0_0.2.2.2.2.2.2.1
def dJ5_inflateIfNeededFor_a7421_17 := dc_cJ5_inflateIfNeededFor_a7421_dJ5_inflateIfNeededFor_a7421_0_0.2.2.2.2.2.2.2.1
def dJ5_inflateIfNeededFor_a7421_18 := dc_cJ5_inflateIfNeededFor_a7421_dJ5_inflateIfNeededFor_a7421_0_0.2.2.2.2.2.2.2.2.1
def dJ5_inflateIfNeededFor_a7421_21 := dc_cJ5_inflateIfNeededFor_a7421_dJ5_inflateIfNeededFor_a7421_0_0.2.2.2.2.2.2.2.2.2
set_option maxRecDepth 100000 in
theorem db_cJ0_getBytes_840e7_dJ0_getBytes_840e7_0_0 : zw [(0, .aload_n 0, 1), (1, .invokevirtual 335, 3), (4, .iload_n 3, 1), (5, .if_icmp .ne 23, 3), (8, .aload_n 0, 1), (9, .getfield 9, 3), (12, .iconst 0, 1), (13, .aload_n 1, 1), (14, .iload_n 2, 1), (15, .iload_n 3, 1), (16, .ishl, 1), (17, .aload_n 0, 1), (18, .getfield 9, 3), (21, .arraylength, 1), (22, .invokestatic 212, 3), (25, .goto 18, 3)] (cJ0_getBytes_840e7.data.toList.drop 0) 0 = true := by decide +kernel
def dc_cJ0_getBytes_840e7_dJ0_getBytes_840e7_0_0 := zw_16 db_cJ0_getBytes_840e7_dJ0_getBytes_840e7_0_0
def dJ0_getBytes_840e7_0 := dc_cJ0_getBytes_840e7_dJ0_getBytes_840e7_0_0.1
def dJ0_getBytes_840e7_1 := dc_cJ0_getBytes_840e7_dJ0_getBytes_840e7_0_0.2.1
def dJ0_getBytes_840e7_4 := dc_cJ0_getBytes_840e7_dJ0_getBytes_840e7_0_0.2.2.1
def dJ0_getBytes_840e7_5 := dc_cJ0_getBytes_840e7_dJ0_getBytes_840e7_0_0.2.2.2.1
def dJ0_getBytes_840e7_8 := dc_cJ0_getBytes_840e7_dJ0_getBytes_840e7_0_0.2.2.2.2.1
def dJ0_getBytes_840e7_9 := dc_cJ0_getBytes_840e7_dJ0_getBytes_840e7_0_0.2.2.2.2.2.1
def dJ0_getBytes_840e7_12 := dc_cJ0_getBytes_840e7_dJ0_getBytes_840e7_0_0.2.2.2.2.2.2.1
def dJ0_getBytes_840e7_13 := dc_cJ0_getBytes_840e7_dJ0_getBytes_840e7_0_0.2.2.2.2.2.2.2.1
def dJ0_getBytes_840e7_14 := dc_cJ0_getBytes_840e7_dJ0_getBytes_840e7_0_0.2.2.2.2.2.2.2.2.1
def dJ0_getBytes_840e7_15 := dc_cJ0_getBytes_840e7_dJ0_getBytes_840e7_0_0.2.2.2.2.2.2.2.2.2.1
def dJ0_getBytes_840e7_16 := dc_cJ0_getBytes_840e7_dJ0_getBytes_840e7_0_0.2.2.2.2.2.2.2.2.2.2.1
def dJ0_getBytes_840e7_17 := dc_cJ0_getBytes_840e7_dJ0_getBytes_840e7_0_0.2.2.2.2.2.2.2.2.2.2.2.1
def dJ0_getBytes_840e7_18 := dc_cJ0_getBytes_840e7_dJ0_getBytes_840e7_0_0.2.2.2.2.2.2.2.2.2.2.2.2.1
def dJ0_getBytes_840e7_21 := dc_cJ0_getBytes_840e7_dJ0_getBytes_840e7_0_0.2.2.2.2.2.2.2.2.2.2.2.2.2.1
def dJ0_getBytes_840e7_22 := dc_cJ0_getBytes_840e7_dJ0_getBytes_840e7_0_0.2.2.2.2.2.2.2.2.2.2.2.2.2.2.1
def dJ0_getBytes_840e7_25 := dc_cJ0_getBytes_840e7_dJ0_getBytes_840e7_0_0.2.2.2.2.2.2.2.2.2.2.2.2.2.2.2
set_option maxRecDepth 100000 in
theorem db_cJ0_getBytes_840e7_dJ0_getBytes_840e7_28_1 : zw [(28, .aload_n 0, 1), (29, .getfield 9, 3), (32, .iconst 0, 1), (33, .aload_n 1, 1), (34, .iload_n 2, 1), (35, .aload_n 0, 1), (36, .getfield 9, 3), (39, .arraylength, 1), (40, .invokestatic 106, 3), (43, .return_, 1)] (cJ0_getBytes_840e7.data.toList.drop 28) 28 = true := by decide +kernel
def dc_cJ0_getBytes_840e7_dJ0_getBytes_840e7_28_1 := zw_10 db_cJ0_getBytes_840e7_dJ0_getBytes_840e7_28_1
def dJ0_getBytes_840e7_28 := dc_cJ0_getBytes_840e7_dJ0_getBytes_840e7_28_1.1
def dJ0_getBytes_840e7_29 := dc_cJ0_getBytes_840e7_dJ0_getBytes_840e7_28_1.2.1
def dJ0_getBytes_840e7_32 := dc_cJ0_getBytes_840e7_dJ0_getBytes_840e7_28_1.2.2.1
def dJ0_getBytes_840e7_33 := dc_cJ0_getBytes_840e7_dJ0_getBytes_840e7_28_1.2.2.2.1
def dJ0_getBytes_840e7_34 := dc_cJ0_getBytes_840e7_dJ0_getBytes_840e7_28_1.2.2.2.2.1
def dJ0_getBytes_840e7_35 := dc_cJ0_getBytes_840e7_dJ0_getBytes_840e7_28_1.2.2.2.2.2.1
def dJ0_getBytes_840e7_36 := dc_cJ0_getBytes_840e7_dJ0_getBytes_840e7_28_1.2.2.2.2.2.2.1
def dJ0_getBytes_840e7_39 := dc_cJ0_getBytes_840e7_dJ0_getBytes_840e7_28_1.2.2.2.2.2.2.2.1
def dJ0_getBytes_840e7_40 := dc_cJ0_getBytes_840e7_dJ0_getBytes_840e7_28_1.2.2.2.2.2.2.2.2.1
def dJ0_getBytes_840e7_43 := dc_cJ0_getBytes_840e7_dJ0_getBytes_840e7_28_1.2.2.2.2.2.2.2.2.2
set_option maxRecDepth 100000 in
theorem db_cJ5_putStringAt_47b60_dJ5_putStringAt_47b60_0_0 : zw [(0, .aload_n 0, 1), (1, .aload_n 2, 1), (2, .invokevirtual 397, 3), (5, .aload_n 2, 1), (6, .aload_n 0, 1), (7, .getfield 15, 3), (10, .iload_n 1, 1), (11, .aload_n 0, 1), (12, .getfield 22, 3), (15, .invokevirtual 399, 3), (18, .return_, 1)] (cJ5_putStringAt_47b60.data.toList.drop 0) 0 = true := by decide +kernel
def dc_cJ5_putStringAt_47b60_dJ5_putStringAt_47b60_0_0 := zw_11 db_cJ5_putStringAt_47b60_dJ5_putStringAt_47b60_0_0
def dJ5_putStringAt_47b60_0 := dc_cJ5_putStringAt_47b60_dJ5_putStringAt_47b60_0_0.1
def dJ5_putStringAt_47b60_1 := dc_cJ5_putStringAt_47b60_dJ5_putStringAt_47b60_0_0.2.1
def dJ5_putStringAt_47b60_2 := dc_cJ5_putStringAt_47b60_dJ5_putStringAt_47b60_0_0.2.2.1
def dJ5_putStringAt_47b60_5 := dc_cJ5_putStringAt_47b60_dJ5_putStringAt_47b60_0_0.2.2.2.1
def dJ5_putStringAt_47b60_6 := dc_cJ5_putStringAt_47b60_dJ5_putStringAt_47b60_0_0.2.2.2.2.1
def dJ5_putStringAt_47b60_7 := dc_cJ5_putStringAt_47b60_dJ5_putStringAt_47b60_0_0.2.2.2.2.2.1
def dJ5_putStringAt_47b60_10 := dc_cJ5_putStringAt_47b60_dJ5_putStringAt_47b60_0_0.2.2.2.2.2.2.1
def dJ5_putStringAt_47b60_11 := dc_cJ5_putStringAt_47b60_dJ5_putStringAt_47b60_0_0.2.2.2.2.2.2.2.1
def dJ5_putStringAt_47b60_12 := dc_cJ5_putStringAt_47b60_dJ5_putStringAt_47b60_0_0.2.2.2.2.2.2.2.2.1
def dJ5_putStringAt_47b60_15 := dc_cJ5_putStringAt_47b60_dJ5_putStringAt_47b60_0_0.2.2.2.2.2.2.2.2.2.1
def dJ5_putStringAt_47b60_18 := dc_cJ5_putStringAt_47b60_dJ5_putStringAt_47b60_0_0.2.2.2.2.2.2.2.2.2.2
set_option maxRecDepth 100000 in
theorem db_cJ5_append_cf1ce_dJ5_append_cf1ce_0_0 : zw [(0, .aload_n 1, 1), (1, .ifnonnull 8, 3), (4, .aload_n 0, 1), (5, .invokevirtual 204, 3), (8, .areturn, 1), (9, .aload_n 1, 1), (10, .invokevirtual 32, 3), (13, .istore_n 2, 1), (14, .aload_n 0, 1), (15, .aload_n 0, 1), (16, .getfield 79, 3), (19, .iload_n 2, 1), (20, .iadd, 1), (21, .invokevirtual 100, 3), (24, .aload_n 0, 1), (25, .aload_n 0, 1)] (cJ5_append_cf1ce.data.toList.drop 0) 0 = true := by decide +kernel
def dc_cJ5_append_cf1ce_dJ5_append_cf1ce_0_0 := zw_16 db_cJ5_append_cf1ce_dJ5_append_cf1ce_0_0
def dJ5_append_cf1ce_0 := dc_cJ5_append_cf1ce_dJ5_append_cf1ce_0_0.1
def dJ5_append_cf1ce_1 := dc_cJ5_append_cf1ce_dJ5_append_cf1ce_0_0.2.1
def dJ5_append_cf1ce_4 := dc_cJ5_append_cf1ce_dJ5_append_cf1ce_0_0.2.2.1
def dJ5_append_cf1ce_5 := dc_cJ5_append_cf1ce_dJ5_append_cf1ce_0_0.2.2.2.1
def dJ5_append_cf1ce_8 := dc_cJ5_append_cf1ce_dJ5_append_cf1ce_0_0.2.2.2.2.1
def dJ5_append_cf1ce_9 := dc_cJ5_append_cf1ce_dJ5_append_cf1ce_0_0.2.2.2.2.2.1
def dJ5_append_cf1ce_10 := dc_cJ5_append_cf1ce_dJ5_append_cf1ce_0_0.2.2.2.2.2.2.1
def dJ5_append_cf1ce_13 := dc_cJ5_append_cf1ce_dJ5_append_cf1ce_0_0.2.2.2.2.2.2.2.1
def dJ5_append_cf1ce_14 := dc_cJ5_append_cf1ce_dJ5_append_cf1ce_0_0.2.2.2.2.2.2.2.2.1
def dJ5_append_cf1ce_15 := dc_cJ5_append_cf1ce_dJ5_append_cf1ce_0_0.2.2.2.2.2.2.2.2.2.1
def dJ5_append_cf1ce_16 := dc_cJ5_append_cf1ce_dJ5_append_cf1ce_0_0.2.2.2.2.2.2.2.2.2.2.1
def dJ5_append_cf1ce_19 := dc_cJ5_append_cf1ce_dJ5_append_cf1ce_0_0.2.2.2.2.2.2.2.2.2.2.2.1
def dJ5_append_cf1ce_20 := dc_cJ5_append_cf1ce_dJ5_append_cf1ce_0_0.2.2.2.2.2.2.2.2.2.2.2.2.1
def dJ5_append_cf1ce_21 := dc_cJ5_append_cf1ce_dJ5_append_cf1ce_0_0.2.2.2.2.2.2.2.2.2.2.2.2.2.1
def dJ5_append_cf1ce_24 := dc_cJ5_append_cf1ce_dJ5_append_cf1ce_0_0.2.2.2.2.2.2.2.2.2.2.2.2.2.2.1
def dJ5_append_cf1ce_25 := dc_cJ5_append_cf1ce_dJ5_append_cf1ce_0_0.2.2.2.2.2.2.2.2.2.2.2.2.2.2.2
set_option maxRecDepth 100000 in
theorem db_cJ5_append_cf1ce_dJ5_append_cf1ce_26_1 : zw [(26, .getfield 79, 3), (29, .aload_n 1, 1), (30, .invokevirtual 208, 3), (33, .aload_n 0, 1), (34, .dup, 1), (35, .getfield 79, 3), (38, .iload_n 2, 1), (39, .iadd, 1), (40, .putfield 79, 3), (43, .aload_n 0, 1), (44, .areturn, 1)] (cJ5_append_cf1ce.data.toList.drop 26) 26 = true := by decide +kernel
def dc_cJ5_append_cf1ce_dJ5_append_cf1ce_26_1 := zw_11 db_cJ5_append_cf1ce_dJ5_append_cf1ce_26_1
def dJ5_append_cf1ce_26 := dc_cJ5_append_cf1ce_dJ5_append_cf1ce_26_1.1
def dJ5_append_cf1ce_29 := dc_cJ5_append_cf1ce_dJ5_append_cf1ce_26_1.2.1
def dJ5_append_cf1ce_30 := dc_cJ5_append_cf1ce_dJ5_append_cf1ce_26_1.2.2.1
def dJ5_append_cf1ce_33 := dc_cJ5_append_cf1ce_dJ5_append_cf1ce_26_1.2.2.2.1
def dJ5_append_cf1ce_34 := dc_cJ5_append_cf1ce_dJ5_append_cf1ce_26_1.2.2.2.2.1
def dJ5_append_cf1ce_35 := dc_cJ5_append_cf1ce_dJ5_append_cf1ce_26_1.2.2.2.2.2.1
def dJ5_append_cf1ce_38 := dc_cJ5_append_cf1ce_dJ5_append_cf1ce_26_1.2.2.2.2.2.2.1
def dJ5_append_cf1ce_39 := dc_cJ5_append_cf1ce_dJ5_append_cf1ce_26_1.2.2.2.2.2.2.2.1
def dJ5_append_cf1ce_40 := dc_cJ5_append_cf1ce_dJ5_append_cf1ce_26_1.2.2.2.2.2.2.2.2.1
def dJ5_append_cf1ce_43 := dc_cJ5_append_cf1ce_dJ5_append_cf1ce_26_1.2.2.2.2.2.2.2.2.2.1
def dJ5_append_cf1ce_44 := dc_cJ5_append_cf1ce_dJ5_append_cf1ce_26_1.2.2.2.2.2.2.2.2.2.2
set_option maxRecDepth 100000 in
theorem db_cJ4_append_15ec4_dJ4_append_15ec4_0_0 : zw [(0, .aload_n 0, 1), (1, .aload_n 1, 1), (2, .invokespecial 29, 3), (5, .pop, 1), (6, .aload_n 0, 1), (7, .areturn, 1)] (cJ4_append_15ec4.data.toList.drop 0) 0 = true := by decide +kernel
def dc_cJ4_append_15ec4_dJ4_append_15ec4_0_0 := zw_6 db_cJ4_append_15ec4_dJ4_append_15ec4_0_0
def dJ4_append_15ec4_0 := dc_cJ4_append_15ec4_dJ4_append_15ec4_0_0.1
def dJ4_append_15ec4_1 := dc_cJ4_append_15ec4_dJ4_append_15ec4_0_0.2.1
def dJ4_append_15ec4_2 := dc_cJ4_append_15ec4_dJ4_append_15ec4_0_0.2.2.1
def dJ4_append_15ec4_5 := dc_cJ4_append_15ec4_dJ4_append_15ec4_0_0.2.2.2.1
def dJ4_append_15ec4_6 := dc_cJ4_append_15ec4_dJ4_append_15ec4_0_0.2.2.2.2.1
def dJ4_append_15ec4_7 := dc_cJ4_append_15ec4_dJ4_append_15ec4_0_0.2.2.2.2.2
set_option maxRecDepth 100000 in
theorem db_cJ5_reverse_278bc_dJ5_reverse_278bc_0_0 : zw [(0, .aload_n 0, 1), (1, .getfield 15, 3), (4, .astore_n 1, 1), (5, .aload_n 0, 1), (6, .getfield 79, 3), (9, .istore_n 2, 1), (10, .iload_n 2, 1), (11, .iconst 1, 1), (12, .isub, 1), (13, .istore_n 3, 1), (14, .aload_n 0, 1), (15, .invokevirtual 83, 3), (18, .ifCond .eq 50, 3), (21, .iload_n 3, 1), (22, .iconst 1, 1), (23, .isub, 1)] (cJ5_reverse_278bc.data.toList.drop 0) 0 = true := by decide +kernel
def dc_cJ5_reverse_278bc_dJ5_reverse_278bc_0_0 := zw_16 db_cJ5_reverse_278bc_dJ5_reverse_278bc_0_0
def dJ5_reverse_278bc_0 := dc_cJ5_reverse_278bc_dJ5_reverse_278bc_0_0.1
def dJ5_reverse_278bc_1 := dc_cJ5_reverse_278bc_dJ5_reverse_278bc_0_0.2.1
def dJ5_reverse_278bc_4 := dc_cJ5_reverse_278bc_dJ5_reverse_278bc_0_0.2.2.1
def dJ5_reverse_278bc_5 := dc_cJ5_reverse_278bc_dJ5_reverse_278bc_0_0.2.2.2.1
def dJ5_reverse_278bc_6 := dc_cJ5_reverse_278bc_dJ5_reverse_278bc_0_0.2.2.2.2.1
def dJ5_reverse_278bc_9 := dc_cJ5_reverse_278bc_dJ5_reverse_278bc_0_0.2.2.2.2.2.1
def dJ5_reverse_278bc_10 := dc_cJ5_reverse_278bc_dJ5_reverse_278bc_0_0.2.2.2.2.2.2.1
def dJ5_reverse_278bc_11 := dc_cJ5_reverse_278bc_dJ5_reverse_278bc_0_0.2.2.2.2.2.2.2.1
def dJ5_reverse_278bc_12 := dc_cJ5_reverse_278bc_dJ5_reverse_278bc_0_0.2.2.2.2.2.2.2.2.1
def dJ5_reverse_278bc_13 := dc_cJ5_reverse_278bc_dJ5_reverse_278bc_0_0.2.2.2.2.2.2.2.2.2.1
def dJ5_reverse_278bc_14 := dc_cJ5_reverse_278bc_dJ5_reverse_278bc_0_0.2.2.2.2.2.2.2.2.2.2.1
def dJ5_reverse_278bc_15 := dc_cJ5_reverse_278bc_dJ5_reverse_278bc_0_0.2.2.2.2.2.2.2.2.2.2.2.1
def dJ5_reverse_278bc_18 := dc_cJ5_reverse_278bc_dJ5_reverse_278bc_0_0.2.2.2.2.2.2.2.2.2.2.2.2.1
def dJ5_reverse_278bc_21 := dc_cJ5_reverse_278bc_dJ5_reverse_278bc_0_0.2.2.2.2.2.2.2.2.2.2.2.2.2.1
def dJ5_reverse_278bc_22 := dc_cJ5_reverse_278bc_dJ5_reverse_278bc_0_0.2.2.2.2.2.2.2.2.2.2.2.2.2.2.1
def dJ5_reverse_278bc_23 := dc_cJ5_reverse_278bc_dJ5_reverse_278bc_0_0.2.2.2.2.2.2.2.2.2.2.2.2.2.2.2
set_option maxRecDepth 100000 in
theorem db_cJ5_reverse_278bc_dJ5_reverse_278bc_24_1 : zw [(24, .iconst 1, 1), (25, .ishr, 1), (26, .istore 4, 2), (28, .iload 4, 2), (30, .ifCond .lt 35, 3), (33, .iload_n 3, 1), (34, .iload 4, 2), (36, .isub, 1), (37, .istore 5, 2), (39, .aload_n 1, 1), (40, .iload 4, 2), (42, .baload, 1), (43, .istore 6, 2), (45, .aload_n 1, 1), (46, .iload 4, 2), (48, .aload_n 1, 1)] (cJ5_reverse_278bc.data.toList.drop 24) 24 = true := by decide +kernel
def dc_cJ5_reverse_278bc_dJ5_reverse_278bc_24_1 := zw_16 db_cJ5_reverse_278bc_dJ5_reverse_278bc_24_1
def dJ5_reverse_278bc_24 := dc_cJ5_reverse_278bc_dJ5_reverse_278bc_24_1.1
def dJ5_reverse_278bc_25 := dc_cJ5_reverse_278bc_dJ5_reverse_278bc_24_1.2.1
def dJ5_reverse_278bc_26 := dc_cJ5_reverse_278bc_dJ5_reverse_278bc_24_1.2.2.1
def dJ5_reverse_278bc_28 := dc_cJ5_reverse_278bc_dJ5_reverse_278bc_24_1.2.2.2.1
def dJ5_reverse_278bc_30 := dc_cJ5_reverse_278bc_dJ5_reverse_278bc_24_1.2.2.2.2.1
def dJ5_reverse_278bc_33 := dc_cJ5_reverse_278bc_dJ5_reverse_278bc_24_1.2.2.2.2.2.1
def dJ5_reverse_278bc_34 := dc_cJ5_reverse_278bc_dJ5_reverse_278bc_24_1.2.2.2.2.2.2.1
def dJ5_reverse_278bc_36 := dc_cJ5_reverse_278bc_dJ5_reverse_278bc_24_1.2.2.2.2.2.2.2.1
def dJ5_reverse_278bc_37 := dc_cJ5_reverse_278bc_dJ5_reverse_278bc_24_1.2.2.2.2.2.2.2.2.1
def dJ5_reverse_278bc_39 := dc_cJ5_reverse_278bc_dJ5_reverse_278bc_24_1.2.2.2.2.2.2.2.2.2.1
def dJ5_reverse_278bc_40 := dc_cJ5_reverse_278bc_dJ5_reverse_278bc_24_1.2.2.2.2.2.2.2.2.2.2.1
def dJ5_reverse_278bc_42 := dc_cJ5_reverse_278bc_dJ5_reverse_278bc_24_1.2.2.2.2.2.2.2.2.2.2.2.1
def dJ5_reverse_278bc_43 := dc_cJ5_reverse_278bc_dJ5_reverse_278bc_24_1.2.2.2.2.2.2.2.2.2.2.2.2.1
def dJ5_reverse_278bc_45 := dc_cJ5_reverse_278bc_dJ5_reverse_278bc_24_1.2.2.2.2.2.2.2.2.2.2.2.2.2.1
def dJ5_reverse_278bc_46 := dc_cJ5_reverse_278bc_dJ5_reverse_278bc_24_1.2.2.2.2.2.2.2.2.2.2.2.2.2.2.1
def dJ5_reverse_278bc_48 := dc_cJ5_reverse_278bc_dJ5_reverse_278bc_24_1.2.2.2.2.2.2.2.2.2.2.2.2.2.2.2
set_option maxRecDepth 100000 in
theorem db_cJ5_reverse_278bc_dJ5_reverse_278bc_49_2 : zw [(49, .iload 5, 2), (51, .baload, 1), (52, .bastore, 1), (53, .aload_n 1, 1), (54, .iload 5, 2), (56, .iload 6, 2), (58, .bastore, 1), (59, .iinc 4 (-1), 3), (62, .goto (-34), 3), (65, .goto 8, 3), (68, .aload_n 1, 1), (69, .iload_n 2, 1), (70, .invokestatic 358, 3), (73, .aload_n 0, 1), (74, .areturn, 1)] (cJ5_reverse_278bc.data.toList.drop 49) 49 = true := by decide +kernel
def dc_cJ5_reverse_278bc_dJ5_reverse_278bc_49_2 := zw_15 db_cJ5_reverse_278bc_dJ5_reverse_278bc_49_2
def dJ5_reverse_278bc_49 := dc_cJ5_reverse_278bc_dJ5_reverse_278bc_49_2.1
def dJ5_reverse_278bc_51 := dc_cJ5_reverse_278bc_dJ5_reverse_278bc_49_2.2.1
def dJ5_reverse_278bc_52 := dc_cJ5_reverse_278bc_dJ5_reverse_278bc_49_2.2.2.1
def dJ5_reverse_278bc_53 := dc_cJ5_reverse_278bc_dJ5_reverse_278bc_49_2.2.2.2.1
def dJ5_reverse_278bc_54 := dc_cJ5_reverse_278bc_dJ5_reverse_278bc_49_2.2.2.2.2.1
def dJ5_reverse_278bc_56 := dc_cJ5_reverse_278bc_dJ5_reverse_278bc_49_2.2.2.2.2.2.1
def dJ5_reverse_278bc_58 := dc_cJ5_reverse_278bc_dJ5_reverse_278bc_49_2.2.2.2.2.2.2.1
def dJ5_reverse_278bc_59 := dc_cJ5_reverse_278bc_dJ5_reverse_278bc_49_2.2.2.2.2.2.2.2.1
def dJ5_reverse_278bc_62 := dc_cJ5_reverse_278bc_dJ5_reverse_278bc_49_2.2.2.2.2.2.2.2.2.1
def dJ5_reverse_278bc_65 := dc_cJ5_reverse_278bc_dJ5_reverse_278bc_49_2.2.2.2.2.2.2.2.2.2.1
def dJ5_reverse_278bc_68 := dc_cJ5_reverse_278bc_dJ5_reverse_278bc_49_2.2.2.2.2.2.2.2.2.2.2.1
def dJ5_reverse_278bc_69 := dc_cJ5_reverse_278bc_dJ5_reverse_278bc_49_2.2.2.2.2.2.2.2.2.2.2.2.1
def dJ5_reverse_278bc_70 := dc_cJ5_reverse_278bc_dJ5_reverse_278bc_49_2.2.2.2.2.2.2.2.2.2.2.2.2.1
def dJ5_reverse_278bc_73 := dc_cJ5_reverse_278bc_dJ5_reverse_278bc_49_2.2.2.2.2.2.2.2.2.2.2.2.2.2.1
def dJ5_reverse_278bc_74 := dc_cJ5_reverse_278bc_dJ5_reverse_278bc_49_2.2.2.2.2.2.2.2.2.2.2.2.2.2.2
set_option maxRecDepth 100000 in
theorem db_cJ4_reverse_43fcb_dJ4_reverse_43fcb_0_0 : zw [(0, .aload_n 0, 1), (1, .invokespecial 127, 3), (4, .pop, 1), (5, .aload_n 0, 1), (6, .areturn, 1)] (cJ4_reverse_43fcb.data.toList.drop 0) 0 = true := by decide +kernel
def dc_cJ4_reverse_43fcb_dJ4_reverse_43fcb_0_0 := zw_5 db_cJ4_reverse_43fcb_dJ4_reverse_43fcb_0_0
def dJ4_reverse_43fcb_0 := dc_cJ4_reverse_43fcb_dJ4_reverse_43fcb_0_0.1
def dJ4_reverse_43fcb_1 := dc_cJ4_reverse_43fcb_dJ4_reverse_43fcb_0_0.2.1
def dJ4_reverse_43fcb_4 := dc_cJ4_reverse_43fcb_dJ4_reverse_43fcb_0_0.2.2.1
def dJ4_reverse_43fcb_5 := dc_cJ4_reverse_43fcb_dJ4_reverse_43fcb_0_0.2.2.2.1
def dJ4_reverse_43fcb_6 := dc_cJ4_reverse_43fcb_dJ4_reverse_43fcb_0_0.2.2.2.2
set_option maxRecDepth 100000 in
theorem db_cJ5_getValue_6d5f1_dJ5_getValue_6d5f1_0_0 : zw [(0, .aload_n 0, 1), (1, .getfield 15, 3), (4, .areturn, 1)] (cJ5_getValue_6d5f1.data.toList.drop 0) 0 = true := by decide +kernel
def dc_cJ5_getValue_6d5f1_dJ5_getValue_6d5f1_0_0 := zw_3 db_cJ5_getValue_6d5f1_dJ5_getValue_6d5f1_0_0
def dJ5_getValue_6d5f1_0 := dc_cJ5_getValue_6d5f1_dJ5_getValue_6d5f1_0_0.1
def dJ5_getValue_6d5f1_1 := dc_cJ5_getValue_6d5f1_dJ5_getValue_6d5f1_0_0.2.1
def dJ5_getValue_6d5f1_4 := dc_cJ5_getValue_6d5f1_dJ5_getValue_6d5f1_0_0.2.2
set_option maxRecDepth 100000 in
theorem db_cJ5_length_8abf5_dJ5_length_8abf5_0_0 : zw [(0, .aload_n 0, 1), (1, .getfield 79, 3), (4, .ireturn, 1)] (cJ5_length_8abf5.data.toList.drop 0) 0 = true := by decide +kernel
def dc_cJ5_length_8abf5_dJ5_length_8abf5_0_0 := zw_3 db_cJ5_length_8abf5_dJ5_length_8abf5_0_0
def dJ5_length_8abf5_0 := dc_cJ5_length_8abf5_dJ5_length_8abf5_0_0.1
def dJ5_length_8abf5_1 := dc_cJ5_length_8abf5_dJ5_length_8abf5_0_0.2.1
def dJ5_length_8abf5_4 := dc_cJ5_length_8abf5_dJ5_length_8abf5_0_0.2.2
set_option maxRecDepth 100000 in
theorem db_cJ7_checkLength_df160_dJ7_checkLength_df160_0_0 : zw [(0, .iload_n 1, 1), (1, .iload_n 0, 1), (2, .if_icmp .ge 35, 3), (5, .new 43, 3), (8, .dup, 1), (9, .new 45, 3), (12, .dup, 1), (13, .invokespecial 47, 3), (16, .iload_n 0, 1), (17, .invokevirtual 54, 3), (20, .ldc_w 337, 3), (23, .invokevirtual 50, 3), (26, .iload_n 1, 1), (27, .invokevirtual 54, 3), (30, .invokevirtual 61, 3), (33, .invokespecial 65, 3)] (cJ7_checkLength_df160.data.toList.drop 0) 0 = true := by decide +kernel
def dc_cJ7_checkLength_df160_dJ7_checkLength_df160_0_0 := zw_16 db_cJ7_checkLength_df160_dJ7_checkLength_df160_0_0
def dJ7_checkLength_df160_0 := dc_cJ7_checkLength_df160_dJ7_checkLength_df160_0_0.1
def dJ7_checkLength_df160_1 := dc_cJ7_checkLength_df160_dJ7_checkLength_df160_0_0.2.1
def dJ7_checkLength_df160_2 := dc_cJ7_checkLength_df160_dJ7_checkLength_df160_0_0.2.2.1
def dJ7_checkLength_df160_5 := dc_cJ7_checkLength_df160_dJ7_checkLength_df160_0_0.2.2.2.1
def dJ7_checkLength_df160_8 := dc_cJ7_checkLength_df160_dJ7_checkLength_df160_0_0.2.2.2.2.1
def dJ7_checkLength_df160_9 := dc_cJ7_checkLength_df160_dJ7_checkLength_df160_0_0.2.2.2.2.2.1
def dJ7_checkLength_df160_12 := dc_cJ7_checkLength_df160_dJ7_checkLength_df160_0_0.2.2.2.2.2.2.1
def dJ7_checkLength_df160_13 := dc_cJ7_checkLength_df160_dJ7_checkLength_df160_0_0.2.2.2.2.2.2.2.1
def dJ7_checkLength_df160_16 := dc_cJ7_checkLength_df160_dJ7_checkLength_df160_0_0.2.2.2.2.2.2.2.2.1
def dJ7_checkLength_df160_17 := dc_cJ7_checkLength_df160_dJ7_checkLength_df160_0_0.2.2.2.2.2.2.2.2.2.1
def dJ7_checkLength_df160_20 := dc_cJ7_checkLength_df160_dJ7_checkLength_df160_0_0.2.2.2.2.2.2.2.2.2.2.1
def dJ7_checkLength_df160_23 := dc_cJ7_checkLength_df160_dJ7_checkLength_df160_0_0.2.2.2.2.2.2.2.2.2.2.2.1
def dJ7_checkLength_df160_26 := dc_cJ7_checkLength_df160_dJ7_checkLength_df160_0_0.2.2.2.2.2.2.2.2.2.2.2.2.1
def dJ7_checkLength_df160_27 := dc_cJ7_checkLength_df160_dJ7_checkLength_df160_0_0.2.2.2.2.2.2.2.2.2.2.2.2.2.1
def dJ7_checkLength_df160_30 := dc_cJ7_checkLength_df160_dJ7_checkLength_df160_0_0.2.2.2.2.2.2.2.2.2.2.2.2.2.2.1
def dJ7_checkLength_df160_33 := dc_cJ7_checkLength_df160_dJ7_checkLength_df160_0_0.2.2.2.2.2.2.2.2.2.2.2.2.2.2.2
set_option maxRecDepth 100000 in
theorem db_cJ7_checkLength_df160_dJ7_checkLength_df160_36_1 : zw [(36, .athrow, 1), (37, .return_, 1)] (cJ7_checkLength_df160.data.toList.drop 36) 36 = true := by decide +kernel
def dc_cJ7_checkLength_df160_dJ7_checkLength_df160_36_1 := zw_2 db_cJ7_checkLength_df160_dJ7_checkLength_df160_36_1
def dJ7_checkLength_df160_36 := dc_cJ7_checkLength_df160_dJ7_checkLength_df160_36_1.1
def dJ7_checkLength_df160_37 := dc_cJ7_checkLength_df160_dJ7_checkLength_df160_36_1.2
set_option maxRecDepth 100000 in
theorem db_cJ7_copyOfRangeByte_39247_dJ7_copyOfRangeByte_39247_0_0 : zw [(0, .iload_n 1, 1), (1, .iload_n 2, 1), (2, .invokestatic 343, 3), (5, .iload_n 2, 1), (6, .iload_n 1, 1), (7, .isub, 1), (8, .istore_n 3, 1), (9, .iload_n 3, 1)] (cJ7_copyOfRangeByte_39247.data.toList.drop 0) 0 = true := by decide +kernel
def dc_cJ7_copyOfRangeByte_39247_dJ7_copyOfRangeByte_39247_0_0 := zw_8 db_cJ7_copyOfRangeByte_39247_dJ7_copyOfRangeByte_39247_0_0
def dJ7_copyOfRangeByte_39247_0 := dc_cJ7_copyOfRangeByte_39247_dJ7_copyOfRangeByte_39247_0_0.1
def dJ7_copyOfRangeByte_39247_1 := dc_cJ7_copyOfRangeByte_39247_dJ7_copyOfRangeByte_39247_0_0.2.1
def dJ7_copyOfRangeByte_39247_2 := dc_cJ7_copyOfRangeByte_39247_dJ7_copyOfRangeByte_39247_0_0.2.2.1
def dJ7_copyOfRangeByte_39247_5 := dc_cJ7_copyOfRangeByte_39247_dJ7_copyOfRangeByte_39247_0_0.2.2.2.1
def dJ7_copyOfRangeByte_39247_6 := dc_cJ7_copyOfRangeByte_39247_dJ7_copyOfRangeByte_39247_0_0.2.2.2.2.1
def dJ7_copyOfRangeByte_39247_7 := dc_cJ7_copyOfRangeByte_39247_dJ7_copyOfRangeByte_39247_0_0.2.2.2.2.2.1
def dJ7_copyOfRangeByte_39247_8 := dc_cJ7_copyOfRangeByte_39247_dJ7_copyOfRangeByte_39247_0_0.2.2.2.2.2.2.1
def dJ7_copyOfRangeByte_39247_9 := dc_cJ7_copyOfRangeByte_39247_dJ7_copyOfRangeByte_39247_0_0.2.2.2.2.2.2.2
theorem dJ7_copyOfRangeByte_39247_10 : decode cJ7_copyOfRangeByte_39247 10 = .ok (.newarray .byte, 2) := by decide +kernel
set_option maxRecDepth 100000 in
theorem db_cJ7_copyOfRangeByte_39247_dJ7_copyOfRangeByte_39247_12_1 : zw [(12, .astore 4, 2), (14, .aload_n 0, 1), (15, .iload_n 1, 1), (16, .aload 4, 2), (18, .iconst 0, 1), (19, .aload_n 0, 1), (20, .arraylength, 1), (21, .iload_n 1, 1), (22, .isub, 1), (23, .iload_n 3, 1), (24, .invokestatic 304, 3), (27, .invokestatic 150, 3), (30, .aload 4, 2), (32, .areturn, 1)] (cJ7_copyOfRangeByte_39247.data.toList.drop 12) 12 = true := by decide +kernel
def dc_cJ7_copyOfRangeByte_39247_dJ7_copyOfRangeByte_39247_12_1 := zw_14 db_cJ7_copyOfRangeByte_39247_dJ7_copyOfRangeByte_39247_12_1
def dJ7_copyOfRangeByte_39247_12 := dc_cJ7_copyOfRangeByte_39247_dJ7_copyOfRangeByte_39247_12_1.1
def dJ7_copyOfRangeByte_39247_14 := dc_cJ7_copyOfRangeByte_39247_dJ7_copyOfRangeByte_39247_12_1.2.1
def dJ7_copyOfRangeByte_39247_15 := dc_cJ7_copyOfRangeByte_39247_dJ7_copyOfRangeByte_39247_12_1.2.2.1
def dJ7_copyOfRangeByte_39247_16 := dc_cJ7_copyOfRangeByte_39247_dJ7_copyOfRangeByte_39247_12_1.2.2.2.1
def dJ7_copyOfRangeByte_39247_18 := dc_cJ7_copyOfRangeByte_39247_dJ7_copyOfRangeByte_39247_12_1.2.2.2.2.1
def dJ7_copyOfRangeByte_39247_19 := dc_cJ7_copyOfRangeByte_39247_dJ7_copyOfRangeByte_39247_12_1.2.2.2.2.2.1
def dJ7_copyOfRangeByte_39247_20 := dc_cJ7_copyOfRangeByte_39247_dJ7_copyOfRangeByte_39247_12_1.2.2.2.2.2.2.1
def dJ7_copyOfRangeByte_39247_21 := dc_cJ7_copyOfRangeByte_39247_dJ7_copyOfRangeByte_39247_12_1.2.2.2.2.2.2.2.1
def dJ7_copyOfRangeByte_39247_22 := dc_cJ7_copyOfRangeByte_39247_dJ7_copyOfRangeByte_39247_12_1.2.2.2.2.2.2.2.2.1
def dJ7_copyOfRangeByte_39247_23 := dc_cJ7_copyOfRangeByte_39247_dJ7_copyOfRangeByte_39247_12_1.2.2.2.2.2.2.2.2.2.1
def dJ7_copyOfRangeByte_39247_24 := dc_cJ7_copyOfRangeByte_39247_dJ7_copyOfRangeByte_39247_12_1.2.2.2.2.2.2.2.2.2.2.1
def dJ7_copyOfRangeByte_39247_27 := dc_cJ7_copyOfRangeByte_39247_dJ7_copyOfRangeByte_39247_12_1.2.2.2.2.2.2.2.2.2.2.2.1
def dJ7_copyOfRangeByte_39247_30 := dc_cJ7_copyOfRangeByte_39247_dJ7_copyOfRangeByte_39247_12_1.2.2.2.2.2.2.2.2.2.2.2.2.1
def dJ7_copyOfRangeByte_39247_32 := dc_cJ7_copyOfRangeByte_39247_dJ7_copyOfRangeByte_39247_12_1.2.2.2.2.2.2.2.2.2.2.2.2.2
set_option maxRecDepth 100000 in
theorem db_cJ7_copyOfRange_39247_dJ7_copyOfRange_39247_0_0 : zw [(0, .iload_n 1, 1), (1, .ifCond .ne 9, 3), (4, .iload_n 2, 1), (5, .aload_n 0, 1), (6, .arraylength, 1), (7, .if_icmp .eq 10, 3), (10, .aload_n 0, 1), (11, .iload_n 1, 1), (12, .iload_n 2, 1), (13, .invokestatic 339, 3), (16, .areturn, 1), (17, .aload_n 0, 1), (18, .invokevirtual 310, 3), (21, .checkcast 311, 3), (24, .areturn, 1)] (cJ7_copyOfRange_39247.data.toList.drop 0) 0 = true := by decide +kernel
def dc_cJ7_copyOfRange_39247_dJ7_copyOfRange_39247_0_0 := zw_15 db_cJ7_copyOfRange_39247_dJ7_copyOfRange_39247_0_0
def dJ7_copyOfRange_39247_0 := dc_cJ7_copyOfRange_39247_dJ7_copyOfRange_39247_0_0.1
def dJ7_copyOfRange_39247_1 := dc_cJ7_copyOfRange_39247_dJ7_copyOfRange_39247_0_0.2.1
def dJ7_copyOfRange_39247_4 := dc_cJ7_copyOfRange_39247_dJ7_copyOfRange_39247_0_0.2.2.1
def dJ7_copyOfRange_39247_5 := dc_cJ7_copyOfRange_39247_dJ7_copyOfRange_39247_0_0.2.2.2.1
def dJ7_copyOfRange_39247_6 := dc_cJ7_copyOfRange_39247_dJ7_copyOfRange_39247_0_0.2.2.2.2.1
def dJ7_copyOfRange_39247_7 := dc_cJ7_copyOfRange_39247_dJ7_copyOfRange_39247_0_0.2.2.2.2.2.1
def dJ7_copyOfRange_39247_10 := dc_cJ7_copyOfRange_39247_dJ7_copyOfRange_39247_0_0.2.2.2.2.2.2.1
def dJ7_copyOfRange_39247_11 := dc_cJ7_copyOfRange_39247_dJ7_copyOfRange_39247_0_0.2.2.2.2.2.2.2.1
def dJ7_copyOfRange_39247_12 := dc_cJ7_copyOfRange_39247_dJ7_copyOfRange_39247_0_0.2.2.2.2.2.2.2.2.1
def dJ7_copyOfRange_39247_13 := dc_cJ7_copyOfRange_39247_dJ7_copyOfRange_39247_0_0.2.2.2.2.2.2.2.2.2.1
def dJ7_copyOfRange_39247_16 := dc_cJ7_copyOfRange_39247_dJ7_copyOfRange_39247_0_0.2.2.2.2.2.2.2.2.2.2.1
def dJ7_copyOfRange_39247_17 := dc_cJ7_copyOfRange_39247_dJ7_copyOfRange_39247_0_0.2.2.2.2.2.2.2.2.2.2.2.1
def dJ7_copyOfRange_39247_18 := dc_cJ7_copyOfRange_39247_dJ7_copyOfRange_39247_0_0.2.2.2.2.2.2.2.2.2.2.2.2.1
def dJ7_copyOfRange_39247_21 := dc_cJ7_copyOfRange_39247_dJ7_copyOfRange_39247_0_0.2.2.2.2.2.2.2.2.2.2.2.2.2.1
def dJ7_copyOfRange_39247_24 := dc_cJ7_copyOfRange_39247_dJ7_copyOfRange_39247_0_0.2.2.2.2.2.2.2.2.2.2.2.2.2.2
theorem jd_10 : (yJ0_coder_7d493 : MethodName).cls ≠ "java/lang/invoke/MethodHandle" ∧ (yJ0_coder_7d493 : MethodName).cls ≠ "java/lang/invoke/VarHandle" ∧ (parseMethodDescriptor (yJ0_coder_7d493 : MethodName).desc).map (fun d => d.parameters.length) = some 0 := by decide +kernel
theorem jd_11 : (yJ5_inflateIfNeededFor_a7421 : MethodName).cls ≠ "java/lang/invoke/MethodHandle" ∧ (yJ5_inflateIfNeededFor_a7421 : MethodName).cls ≠ "java/lang/invoke/VarHandle" ∧ (parseMethodDescriptor (yJ5_inflateIfNeededFor_a7421 : MethodName).desc).map (fun d => d.parameters.length) = some 1 := by decide +kernel
theorem jd_12 : (yJ0_getBytes_840e7 : MethodName).cls ≠ "java/lang/invoke/MethodHandle" ∧ (yJ0_getBytes_840e7 : MethodName).cls ≠ "java/lang/invoke/VarHandle" ∧ (parseMethodDescriptor (yJ0_getBytes_840e7 : MethodName).desc).map (fun d => d.parameters.length) = some 3 := by decide +kernel
theorem jd_13 : (yJ0_length_8abf5 : MethodName).cls ≠ "java/lang/invoke/MethodHandle" ∧ (yJ0_length_8abf5 : MethodName).cls ≠ "java/lang/invoke/VarHandle" ∧ (parseMethodDescriptor (yJ0_length_8abf5 : MethodName).desc).map (fun d => d.parameters.length) = some 0 := by decide +kernel
theorem jd_14 : (yJ5_putStringAt_47b60 : MethodName).cls ≠ "java/lang/invoke/MethodHandle" ∧ (yJ5_putStringAt_47b60 : MethodName).cls ≠ "java/lang/invoke/VarHandle" ∧ (parseMethodDescriptor (yJ5_putStringAt_47b60 : MethodName).desc).map (fun d => d.parameters.length) = some 2 := by decide +kernel
theorem jd_15 : (yJ5_append_cf1ce : MethodName).cls ≠ "java/lang/invoke/MethodHandle" ∧ (yJ5_append_cf1ce : MethodName).cls ≠ "java/lang/invoke/VarHandle" ∧ (parseMethodDescriptor (yJ5_append_cf1ce : MethodName).desc).map (fun d => d.parameters.length) = some 1 := by decide +kernel
theorem jd_16 : (yJ5_reverse_278bc : MethodName).cls ≠ "java/lang/invoke/MethodHandle" ∧ (yJ5_reverse_278bc : MethodName).cls ≠ "java/lang/invoke/VarHandle" ∧ (parseMethodDescriptor (yJ5_reverse_278bc : MethodName).desc).map (fun d => d.parameters.length) = some 0 := by decide +kernel
theorem jd_17 : (yJ7_checkLength_df160 : MethodName).cls ≠ "java/lang/invoke/MethodHandle" ∧ (yJ7_checkLength_df160 : MethodName).cls ≠ "java/lang/invoke/VarHandle" ∧ (parseMethodDescriptor (yJ7_checkLength_df160 : MethodName).desc).map (fun d => d.parameters.length) = some 2 := by decide +kernel
theorem jd_18 : (yJ7_copyOfRangeByte_39247 : MethodName).cls ≠ "java/lang/invoke/MethodHandle" ∧ (yJ7_copyOfRangeByte_39247 : MethodName).cls ≠ "java/lang/invoke/VarHandle" ∧ (parseMethodDescriptor (yJ7_copyOfRangeByte_39247 : MethodName).desc).map (fun d => d.parameters.length) = some 3 := by decide +kernel
set_option maxHeartbeats 4000000 in
set_option maxRecDepth 100000 in
theorem c_J0_coder_7d493 {l : Launch} {D : va_G} {cB : ClassId} (a b0 w : Nat)(sz : Nat)  : JMi l yJ0_coder_7d493 (.code yJ0_coder_7d493 cJ0_coder_7d493 1 (Option.some Jvm.ClassFile.FieldType.byte)) 0 0 0 [.ref a] D cB [] [(a, b0, w)] sz (fun (r : Int32) (u : Unit) => r = 0) (fun (u : Unit) => []) := by
  refine J_meti (by decide +kernel) (Nat.le_of_ble_eq_true rfl) ?_
  intro p e s mI below meth c Z ls hx hb hml hown hin ht hK hC hZ hSL hw hret hl
  have hl : lv_has ls 1 [(0, .ref a)] := hl
  suffices hh : ∀ (H : Heap) (locs : List Loc), MW D [] [] (va_A [] s.heap.size) s H locs → W p l e (RA 0 0 0) s mI #[.ref a] below meth c H locs 0 0 Z (F0 mI 0 ls []) from hh _ _ hw
  intro H locs hw
  have hO : SO a b0 w (va_A [] s.heap.size) s s.heap := hSL (a, b0, w) (List.mem_singleton.mpr rfl)
  refine va_gets hx hb hZ.1 hw.2.2.1 hown (ht _ q_1116) (fun _ h => h) dJ0_coder_7d493_0 ?_
  refine lv_if_eq (tgt := 13) hx hb dJ0_coder_7d493_3 (by decide) (fun c9 => absurd c9 (by decide)) (fun c9 => ?_)
  refine lv_aload_n hx hb dJ0_coder_7d493_6 rfl (lv_at hl 0 rfl) ?_
  refine vk_getf hx hb hO.2.1 hw.2.2.1 hown (ht _ q_1148) (fun _ h => h) dJ0_coder_7d493_7 ?_
  refine lv_goto (tgt := 14) hx hb dJ0_coder_7d493_10 (by decide) ?_
  exact hret H locs ls 14 _ _ 0 () hw rfl rfl (show 0 ≤ 0 by omega) (show 0 ≤ 0 by omega) dJ0_coder_7d493_14

set_option maxHeartbeats 4000000 in
set_option maxRecDepth 100000 in
theorem c_J0_length_8abf5 {l : Launch} {D : va_G} {cB : ClassId} (a b0 w : Nat)(sz : Nat)  : JMi l yJ0_length_8abf5 (.code yJ0_length_8abf5 cJ0_length_8abf5 1 (Option.some Jvm.ClassFile.FieldType.int)) 1 0 0 [.ref a] D cB [] [(a, b0, w)] sz (fun (r : Int32) (u : Unit) => r = nI w) (fun (u : Unit) => []) := by
  refine J_meti (by decide +kernel) (Nat.le_of_ble_eq_true rfl) ?_
  intro p e s mI below meth c Z ls hx hb hml hown hin ht hK hC hZ hSL hw hret hl
  have hl : lv_has ls 1 [(0, .ref a)] := hl
  suffices hh : ∀ (H : Heap) (locs : List Loc), MW D [] [] (va_A [] s.heap.size) s H locs → W p l e (RA 1 0 0) s mI #[.ref a] below meth c H locs 0 0 Z (F0 mI 0 ls []) from hh _ _ hw
  intro H locs hw
  have hO : SO a b0 w (va_A [] s.heap.size) s s.heap := hSL (a, b0, w) (List.mem_singleton.mpr rfl)
  obtain ⟨f9, hf9, hT9⟩ := hO.2.2.2
  refine lv_aload_n hx hb dJ0_length_8abf5_0 rfl (lv_at hl 0 rfl) ?_
  refine vk_getf hx hb hO.2.2.1 hw.2.2.1 hown (ht _ q_1147) (fun _ h => h) dJ0_length_8abf5_1 ?_
  refine va_tlen (v := nI w) hx hb hT9 hw.2.2.1 rfl dJ0_length_8abf5_4 ?_
  refine lv_aload_n hx hb dJ0_length_8abf5_5 rfl (lv_at hl 0 rfl) ?_
  refine J_calli (N0 := []) (ws := []) hw (va_runV (own := "java/lang/String") (As := []) (rest := [.int (nI w)]) ⟨hx, hb, hml, hown, ht⟩ (c_J0_coder_7d493 a b0 w H.size) (cwV 0 ht (G_V q_1112 q_1113 q_1114 q_68 q_1115) rfl rfl rfl ⟨rfl, jd_10⟩ ⟨Nat.le_of_ble_eq_true rfl, Nat.le_of_ble_eq_true rfl⟩) ⟨JB.blind, SO.recv hO hw.2.2.1, JB.pre (N0 := []) (ws := []) hK hC hZ hw (SL1 (SO.pass (N0 := []) (ws := []) hO hw))⟩ rfl rfl hl.1 rfl (lv_room (Nat.le_of_ble_eq_true rfl)) dJ0_length_8abf5_6 ⟨show 0 + 0 ≤ 0 by omega, show 0 + 0 ≤ 0 by omega⟩) (fun r3 u1 H locs hp2 hw => ?_)
  have hw : MW D [] [] (va_A [] s.heap.size) s H locs := hw
  rw [hp2]
  refine lv_ishr hx hb dJ0_length_8abf5_9 ?_
  refine lv_topi (fun x4 ex4 => ?_)
  rw [show x4 = (nI w) from ex4.trans (sb_shr0 _)]
  exact hret H locs ls 10 _ _ (nI w) () hw rfl rfl (show 0 + 0 ≤ 0 by omega) (show 0 + 0 ≤ 0 by omega) dJ0_length_8abf5_10

set_option maxHeartbeats 4000000 in
set_option maxRecDepth 100000 in
theorem c_J5_inflateIfNeededFor_a7421 {l : Launch} {D : va_G} {cB : ClassId} (a b0 w b v m n : Nat) (f : Nat → Int32)(sz : Nat)  : JMv l yJ5_inflateIfNeededFor_a7421 (.code yJ5_inflateIfNeededFor_a7421 cJ5_inflateIfNeededFor_a7421 2 (Option.none : Option Jvm.ClassFile.FieldType)) 1 0 0 [.ref b, .ref a] D cB [(b, .inr (11, [.ref v, .int 0, .int 0, .int (nI n)])), (v, .inl (cB, m, .inl f))] [(a, b0, w)] sz (fun (u : Unit) => True) (fun (u : Unit) => [bC b v n, bV cB v m f]) := by
  refine J_metv (by decide +kernel) (Nat.le_of_ble_eq_true rfl) ?_
  intro p e s mI below meth c Z ls hx hb hml hown hin ht hK hC hZ hSL hw hret hl
  have hl : lv_has ls 2 [(0, .ref b), (1, .ref a)] := hl
  suffices hh : ∀ (H : Heap) (locs : List Loc), MW D [] [(b, .inr (11, [.ref v, .int 0, .int 0, .int (nI n)])), (v, .inl (cB, m, .inl f))] (va_A [(b, .inr (11, [.ref v, .int 0, .int 0, .int (nI n)])), (v, .inl (cB, m, .inl f))] s.heap.size) s H locs → W p l e (RA 1 0 0) s mI #[.ref b, .ref a] below meth c H locs 0 0 Z (F0 mI 0 ls []) from hh _ _ hw
  intro H locs hw
  have hO : SO a b0 w (va_A [(b, .inr (11, [.ref v, .int 0, .int 0, .int (nI n)])), (v, .inl (cB, m, .inl f))] s.heap.size) s s.heap := hSL (a, b0, w) (List.mem_singleton.mpr rfl)
  refine va_gets hx hb hZ.1 hw.2.2.1 hown (ht _ q_901) (fun _ h => h) dJ5_inflateIfNeededFor_a7421_0 ?_
  refine lv_if_eq (tgt := 21) hx hb dJ5_inflateIfNeededFor_a7421_3 (by decide) (fun c9 => absurd c9 (by decide)) (fun c9 => ?_)
  refine lv_aload_n hx hb dJ5_inflateIfNeededFor_a7421_6 rfl (lv_at hl 0 rfl) ?_
  refine va_get hx hb ht in_11 hown hK hw.1 0 rfl cl_11 1 (by decide) (ht _ q_911) (fun _ h => h) rfl dJ5_inflateIfNeededFor_a7421_7 ?_
  refine lv_aload_n hx hb dJ5_inflateIfNeededFor_a7421_10 rfl (lv_at hl 1 rfl) ?_
  refine J_calli (N0 := [(b, .inr (11, [.ref v, .int 0, .int 0, .int (nI n)])), (v, .inl (cB, m, .inl f))]) (ws := []) hw (va_runV (own := "java/lang/AbstractStringBuilder") (As := []) (rest := [.int 0]) ⟨hx, hb, hml, hown, ht⟩ (c_J0_coder_7d493 a b0 w H.size) (cwV 0 ht (G_V q_1125 q_1113 q_1114 q_68 q_1115) rfl rfl rfl ⟨rfl, jd_10⟩ ⟨Nat.le_of_ble_eq_true rfl, Nat.le_of_ble_eq_true rfl⟩) ⟨JB.blind, SO.recv hO hw.2.2.1, JB.pre (N0 := [(b, .inr (11, [.ref v, .int 0, .int 0, .int (nI n)])), (v, .inl (cB, m, .inl f))]) (ws := []) hK hC hZ hw (SL1 (SO.pass (N0 := [(b, .inr (11, [.ref v, .int 0, .int 0, .int (nI n)])), (v, .inl (cB, m, .inl f))]) (ws := []) hO hw))⟩ rfl rfl hl.1 rfl (lv_room (Nat.le_of_ble_eq_true rfl)) dJ5_inflateIfNeededFor_a7421_11 ⟨show 0 + 0 ≤ 0 by omega, show 0 + 0 ≤ 0 by omega⟩) (fun r3 u1 H locs hp2 hw => ?_)
  have hw : MW D [] [(b, .inr (11, [.ref v, .int 0, .int 0, .int (nI n)])), (v, .inl (cB, m, .inl f))] (va_A [(b, .inr (11, [.ref v, .int 0, .int 0, .int (nI n)])), (v, .inl (cB, m, .inl f))] s.heap.size) s H locs := hw
  rw [hp2]
  refine lv_icmp_eq (tgt := 21) hx hb dJ5_inflateIfNeededFor_a7421_14 (by decide) (fun c9 => ?_) (fun c9 => absurd rfl c9)
  exact hret H locs ls 21 _ _ () hw trivial (show 0 + 0 ≤ 0 by omega) (show 0 + 0 ≤ 0 by omega) dJ5_inflateIfNeededFor_a7421_21

set_option maxHeartbeats 4000000 in
set_option maxRecDepth 100000 in
theorem c_J0_getBytes_840e7 {l : Launch} {D : va_G} {cB : ClassId} (a b0 w i v m : Nat) (f : Nat → Int32)(sz : Nat) (hiw : i + w ≤ m) (hm : m ≤ 100000) (hf : FT f) : JMv l yJ0_getBytes_840e7 (.code yJ0_getBytes_840e7 cJ0_getBytes_840e7 4 (Option.none : Option Jvm.ClassFile.FieldType)) 2 0 0 [.ref a, .ref v, .int (nI i), .int 0] D cB [(v, .inl (cB, m, .inl f))] [(a, b0, w)] sz (fun (u : (Nat → Int32)) => FT u) (fun (u : (Nat → Int32)) => [bV cB v m u]) := by
  refine J_metv (by decide +kernel) (Nat.le_of_ble_eq_true rfl) ?_
  intro p e s mI below meth c Z ls hx hb hml hown hin ht hK hC hZ hSL hw hret hl
  have hl : lv_has ls 4 [(0, .ref a), (1, .ref v), (2, .int (nI i)), (3, .int (0 : Int32))] := hl
  suffices hh : ∀ (H : Heap) (locs : List Loc), MW D [] [(v, .inl (cB, m, .inl f))] (va_A [(v, .inl (cB, m, .inl f))] s.heap.size) s H locs → W p l e (RA 2 0 0) s mI #[.ref a, .ref v, .int (nI i), .int 0] below meth c H locs 0 0 Z (F0 mI 0 ls []) from hh _ _ hw
  intro H locs hw
  have hO : SO a b0 w (va_A [(v, .inl (cB, m, .inl f))] s.heap.size) s s.heap := hSL (a, b0, w) (List.mem_singleton.mpr rfl)
  obtain ⟨f9, hf9, hT9⟩ := hO.2.2.2
  refine lv_aload_n hx hb dJ0_getBytes_840e7_0 rfl (lv_at hl 0 rfl) ?_
  refine J_calli (N0 := [(v, .inl (cB, m, .inl f))]) (ws := []) hw (va_runV (own := "java/lang/String") (As := []) (rest := []) ⟨hx, hb, hml, hown, ht⟩ (c_J0_coder_7d493 a b0 w H.size) (cwV 0 ht (G_V q_1112 q_1113 q_1114 q_68 q_1115) rfl rfl rfl ⟨rfl, jd_10⟩ ⟨Nat.le_of_ble_eq_true rfl, Nat.le_of_ble_eq_true rfl⟩) ⟨JB.blind, SO.recv hO hw.2.2.1, JB.pre (N0 := [(v, .inl (cB, m, .inl f))]) (ws := []) hK hC hZ hw (SL1 (SO.pass (N0 := [(v, .inl (cB, m, .inl f))]) (ws := []) hO hw))⟩ rfl rfl hl.1 rfl (lv_room (Nat.le_of_ble_eq_true rfl)) dJ0_getBytes_840e7_1 ⟨show 0 + 0 ≤ 0 by omega, show 0 + 0 ≤ 0 by omega⟩) (fun r3 u1 H locs hp2 hw => ?_)
  have hw : MW D [] [(v, .inl (cB, m, .inl f))] (va_A [(v, .inl (cB, m, .inl f))] s.heap.size) s H locs := hw
  rw [hp2]
  refine lv_iload_n hx hb dJ0_getBytes_840e7_4 rfl (lv_at hl 3 rfl) ?_
  refine lv_icmp_ne (tgt := 28) hx hb dJ0_getBytes_840e7_5 (by decide) (fun c9 => absurd c9 (by decide)) (fun c9 => ?_)
  refine lv_aload_n hx hb dJ0_getBytes_840e7_8 rfl (lv_at hl 0 rfl) ?_
  refine vk_getf hx hb hO.2.2.1 hw.2.2.1 hown (ht _ q_1147) (fun _ h => h) dJ0_getBytes_840e7_9 ?_
  refine lv_iconst (v := (0 : Int32)) hx hb dJ0_getBytes_840e7_12 (by decide) ?_
  refine lv_aload_n hx hb dJ0_getBytes_840e7_13 rfl (lv_at hl 1 rfl) ?_
  refine lv_iload_n hx hb dJ0_getBytes_840e7_14 rfl (lv_at hl 2 rfl) ?_
  refine lv_iload_n hx hb dJ0_getBytes_840e7_15 rfl (lv_at hl 3 rfl) ?_
  refine lv_ishl hx hb dJ0_getBytes_840e7_16 ?_
  refine lv_topi (fun x4 ex4 => ?_)
  rw [show x4 = (nI i) from ex4.trans (sb_shl0 _)]
  refine lv_aload_n hx hb dJ0_getBytes_840e7_17 rfl (lv_at hl 0 rfl) ?_
  refine vk_getf hx hb hO.2.2.1 hw.2.2.1 hown (ht _ q_1147) (fun _ h => h) dJ0_getBytes_840e7_18 ?_
  refine va_tlen (v := nI w) hx hb hT9 hw.2.2.1 rfl dJ0_getBytes_840e7_21 ?_
  refine vk_copyt hx hb (hml.trans hl.1.symm) hown (ht _ q_1130) (ht _ q_964) (ht _ q_963) (ht _ q_72) hK hw.1 hw.2.1 hw.2.2.1 hT9 0 0 rfl rfl (by decide) (nI_pos (by omega)) (nI_pos (by omega)) (by rw [nI_clamp (by omega)]; show 0 + w ≤ w; omega) (by rw [nI_clamp (by omega), nI_clamp (by omega)]; exact hiw) (fun i _ => hf9 _) (Nat.le_of_ble_eq_true rfl) (Nat.le_of_ble_eq_true rfl) dJ0_getBytes_840e7_22 (fun H locs hP hD hS => ?_)
  have hw : MW D [] [(v, .inl (cB, m, .inl (va_cpy f9 f ((0 : Int32) : Int32).toNatClampNeg ((nI i) : Int32).toNatClampNeg ((nI w) : Int32).toNatClampNeg)))] (va_A [(v, .inl (cB, m, .inl f))] s.heap.size) s H locs := ⟨hP, hD, hS, hw.2.2.2⟩
  refine lv_goto (tgt := 43) hx hb dJ0_getBytes_840e7_25 (by decide) ?_
  exact hret H locs ls 43 _ _ (va_cpy f9 f ((0 : Int32) : Int32).toNatClampNeg ((nI i) : Int32).toNatClampNeg ((nI w) : Int32).toNatClampNeg) hw (FT.cpy hf9 hf) (show 0 + 0 ≤ 0 by omega) (show 0 + 0 ≤ 0 by omega) dJ0_getBytes_840e7_43

set_option maxHeartbeats 4000000 in
set_option maxRecDepth 100000 in
theorem c_J5_putStringAt_47b60 {l : Launch} {D : va_G} {cB : ClassId} (a b0 w i b v m n : Nat) (f : Nat → Int32)(sz : Nat) (hiw : i + w ≤ m) (hm : m ≤ 100000) (hf : FT f) : JMv l yJ5_putStringAt_47b60 (.code yJ5_putStringAt_47b60 cJ5_putStringAt_47b60 3 (Option.none : Option Jvm.ClassFile.FieldType)) 3 0 0 [.ref b, .int (nI i), .ref a] D cB [(b, .inr (11, [.ref v, .int 0, .int 0, .int (nI n)])), (v, .inl (cB, m, .inl f))] [(a, b0, w)] sz (fun (u : (Nat → Int32)) => FT u) (fun (u : (Nat → Int32)) => [bC b v n, bV cB v m u]) := by
  refine J_metv (by decide +kernel) (Nat.le_of_ble_eq_true rfl) ?_
  intro p e s mI below meth c Z ls hx hb hml hown hin ht hK hC hZ hSL hw hret hl
  have hl : lv_has ls 3 [(0, .ref b), (1, .int (nI i)), (2, .ref a)] := hl
  suffices hh : ∀ (H : Heap) (locs : List Loc), MW D [] [(b, .inr (11, [.ref v, .int 0, .int 0, .int (nI n)])), (v, .inl (cB, m, .inl f))] (va_A [(b, .inr (11, [.ref v, .int 0, .int 0, .int (nI n)])), (v, .inl (cB, m, .inl f))] s.heap.size) s H locs → W p l e (RA 3 0 0) s mI #[.ref b, .int (nI i), .ref a] below meth c H locs 0 0 Z (F0 mI 0 ls []) from hh _ _ hw
  intro H locs hw
  have hO : SO a b0 w (va_A [(b, .inr (11, [.ref v, .int 0, .int 0, .int (nI n)])), (v, .inl (cB, m, .inl f))] s.heap.size) s s.heap := hSL (a, b0, w) (List.mem_singleton.mpr rfl)
  refine lv_aload_n hx hb dJ5_putStringAt_47b60_0 rfl (lv_at hl 0 rfl) ?_
  refine lv_aload_n hx hb dJ5_putStringAt_47b60_1 rfl (lv_at hl 2 rfl) ?_
  refine J_callv (N0 := []) (ws := [(b, .inr (11, [.ref v, .int 0, .int 0, .int (nI n)])), (v, .inl (cB, m, .inl f))]) hw (va_runU (own := "java/lang/AbstractStringBuilder") (As := [.ref a]) (rest := []) ⟨hx, hb, hml, hown, ht⟩ (c_J5_inflateIfNeededFor_a7421 a b0 w b v m n f H.size) (cwUP (C0 := "java/lang/StringBuilder") 1 ht q_1121 q_1615 q_1123 q_66 q_1124 (va_any rfl (hC.2 _ (List.mem_of_getElem? (i := 3) rfl))) rfl rfl jd_11 ⟨Nat.le_of_ble_eq_true rfl, Nat.le_of_ble_eq_true rfl⟩) ⟨JB.blind, J_recv hK hw (j := 0) rfl cl_11, JB.pre (N0 := []) (ws := [(b, .inr (11, [.ref v, .int 0, .int 0, .int (nI n)])), (v, .inl (cB, m, .inl f))]) hK hC hZ hw (SL1 (SO.pass (N0 := []) (ws := [(b, .inr (11, [.ref v, .int 0, .int 0, .int (nI n)])), (v, .inl (cB, m, .inl f))]) hO hw))⟩ rfl rfl hl.1 rfl (lv_room (Nat.le_of_ble_eq_true rfl)) dJ5_putStringAt_47b60_2 ⟨show 0 + 0 ≤ 0 by omega, show 0 + 0 ≤ 0 by omega⟩) (fun u1 H locs hp2 hw => ?_)
  have hw : MW D [] [(b, .inr (11, [.ref v, .int 0, .int 0, .int (nI n)])), (v, .inl (cB, m, .inl f))] (va_A [(b, .inr (11, [.ref v, .int 0, .int 0, .int (nI n)])), (v, .inl (cB, m, .inl f))] s.heap.size) s H locs := hw
  refine lv_aload_n hx hb dJ5_putStringAt_47b60_5 rfl (lv_at hl 2 rfl) ?_
  refine lv_aload_n hx hb dJ5_putStringAt_47b60_6 rfl (lv_at hl 0 rfl) ?_
  refine va_get hx hb ht in_11 hown hK hw.1 0 rfl cl_11 0 (by decide) (ht _ q_910) (fun _ h => h) rfl dJ5_putStringAt_47b60_7 ?_
  refine lv_iload_n hx hb dJ5_putStringAt_47b60_10 rfl (lv_at hl 1 rfl) ?_
  refine lv_aload_n hx hb dJ5_putStringAt_47b60_11 rfl (lv_at hl 0 rfl) ?_
  refine va_get hx hb ht in_11 hown hK hw.1 0 rfl cl_11 1 (by decide) (ht _ q_911) (fun _ h => h) rfl dJ5_putStringAt_47b60_12 ?_
  refine J_callv (N0 := [(b, .inr (11, [.ref v, .int 0, .int 0, .int (nI n)]))]) (ws := [(v, .inl (cB, m, .inl f))]) hw (va_runV (own := "java/lang/AbstractStringBuilder") (As := [.ref v, .int (nI i), .int 0]) (rest := []) ⟨hx, hb, hml, hown, ht⟩ (c_J0_getBytes_840e7 a b0 w i v m f H.size hiw hm hf) (cwV 3 ht (G_V q_1126 q_1127 q_1128 q_68 q_1129) rfl rfl rfl ⟨rfl, jd_12⟩ ⟨Nat.le_of_ble_eq_true rfl, Nat.le_of_ble_eq_true rfl⟩) ⟨JB.blind, SO.recv hO hw.2.2.1, JB.pre (N0 := [(b, .inr (11, [.ref v, .int 0, .int 0, .int (nI n)]))]) (ws := [(v, .inl (cB, m, .inl f))]) hK hC hZ hw (SL1 (SO.pass (N0 := [(b, .inr (11, [.ref v, .int 0, .int 0, .int (nI n)]))]) (ws := [(v, .inl (cB, m, .inl f))]) hO hw))⟩ rfl rfl hl.1 rfl (lv_room (Nat.le_of_ble_eq_true rfl)) dJ5_putStringAt_47b60_15 ⟨show 0 + 0 + 0 ≤ 0 by omega, show 0 + 0 + 0 ≤ 0 by omega⟩) (fun u4 H locs hp5 hw => ?_)
  have hw : MW D [] [(b, .inr (11, [.ref v, .int 0, .int 0, .int (nI n)])), (v, .inl (cB, m, .inl u4))] (va_A [(b, .inr (11, [.ref v, .int 0, .int 0, .int (nI n)])), (v, .inl (cB, m, .inl f))] s.heap.size) s H locs := hw
  exact hret H locs ls 18 _ _ u4 hw hp5 (show 0 + 0 + 0 ≤ 0 by omega) (show 0 + 0 + 0 ≤ 0 by omega) dJ5_putStringAt_47b60_18

set_option maxHeartbeats 4000000 in
set_option maxRecDepth 100000 in
theorem c_J5_append_cf1ce {l : Launch} {D : va_G} {cB : ClassId} (a b0 w b v m n : Nat) (f : Nat → Int32)(sz : Nat) (hnm : n ≤ m) (hm : m ≤ 20000) (hn : n < 9000) (hw9 : w < 9000) (hf : FT f) : JMr l yJ5_append_cf1ce (.code yJ5_append_cf1ce cJ5_append_cf1ce 3 (Option.some (Jvm.ClassFile.FieldType.object "java/lang/AbstractStringBuilder"))) 4 (gr (n + w) m) (gs (n + w) m) [.ref b, .ref a] D cB [(b, .inr (11, [.ref v, .int 0, .int 0, .int (nI n)])), (v, .inl (cB, m, .inl f))] [(a, b0, w)] sz (fun (u : Nat × (Nat → Int32)) => FT u.2) (fun (u : Nat × (Nat → Int32)) => b) (fun (u : Nat × (Nat → Int32)) => [bC b u.1 (n + w), bV cB u.1 (cap (n + w) m) u.2]) := by
  refine J_metr (by decide +kernel) (Nat.le_of_ble_eq_true rfl) (Or.inl ⟨_, rfl⟩) ?_
  intro p e s mI below meth c Z ls hx hb hml hown hin ht hK hC hZ hSL hw hret hl
  have hl : lv_has ls 3 [(0, .ref b), (1, .ref a)] := hl
  suffices hh : ∀ (H : Heap) (locs : List Loc), MW D [] [(b, .inr (11, [.ref v, .int 0, .int 0, .int (nI n)])), (v, .inl (cB, m, .inl f))] (va_A [(b, .inr (11, [.ref v, .int 0, .int 0, .int (nI n)])), (v, .inl (cB, m, .inl f))] s.heap.size) s H locs → W p l e (RA 4 (gr (n + w) m) (gs (n + w) m)) s mI #[.ref b, .ref a] below meth c H locs 0 0 Z (F0 mI 0 ls []) from hh _ _ hw
  intro H locs hw
  have hO : SO a b0 w (va_A [(b, .inr (11, [.ref v, .int 0, .int 0, .int (nI n)])), (v, .inl (cB, m, .inl f))] s.heap.size) s s.heap := hSL (a, b0, w) (List.mem_singleton.mpr rfl)
  refine lv_aload_n hx hb dJ5_append_cf1ce_0 rfl (lv_at hl 1 rfl) ?_
  refine lv_ifnonnull (tgt := 9) hx hb dJ5_append_cf1ce_1 (by decide) ?_
  refine lv_aload_n hx hb dJ5_append_cf1ce_9 rfl (lv_at hl 1 rfl) ?_
  refine J_calli (N0 := [(b, .inr (11, [.ref v, .int 0, .int 0, .int (nI n)])), (v, .inl (cB, m, .inl f))]) (ws := []) hw (va_runV (own := "java/lang/AbstractStringBuilder") (As := []) (rest := []) ⟨hx, hb, hml, hown, ht⟩ (c_J0_length_8abf5 a b0 w H.size) (cwV 0 ht (G_V q_1108 q_1109 q_1110 q_68 q_1111) rfl rfl rfl ⟨rfl, jd_13⟩ ⟨Nat.le_of_ble_eq_true rfl, Nat.le_of_ble_eq_true rfl⟩) ⟨JB.blind, SO.recv hO hw.2.2.1, JB.pre (N0 := [(b, .inr (11, [.ref v, .int 0, .int 0, .int (nI n)])), (v, .inl (cB, m, .inl f))]) (ws := []) hK hC hZ hw (SL1 (SO.pass (N0 := [(b, .inr (11, [.ref v, .int 0, .int 0, .int (nI n)])), (v, .inl (cB, m, .inl f))]) (ws := []) hO hw))⟩ rfl rfl hl.1 rfl (lv_room (Nat.le_of_ble_eq_true rfl)) dJ5_append_cf1ce_10 ⟨show 0 + 0 ≤ gr (n + w) m by omega, show 0 + 0 ≤ gs (n + w) m by omega⟩) (fun r3 u1 H locs hp2 hw => ?_)
  have hw : MW D [] [(b, .inr (11, [.ref v, .int 0, .int 0, .int (nI n)])), (v, .inl (cB, m, .inl f))] (va_A [(b, .inr (11, [.ref v, .int 0, .int 0, .int (nI n)])), (v, .inl (cB, m, .inl f))] s.heap.size) s H locs := hw
  rw [hp2]
  refine lv_istore_n (lv' := [(2, .int (nI w)), (0, .ref b), (1, .ref a)]) hx hb dJ5_append_cf1ce_13 rfl hl (by decide) rfl (fun ls hl => ?_)
  refine lv_aload_n hx hb dJ5_append_cf1ce_14 rfl (lv_at hl 1 rfl) ?_
  refine lv_aload_n hx hb dJ5_append_cf1ce_15 rfl (lv_at hl 1 rfl) ?_
  refine va_get hx hb ht in_11 hown hK hw.1 0 rfl cl_11 3 (by decide) (ht _ q_913) (fun _ h => h) rfl dJ5_append_cf1ce_16 ?_
  refine lv_iload_n hx hb dJ5_append_cf1ce_19 rfl (lv_at hl 0 rfl) ?_
  refine lv_iadd hx hb dJ5_append_cf1ce_20 ?_
  refine lv_topi (fun x4 ex4 => ?_)
  rw [show x4 = (nI (n + w)) from ex4.trans (nI_add n w)]
  refine J_callv (N0 := []) (ws := [(b, .inr (11, [.ref v, .int 0, .int 0, .int (nI n)])), (v, .inl (cB, m, .inl f))]) hw (va_runU (own := "java/lang/AbstractStringBuilder") (As := [.int (nI (n + w))]) (rest := []) ⟨hx, hb, hml, hown, ht⟩ (c_J5_ensureCapacityInternal_d00df b v m n (n + w) f H.size hm (by omega) hf) (cwUP (C0 := "java/lang/StringBuilder") 1 ht q_930 q_1608 q_932 q_66 q_933 (va_any rfl (hC.2 _ (List.mem_of_getElem? (i := 0) rfl))) rfl rfl jd_3 ⟨Nat.le_of_ble_eq_true rfl, Nat.le_of_ble_eq_true rfl⟩) ⟨JB.blind, J_recv hK hw (j := 0) rfl cl_11, JB.pre (N0 := []) (ws := [(b, .inr (11, [.ref v, .int 0, .int 0, .int (nI n)])), (v, .inl (cB, m, .inl f))]) hK hC hZ hw SL0⟩ rfl rfl hl.1 rfl (lv_room (Nat.le_of_ble_eq_true rfl)) dJ5_append_cf1ce_21 ⟨show 0 + 0 + (gr (n + w) m) ≤ gr (n + w) m by omega, show 0 + 0 + (gs (n + w) m) ≤ gs (n + w) m by omega⟩) (fun u5 H locs hp6 hw => ?_)
  obtain ⟨v1, f1⟩ := u5
  have hw : MW D [] [(b, .inr (11, [.ref v1, .int 0, .int 0, .int (nI n)])), (v1, .inl (cB, (cap (n + w) m), .inl f1))] (va_A [(b, .inr (11, [.ref v, .int 0, .int 0, .int (nI n)])), (v, .inl (cB, m, .inl f))] s.heap.size) s H locs := hw
  refine lv_aload_n hx hb dJ5_append_cf1ce_24 rfl (lv_at hl 1 rfl) ?_
  refine lv_aload_n hx hb dJ5_append_cf1ce_25 rfl (lv_at hl 1 rfl) ?_
  refine va_get hx hb ht in_11 hown hK hw.1 0 rfl cl_11 3 (by decide) (ht _ q_913) (fun _ h => h) rfl dJ5_append_cf1ce_26 ?_
  refine lv_aload_n hx hb dJ5_append_cf1ce_29 rfl (lv_at hl 2 rfl) ?_
  refine J_callv (N0 := []) (ws := [(b, .inr (11, [.ref v1, .int 0, .int 0, .int (nI n)])), (v1, .inl (cB, (cap (n + w) m), .inl f1))]) hw (va_runU (own := "java/lang/AbstractStringBuilder") (As := [.int (nI n), .ref a]) (rest := []) ⟨hx, hb, hml, hown, ht⟩ (c_J5_putStringAt_47b60 a b0 w n b v1 (cap (n + w) m) n f1 H.size (cap_ge _ _).1 (by have := cap_b hm (show (n + w) ≤ 20000 by omega); omega) hp6) (cwUP (C0 := "java/lang/StringBuilder") 2 ht q_1117 q_1614 q_1119 q_66 q_1120 (va_any rfl (hC.2 _ (List.mem_of_getElem? (i := 2) rfl))) rfl rfl jd_14 ⟨Nat.le_of_ble_eq_true rfl, Nat.le_of_ble_eq_true rfl⟩) ⟨JB.blind, J_recv hK hw (j := 0) rfl cl_11, JB.pre (N0 := []) (ws := [(b, .inr (11, [.ref v1, .int 0, .int 0, .int (nI n)])), (v1, .inl (cB, (cap (n + w) m), .inl f1))]) hK hC hZ hw (SL1 (SO.pass (N0 := []) (ws := [(b, .inr (11, [.ref v1, .int 0, .int 0, .int (nI n)])), (v1, .inl (cB, (cap (n + w) m), .inl f1))]) hO hw))⟩ rfl rfl hl.1 rfl (lv_room (Nat.le_of_ble_eq_true rfl)) dJ5_append_cf1ce_30 ⟨show 0 + 0 + (gr (n + w) m) + 0 ≤ gr (n + w) m by omega, show 0 + 0 + (gs (n + w) m) + 0 ≤ gs (n + w) m by omega⟩) (fun u8 H locs hp9 hw => ?_)
  have hw : MW D [] [(b, .inr (11, [.ref v1, .int 0, .int 0, .int (nI n)])), (v1, .inl (cB, (cap (n + w) m), .inl u8))] (va_A [(b, .inr (11, [.ref v, .int 0, .int 0, .int (nI n)])), (v, .inl (cB, m, .inl f))] s.heap.size) s H locs := hw
  refine lv_aload_n hx hb dJ5_append_cf1ce_33 rfl (lv_at hl 1 rfl) ?_
  refine lv_dup hx hb dJ5_append_cf1ce_34 rfl ?_
  refine va_get hx hb ht in_11 hown hK hw.1 0 rfl cl_11 3 (by decide) (ht _ q_913) (fun _ h => h) rfl dJ5_append_cf1ce_35 ?_
  refine lv_iload_n hx hb dJ5_append_cf1ce_38 rfl (lv_at hl 0 rfl) ?_
  refine lv_iadd hx hb dJ5_append_cf1ce_39 ?_
  refine lv_topi (fun x11 ex11 => ?_)
  rw [show x11 = (nI (n + w)) from ex11.trans (nI_add n w)]
  refine va_put (ty := .int) hx hb ht in_11 tyJ4 tyJ4_ok nmJ4 hown hK hw.1 hw.2.1 hw.2.2.1 0 rfl cl_11 3 (by decide) (ht _ q_913) (fun _ h => h) rfl (by decide +kernel) rfl rfl (Nat.le_of_ble_eq_true rfl) dJ5_append_cf1ce_40 (fun H locs hP hD hS => ?_)
  have hw : MW D [] [(b, .inr (11, [.ref v1, .int 0, .int 0, .int (nI (n + w))])), (v1, .inl (cB, (cap (n + w) m), .inl u8))] (va_A [(b, .inr (11, [.ref v, .int 0, .int 0, .int (nI n)])), (v, .inl (cB, m, .inl f))] s.heap.size) s H locs := ⟨hP, hD, hS, hw.2.2.2⟩
  refine lv_aload_n hx hb dJ5_append_cf1ce_43 rfl (lv_at hl 1 rfl) ?_
  exact hret H locs ls 44 _ _ (v1, u8) b hw hp9 rfl (show 0 + 0 + (gr (n + w) m) + 0 ≤ gr (n + w) m by omega) (show 0 + 0 + (gs (n + w) m) + 0 ≤ gs (n + w) m by omega) dJ5_append_cf1ce_44

set_option maxHeartbeats 4000000 in
set_option maxRecDepth 100000 in
theorem c_J4_append_15ec4 {l : Launch} {D : va_G} {cB : ClassId} (a b0 w b v m n : Nat) (f : Nat → Int32)(sz : Nat) (hnm : n ≤ m) (hm : m ≤ 20000) (hn : n < 9000) (hw9 : w < 9000) (hf : FT f) : JMr l yJ4_append_15ec4 (.code yJ4_append_15ec4 cJ4_append_15ec4 2 (Option.some (Jvm.ClassFile.FieldType.object "java/lang/StringBuilder"))) 5 (gr (n + w) m) (gs (n + w) m) [.ref b, .ref a] D cB [(b, .inr (11, [.ref v, .int 0, .int 0, .int (nI n)])), (v, .inl (cB, m, .inl f))] [(a, b0, w)] sz (fun (u : Nat × (Nat → Int32)) => FT u.2) (fun (u : Nat × (Nat → Int32)) => b) (fun (u : Nat × (Nat → Int32)) => [bC b u.1 (n + w), bV cB u.1 (cap (n + w) m) u.2]) := by
  refine J_metr (by decide +kernel) (Nat.le_of_ble_eq_true rfl) (Or.inl ⟨_, rfl⟩) ?_
  intro p e s mI below meth c Z ls hx hb hml hown hin ht hK hC hZ hSL hw hret hl
  have hl : lv_has ls 2 [(0, .ref b), (1, .ref a)] := hl
  suffices hh : ∀ (H : Heap) (locs : List Loc), MW D [] [(b, .inr (11, [.ref v, .int 0, .int 0, .int (nI n)])), (v, .inl (cB, m, .inl f))] (va_A [(b, .inr (11, [.ref v, .int 0, .int 0, .int (nI n)])), (v, .inl (cB, m, .inl f))] s.heap.size) s H locs → W p l e (RA 5 (gr (n + w) m) (gs (n + w) m)) s mI #[.ref b, .ref a] below meth c H locs 0 0 Z (F0 mI 0 ls []) from hh _ _ hw
  intro H locs hw
  have hO : SO a b0 w (va_A [(b, .inr (11, [.ref v, .int 0, .int 0, .int (nI n)])), (v, .inl (cB, m, .inl f))] s.heap.size) s s.heap := hSL (a, b0, w) (List.mem_singleton.mpr rfl)
  refine lv_aload_n hx hb dJ4_append_15ec4_0 rfl (lv_at hl 0 rfl) ?_
  refine lv_aload_n hx hb dJ4_append_15ec4_1 rfl (lv_at hl 1 rfl) ?_
  obtain ⟨cS, hat⟩ := classAt_of (ht _ q_893)
  refine J_callr (N0 := []) (ws := [(b, .inr (11, [.ref v, .int 0, .int 0, .int (nI n)])), (v, .inl (cB, m, .inl f))]) hw (va_runSU hat (own := "java/lang/StringBuilder") (As := [.ref a]) (rest := []) ⟨hx, hb, hml, hown, ht⟩ (c_J5_append_cf1ce a b0 w b v m n f H.size hnm hm hn hw9 hf) (va_cwSU 1 ht (G_SU q_1098 q_1612 q_922 q_1099 q_66 q_1100) rfl rfl rfl ⟨by decide, by decide +kernel⟩ ⟨Nat.le_of_ble_eq_true rfl, Nat.le_of_ble_eq_true rfl⟩) ⟨JB.blind, J_recv hK hw (j := 0) rfl cl_11, JB.pre (N0 := []) (ws := [(b, .inr (11, [.ref v, .int 0, .int 0, .int (nI n)])), (v, .inl (cB, m, .inl f))]) hK hC hZ hw (SL1 (SO.pass (N0 := []) (ws := [(b, .inr (11, [.ref v, .int 0, .int 0, .int (nI n)])), (v, .inl (cB, m, .inl f))]) hO hw))⟩ rfl rfl hl.1 rfl (lv_room (Nat.le_of_ble_eq_true rfl)) dJ4_append_15ec4_2 ⟨show 0 + (gr (n + w) m) ≤ gr (n + w) m by omega, show 0 + (gs (n + w) m) ≤ gs (n + w) m by omega⟩) (fun u1 H locs hp2 hw => ?_)
  obtain ⟨v1, f1⟩ := u1
  have hw : MW D [] [(b, .inr (11, [.ref v1, .int 0, .int 0, .int (nI (n + w))])), (v1, .inl (cB, (cap (n + w) m), .inl f1))] (va_A [(b, .inr (11, [.ref v, .int 0, .int 0, .int (nI n)])), (v, .inl (cB, m, .inl f))] s.heap.size) s H locs := hw
  refine lv_pop hx hb dJ4_append_15ec4_5 rfl ?_
  refine lv_aload_n hx hb dJ4_append_15ec4_6 rfl (lv_at hl 0 rfl) ?_
  exact hret H locs ls 7 _ _ (v1, f1) b hw hp2 rfl (show 0 + (gr (n + w) m) ≤ gr (n + w) m by omega) (show 0 + (gs (n + w) m) ≤ gs (n + w) m by omega) dJ4_append_15ec4_7

theorem rv_j {n : Nat} {j : Int32} (h1 : 1 ≤ n) (h2 : n ≤ 100000) (e : j = (nI (n - 1) - (1 : Int32)) >>> ((1 : Int32) &&& 31)) : -1 ≤ j.toInt ∧ 2 * j.toInt + 2 ≤ n := by
  have e1 : (nI (n - 1) - (1 : Int32)).toInt = ((n - 1 : Nat) : Int) - 1 := ii_s (nI_toInt (by omega)) rfl (by omega) (by omega)
  have e2 : j.toInt = (((n - 1 : Nat) : Int) - 1) / 2 := by
    rw [e, show (1 : Int32) &&& 31 = 1 from rfl, pk_shr _ _ 1 (by decide), e1, Int.shiftRight_eq_div_pow]
    rfl
  omega

set_option maxHeartbeats 4000000 in
set_option maxRecDepth 100000 in
theorem c_J5_reverse_278bc {l : Launch} {D : va_G} {cB : ClassId} (b v m n : Nat) (f : Nat → Int32)(sz : Nat) (hn1 : 1 ≤ n) (hnm : n ≤ m) (hm : m ≤ 100000) (hf : FT f) : JMr l yJ5_reverse_278bc (.code yJ5_reverse_278bc cJ5_reverse_278bc 7 (Option.some (Jvm.ClassFile.FieldType.object "java/lang/AbstractStringBuilder"))) 1 0 0 [.ref b] D cB [(b, .inr (11, [.ref v, .int 0, .int 0, .int (nI n)])), (v, .inl (cB, m, .inl f))] [] sz (fun (u : (Nat → Int32)) => FT u) (fun (u : (Nat → Int32)) => b) (fun (u : (Nat → Int32)) => [bC b v n, bV cB v m u]) := by
  refine J_metr (by decide +kernel) (Nat.le_of_ble_eq_true rfl) (Or.inl ⟨_, rfl⟩) ?_
  intro p e s mI below meth c Z ls hx hb hml hown hin ht hK hC hZ hSL hw hret hl
  have hl : lv_has ls 7 [(0, .ref b)] := hl
  suffices hh : ∀ (H : Heap) (locs : List Loc), MW D [] [(b, .inr (11, [.ref v, .int 0, .int 0, .int (nI n)])), (v, .inl (cB, m, .inl f))] (va_A [(b, .inr (11, [.ref v, .int 0, .int 0, .int (nI n)])), (v, .inl (cB, m, .inl f))] s.heap.size) s H locs → W p l e (RA 1 0 0) s mI #[.ref b] below meth c H locs 0 0 Z (F0 mI 0 ls []) from hh _ _ hw
  intro H locs hw
  refine lv_aload_n hx hb dJ5_reverse_278bc_0 rfl (lv_at hl 0 rfl) ?_
  refine va_get hx hb ht in_11 hown hK hw.1 0 rfl cl_11 0 (by decide) (ht _ q_910) (fun _ h => h) rfl dJ5_reverse_278bc_1 ?_
  refine lv_astore_n (lv' := [(1, .ref v), (0, .ref b)]) hx hb dJ5_reverse_278bc_4 rfl hl (by decide) rfl (fun ls hl => ?_)
  refine lv_aload_n hx hb dJ5_reverse_278bc_5 rfl (lv_at hl 1 rfl) ?_
  refine va_get hx hb ht in_11 hown hK hw.1 0 rfl cl_11 3 (by decide) (ht _ q_913) (fun _ h => h) rfl dJ5_reverse_278bc_6 ?_
  refine lv_istore_n (lv' := [(2, .int (nI n)), (1, .ref v), (0, .ref b)]) hx hb dJ5_reverse_278bc_9 rfl hl (by decide) rfl (fun ls hl => ?_)
  refine lv_iload_n hx hb dJ5_reverse_278bc_10 rfl (lv_at hl 0 rfl) ?_
  refine lv_iconst (v := (1 : Int32)) hx hb dJ5_reverse_278bc_11 (by decide) ?_
  refine lv_isub hx hb dJ5_reverse_278bc_12 ?_
  refine lv_topi (fun x1 ex1 => ?_)
  rw [show x1 = (nI (n - 1)) from ex1.trans (pk_sub (b := 1) (by omega))]
  refine lv_istore_n (lv' := [(3, .int (nI (n - 1))), (2, .int (nI n)), (1, .ref v), (0, .ref b)]) hx hb dJ5_reverse_278bc_13 rfl hl (by decide) rfl (fun ls hl => ?_)
  refine lv_aload_n hx hb dJ5_reverse_278bc_14 rfl (lv_at hl 3 rfl) ?_
  refine J_calli (N0 := []) (ws := [(b, .inr (11, [.ref v, .int 0, .int 0, .int (nI n)])), (v, .inl (cB, m, .inl f))]) hw (va_runU (own := "java/lang/AbstractStringBuilder") (As := []) (rest := []) ⟨hx, hb, hml, hown, ht⟩ (c_J5_isLatin1_aae02 b v m n f H.size) (va_cwU (C := "java/lang/StringBuilder") (owner := "java/lang/AbstractStringBuilder") 0 ht (G_U q_965 q_967 q_968 q_966 q_66 q_969) rfl rfl rfl rfl jd_4 ⟨Nat.le_of_ble_eq_true rfl, Nat.le_of_ble_eq_true rfl⟩) ⟨JB.blind, J_recv hK hw (j := 0) rfl cl_11, JB.pre (N0 := []) (ws := [(b, .inr (11, [.ref v, .int 0, .int 0, .int (nI n)])), (v, .inl (cB, m, .inl f))]) hK hC hZ hw SL0⟩ rfl rfl hl.1 rfl (lv_room (Nat.le_of_ble_eq_true rfl)) dJ5_reverse_278bc_15 ⟨show 0 + 0 ≤ 0 by omega, show 0 + 0 ≤ 0 by omega⟩) (fun r4 u2 H locs hp3 hw => ?_)
  have hw : MW D [] [(b, .inr (11, [.ref v, .int 0, .int 0, .int (nI n)])), (v, .inl (cB, m, .inl f))] (va_A [(b, .inr (11, [.ref v, .int 0, .int 0, .int (nI n)])), (v, .inl (cB, m, .inl f))] s.heap.size) s H locs := hw
  rw [hp3]
  refine lv_if_eq (tgt := 68) hx hb dJ5_reverse_278bc_18 (by decide) (fun c9 => absurd c9 (by decide)) (fun c9 => ?_)
  refine lv_iload_n hx hb dJ5_reverse_278bc_21 rfl (lv_at hl 0 rfl) ?_
  refine lv_iconst (v := (1 : Int32)) hx hb dJ5_reverse_278bc_22 (by decide) ?_
  refine lv_isub hx hb dJ5_reverse_278bc_23 ?_
  refine lv_iconst (v := (1 : Int32)) hx hb dJ5_reverse_278bc_24 (by decide) ?_
  refine lv_ishr hx hb dJ5_reverse_278bc_25 ?_
  refine lv_topi (fun jj ej => ?_)
  obtain ⟨hj1, hj2⟩ := rv_j hn1 (by omega) ej
  refine lv_istore (lv' := [(4, .int jj), (3, .int (nI (n - 1))), (2, .int (nI n)), (1, .ref v), (0, .ref b)]) hx hb dJ5_reverse_278bc_26 hl (by decide) rfl (fun ls hl => ?_)
  have L28 : ∀ (k : Nat) (j : Int32) (g : Nat → Int32) (H : Heap) (locs : List Loc) (ls : Array Slot), (j.toInt + 1).toNat < k → -1 ≤ j.toInt → 2 * j.toInt + 2 ≤ n → FT g → MW D [] [(b, .inr (11, [.ref v, .int 0, .int 0, .int (nI n)])), (v, .inl (cB, m, .inl g))] (va_A [(b, .inr (11, [.ref v, .int 0, .int 0, .int (nI n)])), (v, .inl (cB, m, .inl f))] s.heap.size) s H locs → lv_has ls 7 [(4, .int j), (3, .int (nI (n - 1))), (1, .ref v), (0, .ref b)] → W p l e (RA 1 0 0) s mI #[.ref b] below meth c H locs (0 + 0) (0 + 0) Z (F0 mI 28 ls []) := by
    intro k
    induction k with
    | zero => intro j g H locs ls hk; exact absurd hk (Nat.not_lt_zero _)
    | succ k ih =>
      intro j g H locs ls hk h1 h2 hg hw hl
      refine lv_iload hx hb dJ5_reverse_278bc_28 (lv_at hl 0 rfl) ?_
      refine lv_if_lt (tgt := 65) hx hb dJ5_reverse_278bc_30 (by decide) (fun c9 => ?_) (fun c9 => ?_)
      · refine lv_goto (tgt := 73) hx hb dJ5_reverse_278bc_65 (by decide) ?_
        refine lv_aload_n hx hb dJ5_reverse_278bc_73 rfl (lv_at hl 3 rfl) ?_
        exact hret H locs ls 74 _ _ g b hw hg rfl (show 0 + 0 ≤ 0 by omega) (show 0 + 0 ≤ 0 by omega) dJ5_reverse_278bc_74
      · have hj0 : 0 ≤ j.toInt := by rw [Int32.lt_iff_toInt_lt, Int32.toInt_zero] at c9; omega
        refine lv_iload_n hx hb dJ5_reverse_278bc_33 rfl (lv_at hl 1 rfl) ?_
        refine lv_iload hx hb dJ5_reverse_278bc_34 (lv_at hl 0 rfl) ?_
        refine lv_isub hx hb dJ5_reverse_278bc_36 ?_
        refine lv_topi (fun kk ek => ?_)
        have hkk : kk.toInt = ((n - 1 : Nat) : Int) - j.toInt := by rw [ek]; exact ii_s (nI_toInt (by omega)) rfl (by omega) (by omega)
        refine lv_istore (lv' := [(5, .int kk), (4, .int j), (3, .int (nI (n - 1))), (1, .ref v), (0, .ref b)]) hx hb dJ5_reverse_278bc_37 hl (by decide) rfl (fun ls hl => ?_)
        refine lv_aload_n hx hb dJ5_reverse_278bc_39 rfl (lv_at hl 3 rfl) ?_
        refine lv_iload hx hb dJ5_reverse_278bc_40 (lv_at hl 1 rfl) ?_
        refine va_bald hx hb hK hw.1 1 0 rfl rfl (vin (by omega)) dJ5_reverse_278bc_42 ?_
        refine lv_istore (lv' := [(6, .int (g (j : Int32).toNatClampNeg)), (5, .int kk), (4, .int j), (3, .int (nI (n - 1))), (1, .ref v), (0, .ref b)]) hx hb dJ5_reverse_278bc_43 hl (by decide) rfl (fun ls hl => ?_)
        refine lv_aload_n hx hb dJ5_reverse_278bc_45 rfl (lv_at hl 4 rfl) ?_
        refine lv_iload hx hb dJ5_reverse_278bc_46 (lv_at hl 2 rfl) ?_
        refine lv_aload_n hx hb dJ5_reverse_278bc_48 rfl (lv_at hl 4 rfl) ?_
        refine lv_iload hx hb dJ5_reverse_278bc_49 (lv_at hl 1 rfl) ?_
        refine va_bald hx hb hK hw.1 1 0 rfl rfl (vin (by omega)) dJ5_reverse_278bc_51 ?_
        refine va_bast hx hb hK hw.1 hw.2.1 hw.2.2.1 1 0 rfl rfl (vin (by omega)) dJ5_reverse_278bc_52 (fun H locs hP hD hS => ?_)
        have hw : MW D [] [(b, .inr (11, [.ref v, .int 0, .int 0, .int (nI n)])), (v, .inl (cB, m, .inl (upd g (j : Int32).toNatClampNeg (vp_nar .byte (g (kk : Int32).toNatClampNeg)))))] (va_A [(b, .inr (11, [.ref v, .int 0, .int 0, .int (nI n)])), (v, .inl (cB, m, .inl f))] s.heap.size) s H locs := ⟨hP, hD, hS, hw.2.2.2⟩
        refine lv_aload_n hx hb dJ5_reverse_278bc_53 rfl (lv_at hl 4 rfl) ?_
        refine lv_iload hx hb dJ5_reverse_278bc_54 (lv_at hl 1 rfl) ?_
        refine lv_iload hx hb dJ5_reverse_278bc_56 (lv_at hl 0 rfl) ?_
        refine va_bast hx hb hK hw.1 hw.2.1 hw.2.2.1 1 0 rfl rfl (vin (by omega)) dJ5_reverse_278bc_58 (fun H locs hP hD hS => ?_)
        have hw : MW D [] [(b, .inr (11, [.ref v, .int 0, .int 0, .int (nI n)])), (v, .inl (cB, m, .inl (upd (upd g (j : Int32).toNatClampNeg (vp_nar .byte (g (kk : Int32).toNatClampNeg))) (kk : Int32).toNatClampNeg (vp_nar .byte (g (j : Int32).toNatClampNeg)))))] (va_A [(b, .inr (11, [.ref v, .int 0, .int 0, .int (nI n)])), (v, .inl (cB, m, .inl f))] s.heap.size) s H locs := ⟨hP, hD, hS, hw.2.2.2⟩
        obtain ⟨j2, ej2⟩ : ∃ z, j + Int32.ofInt (-1) = z := ⟨_, rfl⟩
        have hdj : j2.toInt = j.toInt - 1 := by
          rw [← ej2, show Int32.ofInt (-1) = -1 from rfl, ← Int32.sub_eq_add_neg]
          exact ii_s rfl rfl (by omega) (by omega)
        refine lv_iinc (v := j2) (lv' := [(4, .int j2), (6, .int (g (j : Int32).toNatClampNeg)), (5, .int kk), (3, .int (nI (n - 1))), (1, .ref v), (0, .ref b)]) hx hb dJ5_reverse_278bc_59 hl (k := 2) rfl ej2 (by decide) rfl (fun ls hl => ?_)
        refine lv_goto (tgt := 28) hx hb dJ5_reverse_278bc_62 (by decide) ?_
        exact ih j2 _ H locs ls (by omega) (by omega) (by omega) (FT.st (FT.st hg vnb) vnb) hw (lv_sub hl [0, 3, 4, 5] rfl)
  exact L28 _ jj f H locs ls (Nat.lt_succ_self _) (by omega) (by omega) hf hw (lv_sub hl [0, 1, 3, 4] rfl)

set_option maxHeartbeats 4000000 in
set_option maxRecDepth 100000 in
theorem c_J4_reverse_43fcb {l : Launch} {D : va_G} {cB : ClassId} (b v m n : Nat) (f : Nat → Int32)(sz : Nat) (hn1 : 1 ≤ n) (hnm : n ≤ m) (hm : m ≤ 100000) (hf : FT f) : JMr l yJ4_reverse_43fcb (.code yJ4_reverse_43fcb cJ4_reverse_43fcb 1 (Option.some (Jvm.ClassFile.FieldType.object "java/lang/StringBuilder"))) 2 0 0 [.ref b] D cB [(b, .inr (11, [.ref v, .int 0, .int 0, .int (nI n)])), (v, .inl (cB, m, .inl f))] [] sz (fun (u : (Nat → Int32)) => FT u) (fun (u : (Nat → Int32)) => b) (fun (u : (Nat → Int32)) => [bC b v n, bV cB v m u]) := by
  refine J_metr (by decide +kernel) (Nat.le_of_ble_eq_true rfl) (Or.inl ⟨_, rfl⟩) ?_
  intro p e s mI below meth c Z ls hx hb hml hown hin ht hK hC hZ hSL hw hret hl
  have hl : lv_has ls 1 [(0, .ref b)] := hl
  suffices hh : ∀ (H : Heap) (locs : List Loc), MW D [] [(b, .inr (11, [.ref v, .int 0, .int 0, .int (nI n)])), (v, .inl (cB, m, .inl f))] (va_A [(b, .inr (11, [.ref v, .int 0, .int 0, .int (nI n)])), (v, .inl (cB, m, .inl f))] s.heap.size) s H locs → W p l e (RA 2 0 0) s mI #[.ref b] below meth c H locs 0 0 Z (F0 mI 0 ls []) from hh _ _ hw
  intro H locs hw
  refine lv_aload_n hx hb dJ4_reverse_43fcb_0 rfl (lv_at hl 0 rfl) ?_
  obtain ⟨cS, hat⟩ := classAt_of (ht _ q_893)
  refine J_callr (N0 := []) (ws := [(b, .inr (11, [.ref v, .int 0, .int 0, .int (nI n)])), (v, .inl (cB, m, .inl f))]) hw (va_runSU hat (own := "java/lang/StringBuilder") (As := []) (rest := []) ⟨hx, hb, hml, hown, ht⟩ (c_J5_reverse_278bc b v m n f H.size hn1 hnm hm hf) (va_cwSU 0 ht (G_SU q_1258 q_1616 q_922 q_1259 q_66 q_1260) rfl rfl rfl ⟨by decide, by decide +kernel⟩ ⟨Nat.le_of_ble_eq_true rfl, Nat.le_of_ble_eq_true rfl⟩) ⟨JB.blind, J_recv hK hw (j := 0) rfl cl_11, JB.pre (N0 := []) (ws := [(b, .inr (11, [.ref v, .int 0, .int 0, .int (nI n)])), (v, .inl (cB, m, .inl f))]) hK hC hZ hw SL0⟩ rfl rfl hl.1 rfl (lv_room (Nat.le_of_ble_eq_true rfl)) dJ4_reverse_43fcb_1 ⟨show 0 + 0 ≤ 0 by omega, show 0 + 0 ≤ 0 by omega⟩) (fun u1 H locs hp2 hw => ?_)
  have hw : MW D [] [(b, .inr (11, [.ref v, .int 0, .int 0, .int (nI n)])), (v, .inl (cB, m, .inl u1))] (va_A [(b, .inr (11, [.ref v, .int 0, .int 0, .int (nI n)])), (v, .inl (cB, m, .inl f))] s.heap.size) s H locs := hw
  refine lv_pop hx hb dJ4_reverse_43fcb_4 rfl ?_
  refine lv_aload_n hx hb dJ4_reverse_43fcb_5 rfl (lv_at hl 0 rfl) ?_
  exact hret H locs ls 6 _ _ u1 b hw hp2 rfl (show 0 + 0 ≤ 0 by omega) (show 0 + 0 ≤ 0 by omega) dJ4_reverse_43fcb_6

set_option maxHeartbeats 4000000 in
set_option maxRecDepth 100000 in
theorem c_J5_getValue_6d5f1 {l : Launch} {D : va_G} {cB : ClassId} (b v m n : Nat) (f : Nat → Int32)(sz : Nat)  : JMr l yJ5_getValue_6d5f1 (.code yJ5_getValue_6d5f1 cJ5_getValue_6d5f1 1 (Option.some (Jvm.ClassFile.FieldType.array Jvm.ClassFile.FieldType.byte))) 0 0 0 [.ref b] D cB [(b, .inr (11, [.ref v, .int 0, .int 0, .int (nI n)])), (v, .inl (cB, m, .inl f))] [] sz (fun (u : Unit) => True) (fun (u : Unit) => v) (fun (u : Unit) => [bC b v n, bV cB v m f]) := by
  refine J_metr (by decide +kernel) (Nat.le_of_ble_eq_true rfl) (Or.inr ⟨_, rfl⟩) ?_
  intro p e s mI below meth c Z ls hx hb hml hown hin ht hK hC hZ hSL hw hret hl
  have hl : lv_has ls 1 [(0, .ref b)] := hl
  suffices hh : ∀ (H : Heap) (locs : List Loc), MW D [] [(b, .inr (11, [.ref v, .int 0, .int 0, .int (nI n)])), (v, .inl (cB, m, .inl f))] (va_A [(b, .inr (11, [.ref v, .int 0, .int 0, .int (nI n)])), (v, .inl (cB, m, .inl f))] s.heap.size) s H locs → W p l e (RA 0 0 0) s mI #[.ref b] below meth c H locs 0 0 Z (F0 mI 0 ls []) from hh _ _ hw
  intro H locs hw
  refine lv_aload_n hx hb dJ5_getValue_6d5f1_0 rfl (lv_at hl 0 rfl) ?_
  refine va_get hx hb ht in_11 hown hK hw.1 0 rfl cl_11 0 (by decide) (ht _ q_910) (fun _ h => h) rfl dJ5_getValue_6d5f1_1 ?_
  exact hret H locs ls 4 _ _ () v hw trivial rfl (show 0 ≤ 0 by omega) (show 0 ≤ 0 by omega) dJ5_getValue_6d5f1_4

set_option maxHeartbeats 4000000 in
set_option maxRecDepth 100000 in
theorem c_J5_length_8abf5 {l : Launch} {D : va_G} {cB : ClassId} (b v m n : Nat) (f : Nat → Int32)(sz : Nat)  : JMi l yJ5_length_8abf5 (.code yJ5_length_8abf5 cJ5_length_8abf5 1 (Option.some Jvm.ClassFile.FieldType.int)) 0 0 0 [.ref b] D cB [(b, .inr (11, [.ref v, .int 0, .int 0, .int (nI n)])), (v, .inl (cB, m, .inl f))] [] sz (fun (r : Int32) (u : Unit) => r = nI n) (fun (u : Unit) => [bC b v n, bV cB v m f]) := by
  refine J_meti (by decide +kernel) (Nat.le_of_ble_eq_true rfl) ?_
  intro p e s mI below meth c Z ls hx hb hml hown hin ht hK hC hZ hSL hw hret hl
  have hl : lv_has ls 1 [(0, .ref b)] := hl
  suffices hh : ∀ (H : Heap) (locs : List Loc), MW D [] [(b, .inr (11, [.ref v, .int 0, .int 0, .int (nI n)])), (v, .inl (cB, m, .inl f))] (va_A [(b, .inr (11, [.ref v, .int 0, .int 0, .int (nI n)])), (v, .inl (cB, m, .inl f))] s.heap.size) s H locs → W p l e (RA 0 0 0) s mI #[.ref b] below meth c H locs 0 0 Z (F0 mI 0 ls []) from hh _ _ hw
  intro H locs hw
  refine lv_aload_n hx hb dJ5_length_8abf5_0 rfl (lv_at hl 0 rfl) ?_
  refine va_get hx hb ht in_11 hown hK hw.1 0 rfl cl_11 3 (by decide) (ht _ q_913) (fun _ h => h) rfl dJ5_length_8abf5_1 ?_
  exact hret H locs ls 4 _ _ (nI n) () hw rfl rfl (show 0 ≤ 0 by omega) (show 0 ≤ 0 by omega) dJ5_length_8abf5_4

set_option maxHeartbeats 4000000 in
set_option maxRecDepth 100000 in
theorem c_J7_checkLength_df160 {l : Launch} {D : va_G} {cB : ClassId} (n : Nat)(sz : Nat) (hn : n ≤ 100000) : JMv l yJ7_checkLength_df160 (.code yJ7_checkLength_df160 cJ7_checkLength_df160 2 (Option.none : Option Jvm.ClassFile.FieldType)) 0 0 0 [.int (0 : Int32), .int (nI n)] D cB [] [] sz (fun (u : Unit) => True) (fun (u : Unit) => []) := by
  refine J_metv (by decide +kernel) (Nat.le_of_ble_eq_true rfl) ?_
  intro p e s mI below meth c Z ls hx hb hml hown hin ht hK hC hZ hSL hw hret hl
  have hl : lv_has ls 2 [(0, .int (0 : Int32)), (1, .int (nI n))] := hl
  suffices hh : ∀ (H : Heap) (locs : List Loc), MW D [] [] (va_A [] s.heap.size) s H locs → W p l e (RA 0 0 0) s mI #[.int (0 : Int32), .int (nI n)] below meth c H locs 0 0 Z (F0 mI 0 ls []) from hh _ _ hw
  intro H locs hw
  refine lv_iload_n hx hb dJ7_checkLength_df160_0 rfl (lv_at hl 1 rfl) ?_
  refine lv_iload_n hx hb dJ7_checkLength_df160_1 rfl (lv_at hl 0 rfl) ?_
  refine lv_icmp_ge (tgt := 37) hx hb dJ7_checkLength_df160_2 (by decide) (fun c9 => ?_) (fun c9 => absurd (nI_pos' (by omega)) c9)
  exact hret H locs ls 37 _ _ () hw trivial (show 0 ≤ 0 by omega) (show 0 ≤ 0 by omega) dJ7_checkLength_df160_37

theorem cr_min {m n : Nat} (h : n ≤ m) (hm : m < 2 ^ 31) : (if nI n < nI m then nI n else nI m) = nI n := by
  rcases Nat.lt_or_ge n m with z | z
  · exact if_pos (nI_lt z hm)
  · rw [show m = n by omega, if_neg (nI_nlt (Nat.le_refl _) (by omega))]

set_option maxHeartbeats 4000000 in
set_option maxRecDepth 100000 in
theorem c_J7_copyOfRangeByte_39247 {l : Launch} {D : va_G} {cB : ClassId} (v m n : Nat) (f : Nat → Int32)(sz : Nat) (hnm : n ≤ m) (hm : m ≤ 100000) (hf : FT f) : JMr l yJ7_copyOfRangeByte_39247 (.code yJ7_copyOfRangeByte_39247 cJ7_copyOfRangeByte_39247 5 (Option.some (Jvm.ClassFile.FieldType.array Jvm.ClassFile.FieldType.byte))) 1 1 n [.ref v, .int (0 : Int32), .int (nI n)] D cB [(v, .inl (cB, m, .inl f))] [] sz (fun (u : Nat × (Nat → Int32)) => FT u.2) (fun (u : Nat × (Nat → Int32)) => u.1) (fun (u : Nat × (Nat → Int32)) => [bV cB v m f, bV cB u.1 n u.2]) := by
  refine J_metr (by decide +kernel) (Nat.le_of_ble_eq_true rfl) (Or.inr ⟨_, rfl⟩) ?_
  intro p e s mI below meth c Z ls hx hb hml hown hin ht hK hC hZ hSL hw hret hl
  have hl : lv_has ls 5 [(0, .ref v), (1, .int (0 : Int32)), (2, .int (nI n))] := hl
  suffices hh : ∀ (H : Heap) (locs : List Loc), MW D [] [(v, .inl (cB, m, .inl f))] (va_A [(v, .inl (cB, m, .inl f))] s.heap.size) s H locs → W p l e (RA 1 1 n) s mI #[.ref v, .int (0 : Int32), .int (nI n)] below meth c H locs 0 0 Z (F0 mI 0 ls []) from hh _ _ hw
  intro H locs hw
  refine lv_iload_n hx hb dJ7_copyOfRangeByte_39247_0 rfl (lv_at hl 1 rfl) ?_
  refine lv_iload_n hx hb dJ7_copyOfRangeByte_39247_1 rfl (lv_at hl 2 rfl) ?_
  refine J_callv (N0 := [(v, .inl (cB, m, .inl f))]) (ws := []) hw (va_runS (own := "java/util/Arrays") (As := [.int (0 : Int32), .int (nI n)]) (rest := []) ⟨hx, hb, hml, hown, ht⟩ (c_J7_checkLength_df160 n H.size (by omega)) (va_cwS 2 ht (G_S q_1086 q_1087 q_71 q_1088) rfl rfl rfl jd_17 ⟨Nat.le_of_ble_eq_true rfl, Nat.le_of_ble_eq_true rfl⟩) ⟨JB.blind, JB.pre (N0 := [(v, .inl (cB, m, .inl f))]) (ws := []) hK hC hZ hw SL0⟩ rfl rfl hl.1 rfl (lv_room (Nat.le_of_ble_eq_true rfl)) dJ7_copyOfRangeByte_39247_2 ⟨show 0 + 0 ≤ 1 by omega, show 0 + 0 ≤ n by omega⟩) (fun u1 H locs hp2 hw => ?_)
  have hw : MW D [] [(v, .inl (cB, m, .inl f))] (va_A [(v, .inl (cB, m, .inl f))] s.heap.size) s H locs := hw
  refine lv_iload_n hx hb dJ7_copyOfRangeByte_39247_5 rfl (lv_at hl 2 rfl) ?_
  refine lv_iload_n hx hb dJ7_copyOfRangeByte_39247_6 rfl (lv_at hl 1 rfl) ?_
  refine lv_isub hx hb dJ7_copyOfRangeByte_39247_7 ?_
  refine lv_topi (fun x4 ex4 => ?_)
  rw [show x4 = (nI n) from ex4.trans (pk_sub (b := 0) (by omega))]
  refine lv_istore_n (lv' := [(3, .int (nI n)), (0, .ref v), (1, .int (0 : Int32)), (2, .int (nI n))]) hx hb dJ7_copyOfRangeByte_39247_8 rfl hl (by decide) rfl (fun ls hl => ?_)
  refine lv_iload_n hx hb dJ7_copyOfRangeByte_39247_9 rfl (lv_at hl 0 rfl) ?_
  refine n_newB (B := n) hx hb ht q_385 hK hw (n := (nI n)) (⟨nI_pos (by omega), nI_clamp (by omega)⟩) (by omega) (show 0 + 0 + 1 ≤ 1 by omega) (show 0 + 0 + n ≤ n by omega) dJ7_copyOfRangeByte_39247_10 (fun q5 H hq5 hw => ?_)
  have hw : MW D [] [(v, .inl (cB, m, .inl f)), (q5, .inl (cB, n, .inl (fun _ => 0)))] (va_A [(v, .inl (cB, m, .inl f))] s.heap.size) s H locs := hw
  refine lv_astore (lv' := [(4, .ref q5), (3, .int (nI n)), (0, .ref v), (1, .int (0 : Int32)), (2, .int (nI n))]) hx hb dJ7_copyOfRangeByte_39247_12 hl (by decide) rfl (fun ls hl => ?_)
  refine lv_aload_n hx hb dJ7_copyOfRangeByte_39247_14 rfl (lv_at hl 2 rfl) ?_
  refine lv_iload_n hx hb dJ7_copyOfRangeByte_39247_15 rfl (lv_at hl 3 rfl) ?_
  refine lv_aload hx hb dJ7_copyOfRangeByte_39247_16 (lv_at hl 0 rfl) ?_
  refine lv_iconst (v := (0 : Int32)) hx hb dJ7_copyOfRangeByte_39247_18 (by decide) ?_
  refine lv_aload_n hx hb dJ7_copyOfRangeByte_39247_19 rfl (lv_at hl 2 rfl) ?_
  refine va_alen hx hb hK hw.1 0 0 (x := (m, .inl f)) rfl rfl rfl dJ7_copyOfRangeByte_39247_20 ?_
  refine lv_iload_n hx hb dJ7_copyOfRangeByte_39247_21 rfl (lv_at hl 3 rfl) ?_
  refine lv_isub hx hb dJ7_copyOfRangeByte_39247_22 ?_
  refine lv_topi (fun x6 ex6 => ?_)
  rw [show x6 = (nI m) from ex6.trans (pk_sub (b := 0) (by omega))]
  refine lv_iload_n hx hb dJ7_copyOfRangeByte_39247_23 rfl (lv_at hl 1 rfl) ?_
  refine va_mmin hx hb (hml.trans hl.1.symm) hown (ht _ q_959) (ht _ q_960) (ht _ q_64) (ht _ q_961) (Nat.le_of_ble_eq_true rfl) (Nat.le_of_ble_eq_true rfl) (show 0 + 0 + 1 ≤ 1 by omega) (show 0 + 0 + n ≤ n by omega) dJ7_copyOfRangeByte_39247_24 ?_
  refine lv_topi (fun x7 ex7 => ?_)
  rw [show x7 = (nI n) from ex7.trans (cr_min hnm (by omega))]
  refine va_copyi hx hb (hml.trans hl.1.symm) hown (ht _ q_962) (ht _ q_964) (ht _ q_963) (ht _ q_72) hK hw.1 hw.2.1 hw.2.2.1 0 1 0 0 rfl rfl rfl rfl rfl (by decide) (by decide) (nI_pos (by omega)) (by rw [nI_clamp (by omega)]; show 0 + n ≤ m; omega) (by rw [nI_clamp (by omega)]; show 0 + n ≤ n; omega) (fun i _ => hf _) (Nat.le_of_ble_eq_true rfl) (Nat.le_of_ble_eq_true rfl) dJ7_copyOfRangeByte_39247_27 (fun H locs hP hD hS => ?_)
  have hw : MW D [] [(v, .inl (cB, m, .inl f)), (q5, .inl (cB, n, .inl (va_cpy f (fun _ => 0) ((0 : Int32) : Int32).toNatClampNeg ((0 : Int32) : Int32).toNatClampNeg ((nI n) : Int32).toNatClampNeg)))] (va_A [(v, .inl (cB, m, .inl f))] s.heap.size) s H locs := ⟨hP, hD, hS, hw.2.2.2⟩
  refine lv_aload hx hb dJ7_copyOfRangeByte_39247_30 (lv_at hl 0 rfl) ?_
  exact hret H locs ls 32 _ _ (q5, (va_cpy f (fun _ => 0) ((0 : Int32) : Int32).toNatClampNeg ((0 : Int32) : Int32).toNatClampNeg ((nI n) : Int32).toNatClampNeg)) q5 hw (FT.cpy hf FT0) rfl (show 0 + 0 + 1 ≤ 1 by omega) (show 0 + 0 + n ≤ n by omega) dJ7_copyOfRangeByte_39247_32

theorem FTc {cA : ClassId} {m : Nat} {f : Nat → Int32} (hf : FT f) : ∀ (i : Nat) (v : Value), (vp_cell cA (m, .inl f)).slots[i]? = some v → fits .byte v = true := fun i v h => by
  rw [vp_cell_i] at h
  have hl := (Array.getElem?_eq_some_iff.mp h).1
  rw [arrV_size] at hl
  rw [arrV_read _ _ hl] at h
  cases h
  exact hf i

set_option maxHeartbeats 4000000 in
set_option maxRecDepth 100000 in
theorem c_J7_copyOfRange_39247 {l : Launch} {D : va_G} {cB : ClassId} (v m n : Nat) (f : Nat → Int32)(sz : Nat) (hnm : n ≤ m) (hm : m ≤ 100000) (hf : FT f) : JMr l yJ7_copyOfRange_39247 (.code yJ7_copyOfRange_39247 cJ7_copyOfRange_39247 3 (Option.some (Jvm.ClassFile.FieldType.array Jvm.ClassFile.FieldType.byte))) 2 1 n [.ref v, .int (0 : Int32), .int (nI n)] D cB [(v, .inl (cB, m, .inl f))] [] sz (fun (u : Nat × (Nat → Int32)) => FT u.2) (fun (u : Nat × (Nat → Int32)) => u.1) (fun (u : Nat × (Nat → Int32)) => [bV cB v m f, bV cB u.1 n u.2]) := by
  refine J_metr (by decide +kernel) (Nat.le_of_ble_eq_true rfl) (Or.inr ⟨_, rfl⟩) ?_
  intro p e s mI below meth c Z ls hx hb hml hown hin ht hK hC hZ hSL hw hret hl
  have hl : lv_has ls 3 [(0, .ref v), (1, .int (0 : Int32)), (2, .int (nI n))] := hl
  suffices hh : ∀ (H : Heap) (locs : List Loc), MW D [] [(v, .inl (cB, m, .inl f))] (va_A [(v, .inl (cB, m, .inl f))] s.heap.size) s H locs → W p l e (RA 2 1 n) s mI #[.ref v, .int (0 : Int32), .int (nI n)] below meth c H locs 0 0 Z (F0 mI 0 ls []) from hh _ _ hw
  intro H locs hw
  refine lv_iload_n hx hb dJ7_copyOfRange_39247_0 rfl (lv_at hl 1 rfl) ?_
  refine lv_if_ne (tgt := 10) hx hb dJ7_copyOfRange_39247_1 (by decide) (fun c9 => absurd c9 (by decide)) (fun c9 => ?_)
  refine lv_iload_n hx hb dJ7_copyOfRange_39247_4 rfl (lv_at hl 2 rfl) ?_
  refine lv_aload_n hx hb dJ7_copyOfRange_39247_5 rfl (lv_at hl 0 rfl) ?_
  refine va_alen hx hb hK hw.1 0 0 (x := (m, .inl f)) rfl rfl rfl dJ7_copyOfRange_39247_6 ?_
  refine lv_icmp_eq (tgt := 17) hx hb dJ7_copyOfRange_39247_7 (by decide) (fun c9 => ?_) (fun c9 => ?_)
  · have e9 : n = m := (nI_eq (by omega) (by omega)).mp c9
    refine lv_aload_n hx hb dJ7_copyOfRange_39247_17 rfl (lv_at hl 0 rfl) ?_
    refine va_clone hx hb (hml.trans hl.1.symm) hown (ht _ q_952) (ht _ q_953) (ht _ q_954) (ht _ q_955) (ht _ q_956) hC.1 hK hw.1 hw.2.1 hw.2.2.1 hw.2.2.2 0 0 rfl rfl (hK.2 0 _ rfl).2 (FTc hf) (Nat.le_of_ble_eq_true rfl) (Nat.le_of_ble_eq_true rfl) (show 0 + 1 ≤ 1 by omega) (show 0 + m ≤ n by omega) dJ7_copyOfRange_39247_18 (fun q1 H _ hP hD hS => ?_)
    have hw : MW D [] [(v, .inl (cB, m, .inl f)), (q1, .inl (cB, m, .inl f))] (va_A [(v, .inl (cB, m, .inl f))] s.heap.size) s H locs := ⟨hP, hD, hS, hw.2.2.2⟩
    refine va_castA hx hb hown (ht _ q_958) hw.1 1 rfl (hK.2 0 _ rfl).2 dJ7_copyOfRange_39247_21 ?_
    subst e9
    exact hret H locs ls 24 _ _ (q1, f) q1 hw hf rfl (show 0 + 1 ≤ 1 by omega) (show 0 + n ≤ n by omega) dJ7_copyOfRange_39247_24
  · refine lv_aload_n hx hb dJ7_copyOfRange_39247_10 rfl (lv_at hl 0 rfl) ?_
    refine lv_iload_n hx hb dJ7_copyOfRange_39247_11 rfl (lv_at hl 1 rfl) ?_
    refine lv_iload_n hx hb dJ7_copyOfRange_39247_12 rfl (lv_at hl 2 rfl) ?_
    refine J_callr (N0 := []) (ws := [(v, .inl (cB, m, .inl f))]) hw (va_runS (own := "java/util/Arrays") (As := [.ref v, .int (0 : Int32), .int (nI n)]) (rest := []) ⟨hx, hb, hml, hown, ht⟩ (c_J7_copyOfRangeByte_39247 v m n f H.size hnm hm hf) (va_cwS 3 ht (G_S q_1083 q_1084 q_71 q_1085) rfl rfl rfl jd_18 ⟨Nat.le_of_ble_eq_true rfl, Nat.le_of_ble_eq_true rfl⟩) ⟨JB.blind, JB.pre (N0 := []) (ws := [(v, .inl (cB, m, .inl f))]) hK hC hZ hw SL0⟩ rfl rfl hl.1 rfl (lv_room (Nat.le_of_ble_eq_true rfl)) dJ7_copyOfRange_39247_13 ⟨show 0 + 1 ≤ 1 by omega, show 0 + n ≤ n by omega⟩) (fun u1 H locs hp2 hw => ?_)
    obtain ⟨v1, f1⟩ := u1
    have hw : MW D [] [(v, .inl (cB, m, .inl f)), (v1, .inl (cB, n, .inl f1))] (va_A [(v, .inl (cB, m, .inl f))] s.heap.size) s H locs := hw
    exact hret H locs ls 16 _ _ (v1, f1) v1 hw hp2 rfl (show 0 + 1 ≤ 1 by omega) (show 0 + n ≤ n by omega) dJ7_copyOfRange_39247_16
end
/-! part 98.jdk4 -/
section
set_option maxRecDepth 100000 in
theorem db_cJ4_length_8abf5_dJ4_length_8abf5_0_0 : zw [(0, .aload_n 0, 1), (1, .invokespecial 343, 3), (4, .ireturn, 1)] (cJ4_length_8abf5.data.toList.drop 0) 0 = true := by decide +kernel
def dc_cJ4_length_8abf5_dJ4_length_8abf5_0_0 := zw_3 db_cJ4_length_8abf5_dJ4_length_8abf5_0_0
def dJ4_length_8abf5_0 := dc_cJ4_length_8abf5_dJ4_length_8abf5_0_0.1
def dJ4_length_8abf5_1 := dc_cJ4_length_8abf5_dJ4_length_8abf5_0_0.2.1
def dJ4_length_8abf5_4 := dc_cJ4_length_8abf5_dJ4_length_8abf5_0_0.2.2
set_option maxRecDepth 100000 in
theorem db_cJ0_init_db425_dJ0_init_db425_0_0 : zw [(0, .aload_n 0, 1), (1, .invokespecial 1, 3), (4, .aload_n 1, 1), (5, .invokevirtual 552, 3), (8, .astore_n 3, 1), (9, .aload_n 1, 1), (10, .invokevirtual 549, 3), (13, .istore 4, 2), (15, .aload_n 1, 1), (16, .invokevirtual 1047, 3), (19, .ifCond .eq 22, 3), (22, .aload_n 0, 1), (23, .iconst 0, 1), (24, .putfield 15, 3), (27, .aload_n 0, 1), (28, .aload_n 3, 1)] (cJ0_init_db425.data.toList.drop 0) 0 = true := by decide +kernel
def dc_cJ0_init_db425_dJ0_init_db425_0_0 := zw_16 db_cJ0_init_db425_dJ0_init_db425_0_0
def dJ0_init_db425_0 := dc_cJ0_init_db425_dJ0_init_db425_0_0.1
def dJ0_init_db425_1 := dc_cJ0_init_db425_dJ0_init_db425_0_0.2.1
def dJ0_init_db425_4 := dc_cJ0_init_db425_dJ0_init_db425_0_0.2.2.1
def dJ0_init_db425_5 := dc_cJ0_init_db425_dJ0_init_db425_0_0.2.2.2.1
def dJ0_init_db425_8 := dc_cJ0_init_db425_dJ0_init_db425_0_0.2.2.2.2.1
def dJ0_init_db425_9 := dc_cJ0_init_db425_dJ0_init_db425_0_0.2.2.2.2.2.1
def dJ0_init_db425_10 := dc_cJ0_init_db425_dJ0_init_db425_0_0.2.2.2.2.2.2.1
def dJ0_init_db425_13 := dc_cJ0_init_db425_dJ0_init_db425_0_0.2.2.2.2.2.2.2.1
def dJ0_init_db425_15 := dc_cJ0_init_db425_dJ0_init_db425_0_0.2.2.2.2.2.2.2.2.1
def dJ0_init_db425_16 := dc_cJ0_init_db425_dJ0_init_db425_0_0.2.2.2.2.2.2.2.2.2.1
def dJ0_init_db425_19 := dc_cJ0_init_db425_dJ0_init_db425_0_0.2.2.2.2.2.2.2.2.2.2.1
def dJ0_init_db425_22 := dc_cJ0_init_db425_dJ0_init_db425_0_0.2.2.2.2.2.2.2.2.2.2.2.1
def dJ0_init_db425_23 := dc_cJ0_init_db425_dJ0_init_db425_0_0.2.2.2.2.2.2.2.2.2.2.2.2.1
def dJ0_init_db425_24 := dc_cJ0_init_db425_dJ0_init_db425_0_0.2.2.2.2.2.2.2.2.2.2.2.2.2.1
def dJ0_init_db425_27 := dc_cJ0_init_db425_dJ0_init_db425_0_0.2.2.2.2.2.2.2.2.2.2.2.2.2.2.1
def dJ0_init_db425_28 := dc_cJ0_init_db425_dJ0_init_db425_0_0.2.2.2.2.2.2.2.2.2.2.2.2.2.2.2
set_option maxRecDepth 100000 in
theorem db_cJ0_init_db425_dJ0_init_db425_29_1 : zw [(29, .iconst 0, 1), (30, .iload 4, 2), (32, .invokestatic 54, 3), (35, .putfield 9, 3), (38, .goto 59, 3), (41, .getstatic 38, 3), (44, .ifCond .eq 35, 3), (47, .aload_n 1, 1), (48, .getfield 1048, 3), (51, .ifCond .eq 28, 3), (54, .aload_n 0, 1), (55, .aload_n 3, 1), (56, .iconst 0, 1), (57, .iload 4, 2), (59, .invokestatic 1051, 3), (62, .putfield 9, 3)] (cJ0_init_db425.data.toList.drop 29) 29 = true := by decide +kernel
def dc_cJ0_init_db425_dJ0_init_db425_29_1 := zw_16 db_cJ0_init_db425_dJ0_init_db425_29_1
def dJ0_init_db425_29 := dc_cJ0_init_db425_dJ0_init_db425_29_1.1
def dJ0_init_db425_30 := dc_cJ0_init_db425_dJ0_init_db425_29_1.2.1
def dJ0_init_db425_32 := dc_cJ0_init_db425_dJ0_init_db425_29_1.2.2.1
def dJ0_init_db425_35 := dc_cJ0_init_db425_dJ0_init_db425_29_1.2.2.2.1
def dJ0_init_db425_38 := dc_cJ0_init_db425_dJ0_init_db425_29_1.2.2.2.2.1
def dJ0_init_db425_41 := dc_cJ0_init_db425_dJ0_init_db425_29_1.2.2.2.2.2.1
def dJ0_init_db425_44 := dc_cJ0_init_db425_dJ0_init_db425_29_1.2.2.2.2.2.2.1
def dJ0_init_db425_47 := dc_cJ0_init_db425_dJ0_init_db425_29_1.2.2.2.2.2.2.2.1
def dJ0_init_db425_48 := dc_cJ0_init_db425_dJ0_init_db425_29_1.2.2.2.2.2.2.2.2.1
def dJ0_init_db425_51 := dc_cJ0_init_db425_dJ0_init_db425_29_1.2.2.2.2.2.2.2.2.2.1
def dJ0_init_db425_54 := dc_cJ0_init_db425_dJ0_init_db425_29_1.2.2.2.2.2.2.2.2.2.2.1
def dJ0_init_db425_55 := dc_cJ0_init_db425_dJ0_init_db425_29_1.2.2.2.2.2.2.2.2.2.2.2.1
def dJ0_init_db425_56 := dc_cJ0_init_db425_dJ0_init_db425_29_1.2.2.2.2.2.2.2.2.2.2.2.2.1
def dJ0_init_db425_57 := dc_cJ0_init_db425_dJ0_init_db425_29_1.2.2.2.2.2.2.2.2.2.2.2.2.2.1
def dJ0_init_db425_59 := dc_cJ0_init_db425_dJ0_init_db425_29_1.2.2.2.2.2.2.2.2.2.2.2.2.2.2.1
def dJ0_init_db425_62 := dc_cJ0_init_db425_dJ0_init_db425_29_1.2.2.2.2.2.2.2.2.2.2.2.2.2.2.2
set_option maxRecDepth 100000 in
theorem db_cJ0_init_db425_dJ0_init_db425_65_2 : zw [(65, .aload_n 0, 1), (66, .aload_n 0, 1), (67, .getfield 9, 3), (70, .iload 4, 2), (72, .invokestatic 47, 3), (75, .putfield 15, 3), (78, .return_, 1), (79, .aload_n 0, 1), (80, .iconst 1, 1), (81, .putfield 15, 3), (84, .aload_n 0, 1), (85, .aload_n 3, 1), (86, .iconst 0, 1), (87, .iload 4, 2), (89, .iconst 1, 1), (90, .ishl, 1)] (cJ0_init_db425.data.toList.drop 65) 65 = true := by decide +kernel
def dc_cJ0_init_db425_dJ0_init_db425_65_2 := zw_16 db_cJ0_init_db425_dJ0_init_db425_65_2
def dJ0_init_db425_65 := dc_cJ0_init_db425_dJ0_init_db425_65_2.1
def dJ0_init_db425_66 := dc_cJ0_init_db425_dJ0_init_db425_65_2.2.1
def dJ0_init_db425_67 := dc_cJ0_init_db425_dJ0_init_db425_65_2.2.2.1
def dJ0_init_db425_70 := dc_cJ0_init_db425_dJ0_init_db425_65_2.2.2.2.1
def dJ0_init_db425_72 := dc_cJ0_init_db425_dJ0_init_db425_65_2.2.2.2.2.1
def dJ0_init_db425_75 := dc_cJ0_init_db425_dJ0_init_db425_65_2.2.2.2.2.2.1
def dJ0_init_db425_78 := dc_cJ0_init_db425_dJ0_init_db425_65_2.2.2.2.2.2.2.1
def dJ0_init_db425_79 := dc_cJ0_init_db425_dJ0_init_db425_65_2.2.2.2.2.2.2.2.1
def dJ0_init_db425_80 := dc_cJ0_init_db425_dJ0_init_db425_65_2.2.2.2.2.2.2.2.2.1
def dJ0_init_db425_81 := dc_cJ0_init_db425_dJ0_init_db425_65_2.2.2.2.2.2.2.2.2.2.1
def dJ0_init_db425_84 := dc_cJ0_init_db425_dJ0_init_db425_65_2.2.2.2.2.2.2.2.2.2.2.1
def dJ0_init_db425_85 := dc_cJ0_init_db425_dJ0_init_db425_65_2.2.2.2.2.2.2.2.2.2.2.2.1
def dJ0_init_db425_86 := dc_cJ0_init_db425_dJ0_init_db425_65_2.2.2.2.2.2.2.2.2.2.2.2.2.1
def dJ0_init_db425_87 := dc_cJ0_init_db425_dJ0_init_db425_65_2.2.2.2.2.2.2.2.2.2.2.2.2.2.1
def dJ0_init_db425_89 := dc_cJ0_init_db425_dJ0_init_db425_65_2.2.2.2.2.2.2.2.2.2.2.2.2.2.2.1
def dJ0_init_db425_90 := dc_cJ0_init_db425_dJ0_init_db425_65_2.2.2.2.2.2.2.2.2.2.2.2.2.2.2.2
set_option maxRecDepth 100000 in
theorem db_cJ0_init_db425_dJ0_init_db425_91_3 : zw [(91, .invokestatic 54, 3), (94, .putfield 9, 3), (97, .return_, 1)] (cJ0_init_db425.data.toList.drop 91) 91 = true := by decide +kernel
def dc_cJ0_init_db425_dJ0_init_db425_91_3 := zw_3 db_cJ0_init_db425_dJ0_init_db425_91_3
def dJ0_init_db425_91 := dc_cJ0_init_db425_dJ0_init_db425_91_3.1
def dJ0_init_db425_94 := dc_cJ0_init_db425_dJ0_init_db425_91_3.2.1
def dJ0_init_db425_97 := dc_cJ0_init_db425_dJ0_init_db425_91_3.2.2
set_option maxRecDepth 100000 in
theorem db_cJ0_init_81219_dJ0_init_81219_0_0 : zw [(0, .aload_n 0, 1), (1, .aload_n 1, 1), (2, .aconst_null, 1), (3, .invokespecial 489, 3), (6, .return_, 1)] (cJ0_init_81219.data.toList.drop 0) 0 = true := by decide +kernel
def dc_cJ0_init_81219_dJ0_init_81219_0_0 := zw_5 db_cJ0_init_81219_dJ0_init_81219_0_0
def dJ0_init_81219_0 := dc_cJ0_init_81219_dJ0_init_81219_0_0.1
def dJ0_init_81219_1 := dc_cJ0_init_81219_dJ0_init_81219_0_0.2.1
def dJ0_init_81219_2 := dc_cJ0_init_81219_dJ0_init_81219_0_0.2.2.1
def dJ0_init_81219_3 := dc_cJ0_init_81219_dJ0_init_81219_0_0.2.2.2.1
def dJ0_init_81219_6 := dc_cJ0_init_81219_dJ0_init_81219_0_0.2.2.2.2
set_option maxRecDepth 100000 in
theorem db_cJ4_toString_0e30d_dJ4_toString_0e30d_0_0 : zw [(0, .new 18, 3), (3, .dup, 1), (4, .aload_n 0, 1), (5, .invokespecial 137, 3), (8, .areturn, 1)] (cJ4_toString_0e30d.data.toList.drop 0) 0 = true := by decide +kernel
def dc_cJ4_toString_0e30d_dJ4_toString_0e30d_0_0 := zw_5 db_cJ4_toString_0e30d_dJ4_toString_0e30d_0_0
def dJ4_toString_0e30d_0 := dc_cJ4_toString_0e30d_dJ4_toString_0e30d_0_0.1
def dJ4_toString_0e30d_3 := dc_cJ4_toString_0e30d_dJ4_toString_0e30d_0_0.2.1
def dJ4_toString_0e30d_4 := dc_cJ4_toString_0e30d_dJ4_toString_0e30d_0_0.2.2.1
def dJ4_toString_0e30d_5 := dc_cJ4_toString_0e30d_dJ4_toString_0e30d_0_0.2.2.2.1
def dJ4_toString_0e30d_8 := dc_cJ4_toString_0e30d_dJ4_toString_0e30d_0_0.2.2.2.2
set_option maxRecDepth 100000 in
theorem db_cJ5_init_d00df_dJ5_init_d00df_0_0 : zw [(0, .aload_n 0, 1), (1, .invokespecial 3, 3), (4, .getstatic 18, 3), (7, .ifCond .eq 18, 3), (10, .aload_n 0, 1), (11, .iload_n 1, 1)] (cJ5_init_d00df.data.toList.drop 0) 0 = true := by decide +kernel
def dc_cJ5_init_d00df_dJ5_init_d00df_0_0 := zw_6 db_cJ5_init_d00df_dJ5_init_d00df_0_0
def dJ5_init_d00df_0 := dc_cJ5_init_d00df_dJ5_init_d00df_0_0.1
def dJ5_init_d00df_1 := dc_cJ5_init_d00df_dJ5_init_d00df_0_0.2.1
def dJ5_init_d00df_4 := dc_cJ5_init_d00df_dJ5_init_d00df_0_0.2.2.1
def dJ5_init_d00df_7 := dc_cJ5_init_d00df_dJ5_init_d00df_0_0.2.2.2.1
def dJ5_init_d00df_10 := dc_cJ5_init_d00df_dJ5_init_d00df_0_0.2.2.2.2.1
def dJ5_init_d00df_11 := dc_cJ5_init_d00df_dJ5_init_d00df_0_0.2.2.2.2.2
theorem dJ5_init_d00df_12 : decode cJ5_init_d00df 12 = .ok (.newarray .byte, 2) := by decide +kernel
set_option maxRecDepth 100000 in
theorem db_cJ5_init_d00df_dJ5_init_d00df_14_1 : zw [(14, .putfield 15, 3), (17, .aload_n 0, 1), (18, .iconst 0, 1), (19, .putfield 22, 3), (22, .goto 16, 3), (25, .aload_n 0, 1), (26, .iload_n 1, 1), (27, .invokestatic 26, 3), (30, .putfield 15, 3), (33, .aload_n 0, 1), (34, .iconst 1, 1), (35, .putfield 22, 3), (38, .return_, 1)] (cJ5_init_d00df.data.toList.drop 14) 14 = true := by decide +kernel
def dc_cJ5_init_d00df_dJ5_init_d00df_14_1 := zw_13 db_cJ5_init_d00df_dJ5_init_d00df_14_1
def dJ5_init_d00df_14 := dc_cJ5_init_d00df_dJ5_init_d00df_14_1.1
def dJ5_init_d00df_17 := dc_cJ5_init_d00df_dJ5_init_d00df_14_1.2.1
def dJ5_init_d00df_18 := dc_cJ5_init_d00df_dJ5_init_d00df_14_1.2.2.1
def dJ5_init_d00df_19 := dc_cJ5_init_d00df_dJ5_init_d00df_14_1.2.2.2.1
def dJ5_init_d00df_22 := dc_cJ5_init_d00df_dJ5_init_d00df_14_1.2.2.2.2.1
def dJ5_init_d00df_25 := dc_cJ5_init_d00df_dJ5_init_d00df_14_1.2.2.2.2.2.1
def dJ5_init_d00df_26 := dc_cJ5_init_d00df_dJ5_init_d00df_14_1.2.2.2.2.2.2.1
def dJ5_init_d00df_27 := dc_cJ5_init_d00df_dJ5_init_d00df_14_1.2.2.2.2.2.2.2.1
def dJ5_init_d00df_30 := dc_cJ5_init_d00df_dJ5_init_d00df_14_1.2.2.2.2.2.2.2.2.1
def dJ5_init_d00df_33 := dc_cJ5_init_d00df_dJ5_init_d00df_14_1.2.2.2.2.2.2.2.2.2.1
def dJ5_init_d00df_34 := dc_cJ5_init_d00df_dJ5_init_d00df_14_1.2.2.2.2.2.2.2.2.2.2.1
def dJ5_init_d00df_35 := dc_cJ5_init_d00df_dJ5_init_d00df_14_1.2.2.2.2.2.2.2.2.2.2.2.1
def dJ5_init_d00df_38 := dc_cJ5_init_d00df_dJ5_init_d00df_14_1.2.2.2.2.2.2.2.2.2.2.2.2
set_option maxRecDepth 100000 in
theorem db_cJ4_init_da8c8_dJ4_init_da8c8_0_0 : zw [(0, .aload_n 0, 1), (1, .bipush 16, 2), (3, .invokespecial 1, 3), (6, .return_, 1)] (cJ4_init_da8c8.data.toList.drop 0) 0 = true := by decide +kernel
def dc_cJ4_init_da8c8_dJ4_init_da8c8_0_0 := zw_4 db_cJ4_init_da8c8_dJ4_init_da8c8_0_0
def dJ4_init_da8c8_0 := dc_cJ4_init_da8c8_dJ4_init_da8c8_0_0.1
def dJ4_init_da8c8_1 := dc_cJ4_init_da8c8_dJ4_init_da8c8_0_0.2.1
def dJ4_init_da8c8_3 := dc_cJ4_init_da8c8_dJ4_init_da8c8_0_0.2.2.1
def dJ4_init_da8c8_6 := dc_cJ4_init_da8c8_dJ4_init_da8c8_0_0.2.2.2
theorem jd_19 : (yJ5_length_8abf5 : MethodName).cls ≠ "java/lang/invoke/MethodHandle" ∧ (yJ5_length_8abf5 : MethodName).cls ≠ "java/lang/invoke/VarHandle" ∧ (parseMethodDescriptor (yJ5_length_8abf5 : MethodName).desc).map (fun d => d.parameters.length) = some 0 := by decide +kernel
theorem jd_20 : (yJ5_getValue_6d5f1 : MethodName).cls ≠ "java/lang/invoke/MethodHandle" ∧ (yJ5_getValue_6d5f1 : MethodName).cls ≠ "java/lang/invoke/VarHandle" ∧ (parseMethodDescriptor (yJ5_getValue_6d5f1 : MethodName).desc).map (fun d => d.parameters.length) = some 0 := by decide +kernel
theorem jd_21 : (yJ4_length_8abf5 : MethodName).cls ≠ "java/lang/invoke/MethodHandle" ∧ (yJ4_length_8abf5 : MethodName).cls ≠ "java/lang/invoke/VarHandle" ∧ (parseMethodDescriptor (yJ4_length_8abf5 : MethodName).desc).map (fun d => d.parameters.length) = some 0 := by decide +kernel
theorem jd_22 : (yJ7_copyOfRange_39247 : MethodName).cls ≠ "java/lang/invoke/MethodHandle" ∧ (yJ7_copyOfRange_39247 : MethodName).cls ≠ "java/lang/invoke/VarHandle" ∧ (parseMethodDescriptor (yJ7_copyOfRange_39247 : MethodName).desc).map (fun d => d.parameters.length) = some 3 := by decide +kernel
theorem jd_23 : (yJ0_init_db425 : MethodName).cls ≠ "java/lang/invoke/MethodHandle" ∧ (yJ0_init_db425 : MethodName).cls ≠ "java/lang/invoke/VarHandle" ∧ (parseMethodDescriptor (yJ0_init_db425 : MethodName).desc).map (fun d => d.parameters.length) = some 2 := by decide +kernel
theorem jd_24 : (yJ0_init_81219 : MethodName).cls ≠ "java/lang/invoke/MethodHandle" ∧ (yJ0_init_81219 : MethodName).cls ≠ "java/lang/invoke/VarHandle" ∧ (parseMethodDescriptor (yJ0_init_81219 : MethodName).desc).map (fun d => d.parameters.length) = some 1 := by decide +kernel
theorem jd_25 : (yJ5_init_d00df : MethodName).cls ≠ "java/lang/invoke/MethodHandle" ∧ (yJ5_init_d00df : MethodName).cls ≠ "java/lang/invoke/VarHandle" ∧ (parseMethodDescriptor (yJ5_init_d00df : MethodName).desc).map (fun d => d.parameters.length) = some 1 := by decide +kernel
set_option maxHeartbeats 4000000 in
set_option maxRecDepth 100000 in
theorem c_J4_length_8abf5 {l : Launch} {D : va_G} {cB : ClassId} (b v m n : Nat) (f : Nat → Int32)(sz : Nat)  : JMi l yJ4_length_8abf5 (.code yJ4_length_8abf5 cJ4_length_8abf5 1 (Option.some Jvm.ClassFile.FieldType.int)) 1 0 0 [.ref b] D cB [(b, .inr (11, [.ref v, .int 0, .int 0, .int (nI n)])), (v, .inl (cB, m, .inl f))] [] sz (fun (r : Int32) (u : Unit) => r = nI n) (fun (u : Unit) => [bC b v n, bV cB v m f]) := by
  refine J_meti (by decide +kernel) (Nat.le_of_ble_eq_true rfl) ?_
  intro p e s mI below meth c Z ls hx hb hml hown hin ht hK hC hZ hSL hw hret hl
  have hl : lv_has ls 1 [(0, .ref b)] := hl
  suffices hh : ∀ (H : Heap) (locs : List Loc), MW D [] [(b, .inr (11, [.ref v, .int 0, .int 0, .int (nI n)])), (v, .inl (cB, m, .inl f))] (va_A [(b, .inr (11, [.ref v, .int 0, .int 0, .int (nI n)])), (v, .inl (cB, m, .inl f))] s.heap.size) s H locs → W p l e (RA 1 0 0) s mI #[.ref b] below meth c H locs 0 0 Z (F0 mI 0 ls []) from hh _ _ hw
  intro H locs hw
  refine lv_aload_n hx hb dJ4_length_8abf5_0 rfl (lv_at hl 0 rfl) ?_
  obtain ⟨cS, hat⟩ := classAt_of (ht _ q_893)
  refine J_calli (N0 := []) (ws := [(b, .inr (11, [.ref v, .int 0, .int 0, .int (nI n)])), (v, .inl (cB, m, .inl f))]) hw (va_runSU hat (own := "java/lang/StringBuilder") (As := []) (rest := []) ⟨hx, hb, hml, hown, ht⟩ (c_J5_length_8abf5 b v m n f H.size) (va_cwSU 0 ht (G_SU q_1077 q_1073 q_922 q_1072 q_66 q_1078) rfl rfl rfl ⟨by decide, by decide +kernel⟩ ⟨Nat.le_of_ble_eq_true rfl, Nat.le_of_ble_eq_true rfl⟩) ⟨JB.blind, J_recv hK hw (j := 0) rfl cl_11, JB.pre (N0 := []) (ws := [(b, .inr (11, [.ref v, .int 0, .int 0, .int (nI n)])), (v, .inl (cB, m, .inl f))]) hK hC hZ hw SL0⟩ rfl rfl hl.1 rfl (lv_room (Nat.le_of_ble_eq_true rfl)) dJ4_length_8abf5_1 ⟨show 0 + 0 ≤ 0 by omega, show 0 + 0 ≤ 0 by omega⟩) (fun r3 u1 H locs hp2 hw => ?_)
  have hw : MW D [] [(b, .inr (11, [.ref v, .int 0, .int 0, .int (nI n)])), (v, .inl (cB, m, .inl f))] (va_A [(b, .inr (11, [.ref v, .int 0, .int 0, .int (nI n)])), (v, .inl (cB, m, .inl f))] s.heap.size) s H locs := hw
  rw [hp2]
  exact hret H locs ls 4 _ _ (nI n) () hw rfl rfl (show 0 + 0 ≤ 0 by omega) (show 0 + 0 ≤ 0 by omega) dJ4_length_8abf5_4

set_option maxHeartbeats 4000000 in
set_option maxRecDepth 100000 in
theorem c_J0_init_db425 {l : Launch} {D : va_G} {cB : ClassId} (a b v m n : Nat) (f : Nat → Int32)(sz : Nat) (hnm : n ≤ m) (hm : m ≤ 100000) (hf : FT f) : JMv l yJ0_init_db425 (.code yJ0_init_db425 cJ0_init_db425 5 (Option.none : Option Jvm.ClassFile.FieldType)) 3 1 n [.ref a, .ref b, .null] D cB [(a, .inr (12, [.null, .int 0, .int 0, .int 0])), (b, .inr (11, [.ref v, .int 0, .int 0, .int (nI n)])), (v, .inl (cB, m, .inl f))] [] sz (fun (u : Nat × (Nat → Int32)) => FT u.2) (fun (u : Nat × (Nat → Int32)) => [sC a u.1, bC b v n, bV cB v m f, bV cB u.1 n u.2]) := by
  refine J_metv (by decide +kernel) (Nat.le_of_ble_eq_true rfl) ?_
  intro p e s mI below meth c Z ls hx hb hml hown hin ht hK hC hZ hSL hw hret hl
  have hl : lv_has ls 5 [(0, .ref a), (1, .ref b), (2, .null)] := hl
  suffices hh : ∀ (H : Heap) (locs : List Loc), MW D [] [(a, .inr (12, [.null, .int 0, .int 0, .int 0])), (b, .inr (11, [.ref v, .int 0, .int 0, .int (nI n)])), (v, .inl (cB, m, .inl f))] (va_A [(a, .inr (12, [.null, .int 0, .int 0, .int 0])), (b, .inr (11, [.ref v, .int 0, .int 0, .int (nI n)])), (v, .inl (cB, m, .inl f))] s.heap.size) s H locs → W p l e (RA 3 1 n) s mI #[.ref a, .ref b, .null] below meth c H locs 0 0 Z (F0 mI 0 ls []) from hh _ _ hw
  intro H locs hw
  refine lv_aload_n hx hb dJ0_init_db425_0 rfl (lv_at hl 0 rfl) ?_
  refine W.objInit hx hb hown (ht _ q_1065) (ht _ q_82) (ht _ q_83) rfl (by rw [hml]; exact hl.1) rfl dJ0_init_db425_1 (Nat.le_of_ble_eq_true rfl) (Nat.le_of_ble_eq_true rfl) ?_
  refine W.eq (g2 := F0 mI 4 ls []) rfl ?_
  refine lv_aload_n hx hb dJ0_init_db425_4 rfl (lv_at hl 1 rfl) ?_
  refine J_callr (N0 := [(a, .inr (12, [.null, .int 0, .int 0, .int 0]))]) (ws := [(b, .inr (11, [.ref v, .int 0, .int 0, .int (nI n)])), (v, .inl (cB, m, .inl f))]) hw (va_runU (own := "java/lang/String") (As := []) (rest := []) ⟨hx, hb, hml, hown, ht⟩ (c_J5_getValue_6d5f1 b v m n f H.size) (va_cwU (C := "java/lang/StringBuilder") (owner := "java/lang/AbstractStringBuilder") 0 ht (G_U q_1066 q_1068 q_1069 q_1067 q_66 q_1070) rfl rfl rfl rfl jd_20 ⟨Nat.le_of_ble_eq_true rfl, Nat.le_of_ble_eq_true rfl⟩) ⟨JB.blind, J_recv hK hw (j := 1) rfl cl_11, JB.pre (N0 := [(a, .inr (12, [.null, .int 0, .int 0, .int 0]))]) (ws := [(b, .inr (11, [.ref v, .int 0, .int 0, .int (nI n)])), (v, .inl (cB, m, .inl f))]) hK hC hZ hw SL0⟩ rfl rfl hl.1 rfl (lv_room (Nat.le_of_ble_eq_true rfl)) dJ0_init_db425_5 ⟨show 0 + 0 ≤ 1 by omega, show 0 + 0 ≤ n by omega⟩) (fun u1 H locs hp2 hw => ?_)
  have hw : MW D [] [(a, .inr (12, [.null, .int 0, .int 0, .int 0])), (b, .inr (11, [.ref v, .int 0, .int 0, .int (nI n)])), (v, .inl (cB, m, .inl f))] (va_A [(a, .inr (12, [.null, .int 0, .int 0, .int 0])), (b, .inr (11, [.ref v, .int 0, .int 0, .int (nI n)])), (v, .inl (cB, m, .inl f))] s.heap.size) s H locs := hw
  refine lv_astore_n (lv' := [(3, .ref v), (0, .ref a), (1, .ref b), (2, .null)]) hx hb dJ0_init_db425_8 rfl hl (by decide) rfl (fun ls hl => ?_)
  refine lv_aload_n hx hb dJ0_init_db425_9 rfl (lv_at hl 2 rfl) ?_
  refine J_calli (N0 := [(a, .inr (12, [.null, .int 0, .int 0, .int 0]))]) (ws := [(b, .inr (11, [.ref v, .int 0, .int 0, .int (nI n)])), (v, .inl (cB, m, .inl f))]) hw (va_runU (own := "java/lang/String") (As := []) (rest := []) ⟨hx, hb, hml, hown, ht⟩ (c_J4_length_8abf5 b v m n f H.size) (va_cwO (C := "java/lang/StringBuilder") (owner := "java/lang/AbstractStringBuilder") 0 ht (G_O q_1071 q_1073 q_1072 q_1074 q_1075 q_67 q_1076) rfl rfl rfl q_1078 ⟨by decide, by decide, by decide +kernel⟩ ⟨Nat.le_of_ble_eq_true rfl, Nat.le_of_ble_eq_true rfl⟩) ⟨JB.blind, J_recv hK hw (j := 1) rfl cl_11, JB.pre (N0 := [(a, .inr (12, [.null, .int 0, .int 0, .int 0]))]) (ws := [(b, .inr (11, [.ref v, .int 0, .int 0, .int (nI n)])), (v, .inl (cB, m, .inl f))]) hK hC hZ hw SL0⟩ rfl rfl hl.1 rfl (lv_room (Nat.le_of_ble_eq_true rfl)) dJ0_init_db425_10 ⟨show 0 + 0 + 0 ≤ 1 by omega, show 0 + 0 + 0 ≤ n by omega⟩) (fun r6 u4 H locs hp5 hw => ?_)
  have hw : MW D [] [(a, .inr (12, [.null, .int 0, .int 0, .int 0])), (b, .inr (11, [.ref v, .int 0, .int 0, .int (nI n)])), (v, .inl (cB, m, .inl f))] (va_A [(a, .inr (12, [.null, .int 0, .int 0, .int 0])), (b, .inr (11, [.ref v, .int 0, .int 0, .int (nI n)])), (v, .inl (cB, m, .inl f))] s.heap.size) s H locs := hw
  rw [hp5]
  refine lv_istore (lv' := [(4, .int (nI n)), (3, .ref v), (0, .ref a), (1, .ref b), (2, .null)]) hx hb dJ0_init_db425_13 hl (by decide) rfl (fun ls hl => ?_)
  refine lv_aload_n hx hb dJ0_init_db425_15 rfl (lv_at hl 3 rfl) ?_
  refine J_calli (N0 := [(a, .inr (12, [.null, .int 0, .int 0, .int 0]))]) (ws := [(b, .inr (11, [.ref v, .int 0, .int 0, .int (nI n)])), (v, .inl (cB, m, .inl f))]) hw (va_runU (own := "java/lang/String") (As := []) (rest := []) ⟨hx, hb, hml, hown, ht⟩ (c_J5_isLatin1_aae02 b v m n f H.size) (va_cwU (C := "java/lang/StringBuilder") (owner := "java/lang/AbstractStringBuilder") 0 ht (G_U q_1079 q_967 q_968 q_966 q_66 q_969) rfl rfl rfl rfl jd_4 ⟨Nat.le_of_ble_eq_true rfl, Nat.le_of_ble_eq_true rfl⟩) ⟨JB.blind, J_recv hK hw (j := 1) rfl cl_11, JB.pre (N0 := [(a, .inr (12, [.null, .int 0, .int 0, .int 0]))]) (ws := [(b, .inr (11, [.ref v, .int 0, .int 0, .int (nI n)])), (v, .inl (cB, m, .inl f))]) hK hC hZ hw SL0⟩ rfl rfl hl.1 rfl (lv_room (Nat.le_of_ble_eq_true rfl)) dJ0_init_db425_16 ⟨show 0 + 0 + 0 + 0 ≤ 1 by omega, show 0 + 0 + 0 + 0 ≤ n by omega⟩) (fun r9 u7 H locs hp8 hw => ?_)
  have hw : MW D [] [(a, .inr (12, [.null, .int 0, .int 0, .int 0])), (b, .inr (11, [.ref v, .int 0, .int 0, .int (nI n)])), (v, .inl (cB, m, .inl f))] (va_A [(a, .inr (12, [.null, .int 0, .int 0, .int 0])), (b, .inr (11, [.ref v, .int 0, .int 0, .int (nI n)])), (v, .inl (cB, m, .inl f))] s.heap.size) s H locs := hw
  rw [hp8]
  refine lv_if_eq (tgt := 41) hx hb dJ0_init_db425_19 (by decide) (fun c9 => absurd c9 (by decide)) (fun c9 => ?_)
  refine lv_aload_n hx hb dJ0_init_db425_22 rfl (lv_at hl 2 rfl) ?_
  refine lv_iconst (v := (0 : Int32)) hx hb dJ0_init_db425_23 (by decide) ?_
  refine va_putF (ty := .byte) hx hb ht in_12 tyJ0 tyJ0_ok nmJ0 hown hK hw.1 hw.2.1 hw.2.2.1 0 rfl cl_12 1 (by decide) (ht _ q_1148) (fun _ h => h) rfl hin rfl (by decide +kernel) rfl rfl (Nat.le_of_ble_eq_true rfl) dJ0_init_db425_24 (fun H locs hP hD hS => ?_)
  have hw : MW D [] [(a, .inr (12, [.null, .int (0 : Int32), .int 0, .int 0])), (b, .inr (11, [.ref v, .int 0, .int 0, .int (nI n)])), (v, .inl (cB, m, .inl f))] (va_A [(a, .inr (12, [.null, .int 0, .int 0, .int 0])), (b, .inr (11, [.ref v, .int 0, .int 0, .int (nI n)])), (v, .inl (cB, m, .inl f))] s.heap.size) s H locs := ⟨hP, hD, hS, hw.2.2.2⟩
  refine lv_aload_n hx hb dJ0_init_db425_27 rfl (lv_at hl 2 rfl) ?_
  refine lv_aload_n hx hb dJ0_init_db425_28 rfl (lv_at hl 1 rfl) ?_
  refine lv_iconst (v := (0 : Int32)) hx hb dJ0_init_db425_29 (by decide) ?_
  refine lv_iload hx hb dJ0_init_db425_30 (lv_at hl 0 rfl) ?_
  refine J_callr (N0 := [(a, .inr (12, [.null, .int (0 : Int32), .int 0, .int 0])), (b, .inr (11, [.ref v, .int 0, .int 0, .int (nI n)]))]) (ws := [(v, .inl (cB, m, .inl f))]) hw (va_runS (own := "java/lang/String") (As := [.ref v, .int (0 : Int32), .int (nI n)]) (rest := [.ref a]) ⟨hx, hb, hml, hown, ht⟩ (c_J7_copyOfRange_39247 v m n f H.size hnm hm hf) (va_cwS 3 ht (G_S q_1080 q_1081 q_71 q_1082) rfl rfl rfl jd_22 ⟨Nat.le_of_ble_eq_true rfl, Nat.le_of_ble_eq_true rfl⟩) ⟨JB.blind, JB.pre (N0 := [(a, .inr (12, [.null, .int (0 : Int32), .int 0, .int 0])), (b, .inr (11, [.ref v, .int 0, .int 0, .int (nI n)]))]) (ws := [(v, .inl (cB, m, .inl f))]) hK hC hZ hw SL0⟩ rfl rfl hl.1 rfl (lv_room (Nat.le_of_ble_eq_true rfl)) dJ0_init_db425_32 ⟨show 0 + 0 + 0 + 0 + 1 ≤ 1 by omega, show 0 + 0 + 0 + 0 + n ≤ n by omega⟩) (fun u10 H locs hp11 hw => ?_)
  obtain ⟨v1, f1⟩ := u10
  have hw : MW D [] [(a, .inr (12, [.null, .int (0 : Int32), .int 0, .int 0])), (b, .inr (11, [.ref v, .int 0, .int 0, .int (nI n)])), (v, .inl (cB, m, .inl f)), (v1, .inl (cB, n, .inl f1))] (va_A [(a, .inr (12, [.null, .int 0, .int 0, .int 0])), (b, .inr (11, [.ref v, .int 0, .int 0, .int (nI n)])), (v, .inl (cB, m, .inl f))] s.heap.size) s H locs := hw
  refine va_putF (ty := (.array .byte)) hx hb ht in_12 tyJ0 tyJ0_ok nmJ0 hown hK hw.1 hw.2.1 hw.2.2.1 0 rfl cl_12 0 (by decide) (ht _ q_1147) (fun _ h => h) rfl hin rfl (by decide +kernel) rfl rfl (Nat.le_of_ble_eq_true rfl) dJ0_init_db425_35 (fun H locs hP hD hS => ?_)
  have hw : MW D [] [(a, .inr (12, [.ref v1, .int (0 : Int32), .int 0, .int 0])), (b, .inr (11, [.ref v, .int 0, .int 0, .int (nI n)])), (v, .inl (cB, m, .inl f)), (v1, .inl (cB, n, .inl f1))] (va_A [(a, .inr (12, [.null, .int 0, .int 0, .int 0])), (b, .inr (11, [.ref v, .int 0, .int 0, .int (nI n)])), (v, .inl (cB, m, .inl f))] s.heap.size) s H locs := ⟨hP, hD, hS, hw.2.2.2⟩
  refine lv_goto (tgt := 97) hx hb dJ0_init_db425_38 (by decide) ?_
  exact hret H locs ls 97 _ _ (v1, f1) hw hp11 (show 0 + 0 + 0 + 0 + 1 ≤ 1 by omega) (show 0 + 0 + 0 + 0 + n ≤ n by omega) dJ0_init_db425_97

set_option maxHeartbeats 4000000 in
set_option maxRecDepth 100000 in
theorem c_J0_init_81219 {l : Launch} {D : va_G} {cB : ClassId} (a b v m n : Nat) (f : Nat → Int32)(sz : Nat) (hnm : n ≤ m) (hm : m ≤ 100000) (hf : FT f) : JMv l yJ0_init_81219 (.code yJ0_init_81219 cJ0_init_81219 2 (Option.none : Option Jvm.ClassFile.FieldType)) 4 1 n [.ref a, .ref b] D cB [(a, .inr (12, [.null, .int 0, .int 0, .int 0])), (b, .inr (11, [.ref v, .int 0, .int 0, .int (nI n)])), (v, .inl (cB, m, .inl f))] [] sz (fun (u : Nat × (Nat → Int32)) => FT u.2) (fun (u : Nat × (Nat → Int32)) => [sC a u.1, bC b v n, bV cB v m f, bV cB u.1 n u.2]) := by
  refine J_metv (by decide +kernel) (Nat.le_of_ble_eq_true rfl) ?_
  intro p e s mI below meth c Z ls hx hb hml hown hin ht hK hC hZ hSL hw hret hl
  have hl : lv_has ls 2 [(0, .ref a), (1, .ref b)] := hl
  suffices hh : ∀ (H : Heap) (locs : List Loc), MW D [] [(a, .inr (12, [.null, .int 0, .int 0, .int 0])), (b, .inr (11, [.ref v, .int 0, .int 0, .int (nI n)])), (v, .inl (cB, m, .inl f))] (va_A [(a, .inr (12, [.null, .int 0, .int 0, .int 0])), (b, .inr (11, [.ref v, .int 0, .int 0, .int (nI n)])), (v, .inl (cB, m, .inl f))] s.heap.size) s H locs → W p l e (RA 4 1 n) s mI #[.ref a, .ref b] below meth c H locs 0 0 Z (F0 mI 0 ls []) from hh _ _ hw
  intro H locs hw
  refine lv_aload_n hx hb dJ0_init_81219_0 rfl (lv_at hl 0 rfl) ?_
  refine lv_aload_n hx hb dJ0_init_81219_1 rfl (lv_at hl 1 rfl) ?_
  refine lv_null hx hb dJ0_init_81219_2 ?_
  refine J_callv (N0 := []) (ws := [(a, .inr (12, [.null, .int 0, .int 0, .int 0])), (b, .inr (11, [.ref v, .int 0, .int 0, .int (nI n)])), (v, .inl (cB, m, .inl f))]) hw (va_runI (own := "java/lang/String") (As := [.ref b, .null]) (rest := []) ⟨hx, hb, hml, hown, ht⟩ (c_J0_init_db425 a b v m n f H.size hnm hm hf) (cwI 2 ht (G_ws q_1064) rfl rfl rfl (ht _ q_68) (ht _ q_1062) (ht _ q_1063) rfl jd_23 ⟨Nat.le_of_ble_eq_true rfl, Nat.le_of_ble_eq_true rfl⟩) ⟨JB.blind, JB.pre (N0 := []) (ws := [(a, .inr (12, [.null, .int 0, .int 0, .int 0])), (b, .inr (11, [.ref v, .int 0, .int 0, .int (nI n)])), (v, .inl (cB, m, .inl f))]) hK hC hZ hw SL0⟩ rfl rfl hl.1 rfl (lv_room (Nat.le_of_ble_eq_true rfl)) dJ0_init_81219_3 ⟨show 0 + 1 ≤ 1 by omega, show 0 + n ≤ n by omega⟩) (fun u1 H locs hp2 hw => ?_)
  obtain ⟨v1, f1⟩ := u1
  have hw : MW D [] [(a, .inr (12, [.ref v1, .int 0, .int 0, .int 0])), (b, .inr (11, [.ref v, .int 0, .int 0, .int (nI n)])), (v, .inl (cB, m, .inl f)), (v1, .inl (cB, n, .inl f1))] (va_A [(a, .inr (12, [.null, .int 0, .int 0, .int 0])), (b, .inr (11, [.ref v, .int 0, .int 0, .int (nI n)])), (v, .inl (cB, m, .inl f))] s.heap.size) s H locs := hw
  exact hret H locs ls 6 _ _ (v1, f1) hw hp2 (show 0 + 1 ≤ 1 by omega) (show 0 + n ≤ n by omega) dJ0_init_81219_6

set_option maxHeartbeats 4000000 in
set_option maxRecDepth 100000 in
theorem c_J4_toString_0e30d {l : Launch} {D : va_G} {cB : ClassId} (b v m n : Nat) (f : Nat → Int32)(sz : Nat) (hnm : n ≤ m) (hm : m ≤ 100000) (hf : FT f) : JMr l yJ4_toString_0e30d (.code yJ4_toString_0e30d cJ4_toString_0e30d 1 (Option.some (Jvm.ClassFile.FieldType.object "java/lang/String"))) 5 2 (n + 4) [.ref b] D cB [(b, .inr (11, [.ref v, .int 0, .int 0, .int (nI n)])), (v, .inl (cB, m, .inl f))] [] sz (fun (u : Nat × Nat × (Nat → Int32)) => FT u.2.2) (fun (u : Nat × Nat × (Nat → Int32)) => u.1) (fun (u : Nat × Nat × (Nat → Int32)) => [sC u.1 u.2.1, bC b v n, bV cB v m f, bV cB u.2.1 n u.2.2]) := by
  refine J_metr (by decide +kernel) (Nat.le_of_ble_eq_true rfl) (Or.inl ⟨_, rfl⟩) ?_
  intro p e s mI below meth c Z ls hx hb hml hown hin ht hK hC hZ hSL hw hret hl
  have hl : lv_has ls 1 [(0, .ref b)] := hl
  suffices hh : ∀ (H : Heap) (locs : List Loc), MW D [] [(b, .inr (11, [.ref v, .int 0, .int 0, .int (nI n)])), (v, .inl (cB, m, .inl f))] (va_A [(b, .inr (11, [.ref v, .int 0, .int 0, .int (nI n)])), (v, .inl (cB, m, .inl f))] s.heap.size) s H locs → W p l e (RA 5 2 (n + 4)) s mI #[.ref b] below meth c H locs 0 0 Z (F0 mI 0 ls []) from hh _ _ hw
  intro H locs hw
  refine va_new (fs := [.null, .int 0, .int 0, .int 0]) hx hb ht in_12 tyJ0 tyJ0_ok hown (ht _ q_1057) (ht _ q_1058) (ht _ q_68) hK hw.1 hw.2.1 hw.2.2.1 hw.2.2.2 cl_12 (fun j hj => by rcases (show j = 0 ∨ j = 1 ∨ j = 2 ∨ j = 3 by omega) with rfl | rfl | rfl | rfl <;> rfl) (show 0 + 1 ≤ 2 by omega) (show 0 + 4 ≤ n + 4 by omega) dJ4_toString_0e30d_0 (fun q1 H hP hD hS => ?_)
  have hw : MW D [] [(b, .inr (11, [.ref v, .int 0, .int 0, .int (nI n)])), (v, .inl (cB, m, .inl f)), (q1, .inr (12, [.null, .int 0, .int 0, .int 0]))] (va_A [(b, .inr (11, [.ref v, .int 0, .int 0, .int (nI n)])), (v, .inl (cB, m, .inl f))] s.heap.size) s H locs := ⟨hP, hD, hS, hw.2.2.2⟩
  refine lv_dup hx hb dJ4_toString_0e30d_3 rfl ?_
  refine lv_aload_n hx hb dJ4_toString_0e30d_4 rfl (lv_at hl 0 rfl) ?_
  have hw := hw.sub (N' := [(q1, .inr (12, [.null, .int 0, .int 0, .int 0])), (b, .inr (11, [.ref v, .int 0, .int 0, .int (nI n)])), (v, .inl (cB, m, .inl f))]) [2, 0, 1] (by decide) rfl
  have hw : MW D [] [(q1, .inr (12, [.null, .int 0, .int 0, .int 0])), (b, .inr (11, [.ref v, .int 0, .int 0, .int (nI n)])), (v, .inl (cB, m, .inl f))] (va_A [(b, .inr (11, [.ref v, .int 0, .int 0, .int (nI n)])), (v, .inl (cB, m, .inl f))] s.heap.size) s H locs := hw
  refine J_callv (N0 := []) (ws := [(q1, .inr (12, [.null, .int 0, .int 0, .int 0])), (b, .inr (11, [.ref v, .int 0, .int 0, .int (nI n)])), (v, .inl (cB, m, .inl f))]) hw (va_runI (own := "java/lang/StringBuilder") (As := [.ref b]) (rest := [.ref q1]) ⟨hx, hb, hml, hown, ht⟩ (c_J0_init_81219 q1 b v m n f H.size hnm hm hf) (cwI 1 ht (G_ws q_1061) rfl rfl rfl (ht _ q_68) (ht _ q_1059) (ht _ q_1060) rfl jd_24 ⟨Nat.le_of_ble_eq_true rfl, Nat.le_of_ble_eq_true rfl⟩) ⟨JB.blind, JB.pre (N0 := []) (ws := [(q1, .inr (12, [.null, .int 0, .int 0, .int 0])), (b, .inr (11, [.ref v, .int 0, .int 0, .int (nI n)])), (v, .inl (cB, m, .inl f))]) hK hC hZ hw SL0⟩ rfl rfl hl.1 rfl (lv_room (Nat.le_of_ble_eq_true rfl)) dJ4_toString_0e30d_5 ⟨show 0 + 1 + 1 ≤ 2 by omega, show 0 + 4 + n ≤ n + 4 by omega⟩) (fun u2 H locs hp3 hw => ?_)
  obtain ⟨v1, f1⟩ := u2
  have hw : MW D [] [(q1, .inr (12, [.ref v1, .int 0, .int 0, .int 0])), (b, .inr (11, [.ref v, .int 0, .int 0, .int (nI n)])), (v, .inl (cB, m, .inl f)), (v1, .inl (cB, n, .inl f1))] (va_A [(b, .inr (11, [.ref v, .int 0, .int 0, .int (nI n)])), (v, .inl (cB, m, .inl f))] s.heap.size) s H locs := hw
  exact hret H locs ls 8 _ _ (q1, v1, f1) q1 hw hp3 rfl (show 0 + 1 + 1 ≤ 2 by omega) (show 0 + 4 + n ≤ n + 4 by omega) dJ4_toString_0e30d_8

set_option maxHeartbeats 4000000 in
set_option maxRecDepth 100000 in
theorem c_J5_init_d00df {l : Launch} {D : va_G} {cB : ClassId} (b : Nat)(sz : Nat)  : JMv l yJ5_init_d00df (.code yJ5_init_d00df cJ5_init_d00df 2 (Option.none : Option Jvm.ClassFile.FieldType)) 1 1 16 [.ref b, .int (16 : Int32)] D cB [(b, .inr (11, [.null, .int 0, .int 0, .int 0]))] [] sz (fun (u : Nat) => True) (fun (u : Nat) => [bC b u 0, bV cB u 16 (fun _ => 0)]) := by
  refine J_metv (by decide +kernel) (Nat.le_of_ble_eq_true rfl) ?_
  intro p e s mI below meth c Z ls hx hb hml hown hin ht hK hC hZ hSL hw hret hl
  have hl : lv_has ls 2 [(0, .ref b), (1, .int (16 : Int32))] := hl
  suffices hh : ∀ (H : Heap) (locs : List Loc), MW D [] [(b, .inr (11, [.null, .int 0, .int 0, .int 0]))] (va_A [(b, .inr (11, [.null, .int 0, .int 0, .int 0]))] s.heap.size) s H locs → W p l e (RA 1 1 16) s mI #[.ref b, .int (16 : Int32)] below meth c H locs 0 0 Z (F0 mI 0 ls []) from hh _ _ hw
  intro H locs hw
  refine lv_aload_n hx hb dJ5_init_d00df_0 rfl (lv_at hl 0 rfl) ?_
  refine W.objInit hx hb hown (ht _ q_900) (ht _ q_82) (ht _ q_83) rfl (by rw [hml]; exact hl.1) rfl dJ5_init_d00df_1 (Nat.le_of_ble_eq_true rfl) (Nat.le_of_ble_eq_true rfl) ?_
  refine W.eq (g2 := F0 mI 4 ls []) rfl ?_
  refine va_gets hx hb hZ.1 hw.2.2.1 hown (ht _ q_901) (fun _ h => h) dJ5_init_d00df_4 ?_
  refine lv_if_eq (tgt := 25) hx hb dJ5_init_d00df_7 (by decide) (fun c9 => absurd c9 (by decide)) (fun c9 => ?_)
  refine lv_aload_n hx hb dJ5_init_d00df_10 rfl (lv_at hl 0 rfl) ?_
  refine lv_iload_n hx hb dJ5_init_d00df_11 rfl (lv_at hl 1 rfl) ?_
  refine n_newB (B := 16) hx hb ht q_385 hK hw (n := (16 : Int32)) (⟨by decide, by decide⟩) (by omega) (show 0 + 1 ≤ 1 by omega) (show 0 + 16 ≤ 16 by omega) dJ5_init_d00df_12 (fun q1 H hq1 hw => ?_)
  have hw : MW D [] [(b, .inr (11, [.null, .int 0, .int 0, .int 0])), (q1, .inl (cB, 16, .inl (fun _ => 0)))] (va_A [(b, .inr (11, [.null, .int 0, .int 0, .int 0]))] s.heap.size) s H locs := hw
  refine va_put (ty := (.array .byte)) hx hb ht in_11 tyJ4 tyJ4_ok nmJ4 hown hK hw.1 hw.2.1 hw.2.2.1 0 rfl cl_11 0 (by decide) (ht _ q_910) (fun _ h => h) rfl (by decide +kernel) rfl rfl (Nat.le_of_ble_eq_true rfl) dJ5_init_d00df_14 (fun H locs hP hD hS => ?_)
  have hw : MW D [] [(b, .inr (11, [.ref q1, .int 0, .int 0, .int 0])), (q1, .inl (cB, 16, .inl (fun _ => 0)))] (va_A [(b, .inr (11, [.null, .int 0, .int 0, .int 0]))] s.heap.size) s H locs := ⟨hP, hD, hS, hw.2.2.2⟩
  refine lv_aload_n hx hb dJ5_init_d00df_17 rfl (lv_at hl 0 rfl) ?_
  refine lv_iconst (v := (0 : Int32)) hx hb dJ5_init_d00df_18 (by decide) ?_
  refine va_put (ty := .byte) hx hb ht in_11 tyJ4 tyJ4_ok nmJ4 hown hK hw.1 hw.2.1 hw.2.2.1 0 rfl cl_11 1 (by decide) (ht _ q_911) (fun _ h => h) rfl (by decide +kernel) rfl rfl (Nat.le_of_ble_eq_true rfl) dJ5_init_d00df_19 (fun H locs hP hD hS => ?_)
  have hw : MW D [] [(b, .inr (11, [.ref q1, .int (0 : Int32), .int 0, .int 0])), (q1, .inl (cB, 16, .inl (fun _ => 0)))] (va_A [(b, .inr (11, [.null, .int 0, .int 0, .int 0]))] s.heap.size) s H locs := ⟨hP, hD, hS, hw.2.2.2⟩
  refine lv_goto (tgt := 38) hx hb dJ5_init_d00df_22 (by decide) ?_
  exact hret H locs ls 38 _ _ q1 hw trivial (show 0 + 1 ≤ 1 by omega) (show 0 + 16 ≤ 16 by omega) dJ5_init_d00df_38

set_option maxHeartbeats 4000000 in
set_option maxRecDepth 100000 in
theorem c_J4_init_da8c8 {l : Launch} {D : va_G} {cB : ClassId} (b : Nat)(sz : Nat)  : JMv l yJ4_init_da8c8 (.code yJ4_init_da8c8 cJ4_init_da8c8 1 (Option.none : Option Jvm.ClassFile.FieldType)) 2 1 16 [.ref b] D cB [(b, .inr (11, [.null, .int 0, .int 0, .int 0]))] [] sz (fun (u : Nat) => True) (fun (u : Nat) => [bC b u 0, bV cB u 16 (fun _ => 0)]) := by
  refine J_metv (by decide +kernel) (Nat.le_of_ble_eq_true rfl) ?_
  intro p e s mI below meth c Z ls hx hb hml hown hin ht hK hC hZ hSL hw hret hl
  have hl : lv_has ls 1 [(0, .ref b)] := hl
  suffices hh : ∀ (H : Heap) (locs : List Loc), MW D [] [(b, .inr (11, [.null, .int 0, .int 0, .int 0]))] (va_A [(b, .inr (11, [.null, .int 0, .int 0, .int 0]))] s.heap.size) s H locs → W p l e (RA 2 1 16) s mI #[.ref b] below meth c H locs 0 0 Z (F0 mI 0 ls []) from hh _ _ hw
  intro H locs hw
  refine lv_aload_n hx hb dJ4_init_da8c8_0 rfl (lv_at hl 0 rfl) ?_
  refine lv_bipush (v := (16 : Int32)) hx hb dJ4_init_da8c8_1 (by decide) ?_
  refine J_callv (N0 := []) (ws := [(b, .inr (11, [.null, .int 0, .int 0, .int 0]))]) hw (va_runI (own := "java/lang/StringBuilder") (As := [.int (16 : Int32)]) (rest := []) ⟨hx, hb, hml, hown, ht⟩ (c_J5_init_d00df b H.size) (cwI 1 ht (G_ws q_899) rfl rfl rfl (ht _ q_66) (ht _ q_897) (ht _ q_898) rfl jd_25 ⟨Nat.le_of_ble_eq_true rfl, Nat.le_of_ble_eq_true rfl⟩) ⟨JB.blind, JB.pre (N0 := []) (ws := [(b, .inr (11, [.null, .int 0, .int 0, .int 0]))]) hK hC hZ hw SL0⟩ rfl rfl hl.1 rfl (lv_room (Nat.le_of_ble_eq_true rfl)) dJ4_init_da8c8_3 ⟨show 0 + 1 ≤ 1 by omega, show 0 + 16 ≤ 16 by omega⟩) (fun u1 H locs hp2 hw => ?_)
  have hw : MW D [] [(b, .inr (11, [.ref u1, .int 0, .int 0, .int (nI 0)])), (u1, .inl (cB, 16, .inl (fun _ => 0)))] (va_A [(b, .inr (11, [.null, .int 0, .int 0, .int 0]))] s.heap.size) s H locs := hw
  exact hret H locs ls 6 _ _ u1 hw trivial (show 0 + 1 ≤ 1 by omega) (show 0 + 16 ≤ 16 by omega) dJ4_init_da8c8_6
end
