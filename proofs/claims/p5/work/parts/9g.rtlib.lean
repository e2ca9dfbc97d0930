section MSL
def SM4 : List (Nat × String) := [(163, ""), (168, " "), (180, "*"), (199, ".")]
/-- the reference's four text constants -/
def TXS (A : Nat → Prop) (U : State) (H : Heap) : Prop := ∀ x ∈ SM4, ∃ sa b w : Nat, w ≤ 1 ∧ vk_R "LeastreaderModel" x.1 x.2 sa U ∧ SO sa b w A U H
theorem TXS.same {A : Nat → Prop} {u U : State} {H : Heap} (e : U.vm = u.vm) (h : TXS A u H) : TXS A U H := fun x hx => by
  obtain ⟨sa, b, w, h1, h2, h3⟩ := h x hx
  exact ⟨sa, b, w, h1, h2.same e, h3.moved (by rw [e]; exact Vm.Alike.refl _)⟩
theorem TXS.pass {A B : Nat → Prop} {s U : State} {H : Heap} {locs : List Loc} (h : TXS A s s.heap) (hS : va_S A s.heap H locs) (hAB : ∀ q, B q → A q) (hW : s.WarmedH U.vm) : TXS B U H := fun x hx => by
  obtain ⟨sa, b, w, h1, h2, h3⟩ := h x hx
  exact ⟨sa, b, w, h1, h2.warm hW, ((h3.kept hS.2.1).moved hW.alike).narrow hAB⟩
def MBS (D : va_G) (ad : Nat → Nat) (cI cL cB : ClassId) (sz : Nat) (μ : TMem) : State → Prop := fun U => MB D ad cI cL sz μ [] U ∧ JK D cB U ∧ CN U ∧ ZS (MA ad sz) U U.heap ∧ TXS (MA ad sz) U U.heap
/-- a method of the reference's that makes a text -/
def MS (l : Launch) (y : MethodName) (cd : Cond) (h c n : Nat) (as : List Value) (D : va_G) (ad : Nat → Nat) (cI cL cB : ClassId) (sz : Nat) (μ : TMem) : Prop := Met l y (cd :: W0) (RA h c n) (va_Pc as (MBS D ad cI cL cB sz μ)) (va_Qr (fun μ1 : TMem => FA μ μ1) (fun μ1 _ t => ME D ad cI μ1 t) (MA ad sz)) c n (MA ad sz)
variable {p : Program} {l : Launch} {e : Env} {R : Room} {s : State} {m : MethodId} {args : Array Value} {below : List Frame} {meth : Method} {c : Code} {H : Heap} {locs : List Loc} {cells slots : Nat} {Q : State → Prop}
variable {cc : ByteArray} {pc : Nat} {ls : Array Slot} {rest : List Value} {D : va_G} {ad : Nat → Nat} {cI cL cB : ClassId} {μ : TMem} {N N0 RG ws : va_W} {A : Nat → Prop}
theorem MBS.blind {as : List Value} {sz : Nat} : FrameBlind (va_Pc as (MBS D ad cI cL cB sz μ)) := fun z U g mk q => by
  obtain ⟨q0, q1, q2, q3, q4, q5⟩ := q
  exact ⟨q0, (MB.blind z U g mk ⟨q0, q1⟩).2, va_K.moved (u := U) (U := U.calling g mk z) (Vm.Alike.refl U.vm) q2, CN.same (u := U) rfl q3, ZS.moved (u := U) (U := U.calling g mk z) (Vm.Alike.refl U.vm) q4, TXS.same (u := U) rfl q5⟩
theorem MBS.pre {as : List Value} (hM : MK D cI cL s) (hI : MI ad) (hK : JK D cB s) (hC : CN s) (hZ : ZS A s s.heap) (hX : TXS A s s.heap) (hw : MW D (MR ad cI μ) N A s H locs) (hA : ∀ q, MA ad H.size q → A q) : ∀ U : State, U.heap = H → s.WarmedH U.vm → va_Pc as (MBS D ad cI cL cB H.size μ) as.toArray U := fun U hU hW => by
  refine ⟨rfl, (MB.pre (as := as) hM hI hw va_P0 ne0 U hU hW).2, va_K.moved hW.alike hK, hC.warm hW, ?_, ?_⟩
  · rw [hU]
    exact ((hZ.kept hw.2.2.1.2.1).moved hW.alike).narrow hA
  · rw [hU]
    exact hX.pass hw.2.2.1 hA hW
theorem MS_met {l : Launch} {y : MethodName} {bytes : ByteArray} {maxL : Nat} {cn : String} {h fc fn : Nat} {as : List Value} {D : va_G} {cI cL cB : ClassId} {sz : Nat} {ad : Nat → Nat} {μ : TMem} (hy : plainName y.cls = true) (hsl : (lg_sl as).length ≤ maxL)
    (body : ∀ (p : Program) (e : Env) (s : State) (m : MethodId) (below : List Frame) (meth : Method) (c : Code) (Z : State → Prop) (ls : Array Slot), p.tables.exec = Jvm.exec → c.code = bytes → c.maxLocals = maxL → s.vm.findClass y.cls = some m.cls → (∀ w ∈ W0, w.before as.toArray s = true) → MK D cI cL s → MI ad → JK D cB s → CN s → ZS (MA ad s.heap.size) s s.heap → TXS (MA ad s.heap.size) s s.heap → MW D (MR ad cI μ) [] (MA ad s.heap.size) s s.heap [] → (∀ (H : Heap) (locs : List Loc) (ls : Array Slot) (pc cells slots : Nat) (N : va_W) (a : Nat) (μ1 : TMem) , MW D (MR ad cI μ1) N (MA ad s.heap.size) s H locs → FA μ μ1 → cells ≤ fc → slots ≤ fn → decode bytes pc = .ok (.areturn, 1) → W p l e (RA h fc fn) s m as.toArray below meth c H locs cells slots Z (F0 m pc ls [.ref a])) → lv_has ls maxL (lv_args 0 as) →
      W p l e (RA h fc fn) s m as.toArray below meth c s.heap [] 0 0 Z (F0 m 0 ls [])) : MS l y (.code y bytes maxL (some (.object cn))) h fc fn as D ad cI cL cB sz μ := by
  refine Met.ofW (cc := bytes) (maxL := maxL) (ret := (some (.object cn))) hy rfl ?_
  intro p e s m args below meth c s₁ B hml hv
  obtain ⟨rfl, ⟨hsz, hP, hP0, hK, hI, hne⟩, hJ, hC, hZ, hX⟩ := hv
  subst hsz
  have hts := atoms_spec B.pre
  have hlocks := B.notSynchronized
  rw [lg_entry_eq]
  exact body p e s m below meth c _ _ B.exec B.bytes hml (findClass_of_methodNamed B.named) (fun w hw => hts w (List.mem_cons_of_mem _ hw)) hK hI hJ hC hZ hX ⟨by rw [List.append_nil]; exact hP, by rw [List.append_nil]; exact ⟨fun i j x y hx hy e => by obtain ⟨h1, rfl⟩ := MR_of hx; obtain ⟨h2, rfl⟩ := MR_of hy; exact hI i j h1 h2 e, fun k x hx => by obtain ⟨h1, rfl⟩ := MR_of hx; exact Or.inl ⟨k, h1, rfl⟩⟩, va_S.rf, fun q h => Or.inr h⟩ (fun H locs ls pc cells slots N a μ1 hw hq hc hs hdg => W.widen hc hs (W.aret B.exec B.bytes B.returns (Or.inl ⟨_, rfl⟩) (Or.inr ⟨_, rfl⟩) (fun t ht9 hW => ⟨⟨μ1, a, rfl, hq, by show va_P D CL (MR ad cI μ1) t.heap; rw [ht9]; exact fun k q hk => hw.1 k q (by rw [List.getElem?_append_left (List.getElem?_eq_some_iff.mp hk).1]; exact hk)⟩, hw.2.2.1.F ht9⟩) hw.2.2.1.2.2 hdg hlocks)) (lv_entry as hsl)
/-- a text that was made here is a text -/
theorem SO.ofN {a v w j1 j2 : Nat} {f : Nat → Int32} (ht : ∀ w ∈ W0, w.before args s = true) (hK : JK D cB s) (hw : MW D RG (N0 ++ ws) A s H locs) (e1 : N0[j1]? = some (sC a v)) (e2 : N0[j2]? = some (bV cB v w f)) (hf : FT f) (hw9 : w < 2147483648) : ∀ U : State, U.heap = H → s.WarmedH U.vm → SO a v w (va_A ws H.size) U H := fun U hU hW => by
  have l1 := (List.getElem?_eq_some_iff.mp e1).1
  have l2 := (List.getElem?_eq_some_iff.mp e2).1
  have f1 : (N0 ++ ws)[j1]? = some (sC a v) := by rw [List.getElem?_append_left l1]; exact e1
  have f2 : (N0 ++ ws)[j2]? = some (bV cB v w f) := by rw [List.getElem?_append_left l2]; exact e2
  have g1 := hw.n f1
  have g2 := hw.n f2
  have out : ∀ (j : Nat) (x : Nat × va_E), j < N0.length → (N0 ++ ws)[j]? = some x → ¬ va_A ws H.size x.1 := fun j x hj hx z => by
    have hlt := (hw.n hx).lt
    rcases z with ⟨k, e, hk⟩ | z
    · have hk' : (N0 ++ ws)[N0.length + k]? = some (x.1, e) := by
        rw [List.getElem?_append_right (Nat.le_add_right _ _), Nat.add_sub_cancel_left]
        exact hk
      have := hw.2.1.1 _ _ _ _ (NAT (RG := RG) hx) (NAT (RG := RG) hk') rfl
      omega
    · exact absurd hlt (Nat.not_lt.mpr z)
  obtain ⟨r, h1, cell, q1, q2, q3, q4⟩ := g1
  have hr : r = (RJ0, TJ0, 4) := Option.some.inj (h1.symm.trans cl_12)
  subst hr
  obtain ⟨hS, hfc, kC, hkC, hkind⟩ := hK.1 12 _ cl_12
  have fld : ∀ (k : Nat) (hk : k < 4) (x : Value), vp_V [.ref v, .int 0, .int 0, .int 0] k = x → va_OF (TJ0 k).1 (TJ0 k).2.1 (TJ0 k).2.2.1 x a (va_A ws H.size) s H := fun k hk x hx => by
    obtain ⟨cf, kf, fi, fd, hi, hsl⟩ := hS k hk
    exact ⟨cf, kf, fi, fd, cell, hi, (u_facts hfc hkC (u_lays ht in_12 hk) hi).1, q1, by rw [q3]; exact fun h => (by cases h), by rw [hsl, q4 k hk]; exact congrArg some hx, out j1 _ l1 f1⟩
  have hO : va_O "java/lang/String" a (va_A ws H.size) s H := ⟨cell, q1, by rw [q3]; rfl, by rw [q2]; exact hfc, out j1 _ l1 f1⟩
  have hT : va_T .byte v w (fun j => .int (f j)) (va_A ws H.size) s H := by
    refine ⟨_, g2, ?_, ?_, ?_, ?_, ?_, out j2 _ l2 f2⟩
    · exact (hK.2 0 _ rfl).1 w (fun j => .int (f j))
    · intro h; cases h
    · exact Nat.le_of_eq (by rw [vp_cell_i, arrV_size])
    · rw [vp_cell_i, arrV_size]
    · intro j hj
      rw [vp_cell_i]
      simp [arrV, hj]
  exact SO.moved hW.alike (show SO a v w (va_A ws H.size) s H from ⟨hO, fld 1 (by decide) _ rfl, fld 0 (by decide) _ rfl, f, hf, hT⟩)
end MSL
