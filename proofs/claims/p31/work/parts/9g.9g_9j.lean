/-! part 9g.rtlib -/
section
section MSL
def SM4 : List (Nat × String) := [(163, ""), (168, " "), (180, "*"), (199, ".")]
/-- the reference's four text constants -/
def TXS (A : Nat → Prop) (U : State) (H : Heap) : Prop := ∀ x ∈ SM4, ∃ sa b w : Nat, w ≤ 1 ∧ vk_R "LeastreaderModel" x.1 x.2 sa U ∧ SO sa b w A U H
theorem TXS.same {A : Nat → Prop} {u U : State} {H : Heap} (e : U.vm = u.vm) (h : TXS A u H) : TXS A U H := fun x hx => by
  obtain ⟨sa, b, w, h1, h2, h3⟩ := h x hx
  exact ⟨sa, b, w, h1, h2.same e, h3.moved (by rw [e]; exact Vm.Alike.refl _)⟩
theorem TXS.pass {A B : Nat → Prop} {s U : State} {H : Heap} {locs : List Loc} (h : TXS A s s.heap) (hS : va_S A s.heap H locs) (hAB : ∀ q, B q → A q) (hW : s.WarmedH U.vm) : TXS B U H := fun x hx => by
  obtain ⟨sa, b, w, h1, h2, h3⟩ := h x hx
  exact ⟨sa, b, w, h1, h2.warm hW, ((h3.kept hS.2.1).moved hW.alike).narrow hAB⟩
def MBS (D : va_G) (ad : Nat → Nat) (cI cL cB : ClassId) (sz : Nat) (μ : TMem) : State → Prop := fun U => MB D ad cI cL sz μ [] U ∧ JK D cB U ∧ CN U ∧ ZS (MA ad sz) U U.heap ∧ TXS (MA ad sz) U U.heap
/-- a method of the reference's that makes a text -/
def MS (l : Launch) (y : MethodName) (cd : Cond) (h c n : Nat) (as : List Value) (D : va_G) (ad : Nat → Nat) (cI cL cB : ClassId) (sz : Nat) (μ : TMem) : Prop := Met l y (cd :: W0) (RA h c n) (va_Pc as (MBS D ad cI cL cB sz μ)) (va_Qr (fun μ1 : TMem => FA μ μ1) (fun μ1 _ t => ME D ad cI μ1 t) (MA ad sz)) c n (MA ad sz)
variable {p : Program} {l : Launch} {e : Env} {R : Room} {s : State} {m : MethodId} {args : Array Value} {below : List Frame} {meth : Method} {c : Code} {H : Heap} {locs : List Loc} {cells slots : Nat} {Q : State → Prop}
variable {cc : ByteArray} {pc : Nat} {ls : Array Slot} {rest : List Value} {D : va_G} {ad : Nat → Nat} {cI cL cB : ClassId} {μ : TMem} {N N0 RG ws : va_W} {A : Nat → Prop}
theorem MBS.blind {as : List Value} {sz : Nat} : FrameBlind (va_Pc as (MBS D ad cI cL cB sz μ)) := fun z U g mk q => by
  obtain ⟨q0, q1, q2, q3, q4, q5⟩ := q
  exact ⟨q0, (MB.blind z U g mk ⟨q0, q1⟩).2, va_K.moved (u := U) (U := U.calling g mk z) (Vm.Alike.refl U.vm) q2, CN.same (u := U) rfl q3, ZS.moved (u := U) (U := U.calling g mk z) (Vm.Alike.refl U.vm) q4, TXS.same (u := U) rfl q5⟩
theorem MBS.pre {as : List Value} (hM : MK D cI cL s) (hI : MI ad) (hK : JK D cB s) (hC : CN s) (hZ : ZS A s s.heap) (hX : TXS A s s.heap) (hw : MW D (MR ad cI μ) N A s H locs) (hA : ∀ q, MA ad H.size q → A q) : ∀ U : State, U.heap = H → s.WarmedH U.vm → va_Pc as (MBS D ad cI cL cB H.size μ) as.toArray U := fun U hU hW => by
  refine ⟨rfl, (MB.pre (as := as) hM hI hw va_P0 ne0 U hU hW).2, va_K.moved hW.alike hK, hC.warm hW, ?_, ?_⟩
  · rw [hU]
    exact ((hZ.kept hw.2.2.1.2.1).moved hW.alike).narrow hA
  · rw [hU]
    exact hX.pass hw.2.2.1 hA hW
theorem MS_met {l : Launch} {y : MethodName} {bytes : ByteArray} {maxL : Nat} {cn : String} {h fc fn : Nat} {as : List Value} {D : va_G} {cI cL cB : ClassId} {sz : Nat} {ad : Nat → Nat} {μ : TMem} (hy : plainName y.cls = true) (hsl : (lg_sl as).length ≤ maxL)
    (body : ∀ (p : Program) (e : Env) (s : State) (m : MethodId) (below : List Frame) (meth : Method) (c : Code) (Z : State → Prop) (ls : Array Slot), p.tables.exec = Jvm.exec → c.code = bytes → c.maxLocals = maxL → s.vm.findClass y.cls = some m.cls → (∀ w ∈ W0, w.before as.toArray s = true) → MK D cI cL s → MI ad → JK D cB s → CN s → ZS (MA ad s.heap.size) s s.heap → TXS (MA ad s.heap.size) s s.heap → MW D (MR ad cI μ) [] (MA ad s.heap.size) s s.heap [] → (∀ (H : Heap) (locs : List Loc) (ls : Array Slot) (pc cells slots : Nat) (N : va_W) (a : Nat) (μ1 : TMem) , MW D (MR ad cI μ1) N (MA ad s.heap.size) s H locs → FA μ μ1 → cells ≤ fc → slots ≤ fn → decode bytes pc = .ok (.areturn, 1) → W p l e (RA h fc fn) s m as.toArray below meth c H locs cells slots Z (F0 m pc ls [.ref a])) → lv_has ls maxL (lv_args 0 as) →
      W p l e (RA h fc fn) s m as.toArray below meth c s.heap [] 0 0 Z (F0 m 0 ls [])) : MS l y (.code y bytes maxL (some (.object cn))) h fc fn as D ad cI cL cB sz μ := by
  refine Met.ofW (cc := bytes) (maxL := maxL) (ret := (some (.object cn))) hy rfl ?_
  intro p e s m args below meth c s₁ B hml hv
  obtain ⟨rfl, ⟨hsz, hP, hP0, hK, hI, hne⟩, hJ, hC, hZ, hX⟩ := hv
  subst hsz
  have hts := atoms_spec B.pre
  have hlocks := B.notSynchronized
  rw [lg_entry_eq]
  exact body p e s m below meth c _ _ B.exec B.bytes hml (findClass_of_methodNamed B.named) (fun w hw => hts w (List.mem_cons_of_mem _ hw)) hK hI hJ hC hZ hX ⟨by rw [List.append_nil]; exact hP, by rw [List.append_nil]; exact ⟨fun i j x y hx hy e => by obtain ⟨h1, rfl⟩ := MR_of hx; obtain ⟨h2, rfl⟩ := MR_of hy; exact hI i j h1 h2 e, fun k x hx => by obtain ⟨h1, rfl⟩ := MR_of hx; exact Or.inl ⟨k, h1, rfl⟩⟩, va_S.rf, fun q h => Or.inr h⟩ (fun H locs ls pc cells slots N a μ1 hw hq hc hs hdg => W.widen hc hs (W.aret B.exec B.bytes B.returns (Or.inl ⟨_, rfl⟩) (Or.inr ⟨_, rfl⟩) (fun t ht9 hW => ⟨⟨μ1, a, rfl, hq, by show va_P D CL (MR ad cI μ1) t.heap; rw [ht9]; exact fun k q hk => hw.1 k q (by rw [List.getElem?_append_left (List.getElem?_eq_some_iff.mp hk).1]; exact hk)⟩, hw.2.2.1.F ht9⟩) hw.2.2.1.2.2 hdg hlocks)) (lv_entry as hsl)
/-- a text that was made here is a text -/
theorem SO.ofN {a v w j1 j2 : Nat} {f : Nat → Int32} (ht : ∀ w ∈ W0, w.before args s = true) (hK : JK D cB s) (hw : MW D RG (N0 ++ ws) A s H locs) (e1 : N0[j1]? = some (sC a v)) (e2 : N0[j2]? = some (bV cB v w f)) (hf : FT f) (hw9 : w < 2147483648) : ∀ U : State, U.heap = H → s.WarmedH U.vm → SO a v w (va_A ws H.size) U H := fun U hU hW => by
  have l1 := (List.getElem?_eq_some_iff.mp e1).1
  have l2 := (List.getElem?_eq_some_iff.mp e2).1
  have f1 : (N0 ++ ws)[j1]? = some (sC a v) := by rw [List.getElem?_append_left l1]; exact e1
  have f2 : (N0 ++ ws)[j2]? = some (bV cB v w f) := by rw [List.getElem?_append_left l2]; exact e2
  have g1 := hw.n f1
  have g2 := hw.n f2
  have out : ∀ (j : Nat) (x : Nat × va_E), j < N0.length → (N0 ++ ws)[j]? = some x → ¬ va_A ws H.size x.1 := fun j x hj hx z => by
    have hlt := (hw.n hx).lt
    rcases z with ⟨k, e, hk⟩ | z
    · have hk' : (N0 ++ ws)[N0.length + k]? = some (x.1, e) := by
        rw [List.getElem?_append_right (Nat.le_add_right _ _), Nat.add_sub_cancel_left]
        exact hk
      have := hw.2.1.1 _ _ _ _ (NAT (RG := RG) hx) (NAT (RG := RG) hk') rfl
      omega
    · exact absurd hlt (Nat.not_lt.mpr z)
  obtain ⟨r, h1, cell, q1, q2, q3, q4⟩ := g1
  have hr : r = (RJ0, TJ0, 4) := Option.some.inj (h1.symm.trans cl_12)
  subst hr
  obtain ⟨hS, hfc, kC, hkC, hkind⟩ := hK.1 12 _ cl_12
  have fld : ∀ (k : Nat) (hk : k < 4) (x : Value), vp_V [.ref v, .int 0, .int 0, .int 0] k = x → va_OF (TJ0 k).1 (TJ0 k).2.1 (TJ0 k).2.2.1 x a (va_A ws H.size) s H := fun k hk x hx => by
    obtain ⟨cf, kf, fi, fd, hi, hsl⟩ := hS k hk
    exact ⟨cf, kf, fi, fd, cell, hi, (u_facts hfc hkC (u_lays ht in_12 hk) hi).1, q1, by rw [q3]; exact fun h => (by cases h), by rw [hsl, q4 k hk]; exact congrArg some hx, out j1 _ l1 f1⟩
  have hO : va_O "java/lang/String" a (va_A ws H.size) s H := ⟨cell, q1, by rw [q3]; rfl, by rw [q2]; exact hfc, out j1 _ l1 f1⟩
  have hT : va_T .byte v w (fun j => .int (f j)) (va_A ws H.size) s H := by
    refine ⟨_, g2, ?_, ?_, ?_, ?_, ?_, out j2 _ l2 f2⟩
    · exact (hK.2 0 _ rfl).1 w (fun j => .int (f j))
    · intro h; cases h
    · exact Nat.le_of_eq (by rw [vp_cell_i, arrV_size])
    · rw [vp_cell_i, arrV_size]
    · intro j hj
      rw [vp_cell_i]
      simp [arrV, hj]
  exact SO.moved hW.alike (show SO a v w (va_A ws H.size) s H from ⟨hO, fld 1 (by decide) _ rfl, fld 0 (by decide) _ rfl, f, hf, hT⟩)
end MSL
end
/-! part 9h.rtx -/
section
set_option maxRecDepth 100000 in
theorem db_cX11_text_dX11_text_0_0 : zw [(0, .aload_n 0, 1), (1, .iload_n 1, 1), (2, .invokestatic 93, 3), (5, .iload_n 2, 1), (6, .iconst 0, 1), (7, .iconst 3, 1), (8, .invokestatic 26, 3), (11, .invokevirtual 97, 3), (14, .ifCond .eq 6, 3), (17, .ldc 163, 2), (19, .areturn, 1), (20, .aload_n 0, 1), (21, .iload_n 1, 1), (22, .iload_n 2, 1), (23, .invokevirtual 138, 3), (26, .astore_n 3, 1)] (cX11_text.data.toList.drop 0) 0 = true := by decide +kernel
def dc_cX11_text_dX11_text_0_0 := zw_16 db_cX11_text_dX11_text_0_0
def dX11_text_0 := dc_cX11_text_dX11_text_0_0.1
def dX11_text_1 := dc_cX11_text_dX11_text_0_0.2.1
def dX11_text_2 := dc_cX11_text_dX11_text_0_0.2.2.1
def dX11_text_5 := dc_cX11_text_dX11_text_0_0.2.2.2.1
def dX11_text_6 := dc_cX11_text_dX11_text_0_0.2.2.2.2.1
def dX11_text_7 := dc_cX11_text_dX11_text_0_0.2.2.2.2.2.1
def dX11_text_8 := dc_cX11_text_dX11_text_0_0.2.2.2.2.2.2.1
def dX11_text_11 := dc_cX11_text_dX11_text_0_0.2.2.2.2.2.2.2.1
def dX11_text_14 := dc_cX11_text_dX11_text_0_0.2.2.2.2.2.2.2.2.1
def dX11_text_17 := dc_cX11_text_dX11_text_0_0.2.2.2.2.2.2.2.2.2.1
def dX11_text_19 := dc_cX11_text_dX11_text_0_0.2.2.2.2.2.2.2.2.2.2.1
def dX11_text_20 := dc_cX11_text_dX11_text_0_0.2.2.2.2.2.2.2.2.2.2.2.1
def dX11_text_21 := dc_cX11_text_dX11_text_0_0.2.2.2.2.2.2.2.2.2.2.2.2.1
def dX11_text_22 := dc_cX11_text_dX11_text_0_0.2.2.2.2.2.2.2.2.2.2.2.2.2.1
def dX11_text_23 := dc_cX11_text_dX11_text_0_0.2.2.2.2.2.2.2.2.2.2.2.2.2.2.1
def dX11_text_26 := dc_cX11_text_dX11_text_0_0.2.2.2.2.2.2.2.2.2.2.2.2.2.2.2
set_option maxRecDepth 100000 in
theorem db_cX11_text_dX11_text_27_1 : zw [(27, .aload_n 0, 1), (28, .aload_n 3, 1), (29, .iconst 3, 1), (30, .invokevirtual 159, 3), (33, .ifCond .eq 6, 3), (36, .ldc 163, 2), (38, .areturn, 1), (39, .new 165, 3), (42, .dup, 1), (43, .invokespecial 167, 3), (46, .astore 4, 2), (48, .iconst 0, 1), (49, .istore 5, 2), (51, .iload 5, 2), (53, .aload_n 3, 1), (54, .arraylength, 1)] (cX11_text.data.toList.drop 27) 27 = true := by decide +kernel
def dc_cX11_text_dX11_text_27_1 := zw_16 db_cX11_text_dX11_text_27_1
def dX11_text_27 := dc_cX11_text_dX11_text_27_1.1
def dX11_text_28 := dc_cX11_text_dX11_text_27_1.2.1
def dX11_text_29 := dc_cX11_text_dX11_text_27_1.2.2.1
def dX11_text_30 := dc_cX11_text_dX11_text_27_1.2.2.2.1
def dX11_text_33 := dc_cX11_text_dX11_text_27_1.2.2.2.2.1
def dX11_text_36 := dc_cX11_text_dX11_text_27_1.2.2.2.2.2.1
def dX11_text_38 := dc_cX11_text_dX11_text_27_1.2.2.2.2.2.2.1
def dX11_text_39 := dc_cX11_text_dX11_text_27_1.2.2.2.2.2.2.2.1
def dX11_text_42 := dc_cX11_text_dX11_text_27_1.2.2.2.2.2.2.2.2.1
def dX11_text_43 := dc_cX11_text_dX11_text_27_1.2.2.2.2.2.2.2.2.2.1
def dX11_text_46 := dc_cX11_text_dX11_text_27_1.2.2.2.2.2.2.2.2.2.2.1
def dX11_text_48 := dc_cX11_text_dX11_text_27_1.2.2.2.2.2.2.2.2.2.2.2.1
def dX11_text_49 := dc_cX11_text_dX11_text_27_1.2.2.2.2.2.2.2.2.2.2.2.2.1
def dX11_text_51 := dc_cX11_text_dX11_text_27_1.2.2.2.2.2.2.2.2.2.2.2.2.2.1
def dX11_text_53 := dc_cX11_text_dX11_text_27_1.2.2.2.2.2.2.2.2.2.2.2.2.2.2.1
def dX11_text_54 := dc_cX11_text_dX11_text_27_1.2.2.2.2.2.2.2.2.2.2.2.2.2.2.2
set_option maxRecDepth 100000 in
theorem db_cX11_text_dX11_text_55_2 : zw [(55, .if_icmp .ge 82, 3), (58, .aload 4, 2), (60, .iload 5, 2), (62, .ifCond .le 8, 3), (65, .ldc 168, 2), (67, .goto 5, 3), (70, .ldc 163, 2), (72, .invokevirtual 170, 3), (75, .aload_n 3, 1), (76, .iload 5, 2), (78, .iaload, 1), (79, .invokevirtual 174, 3), (82, .bipush 44, 2), (84, .invokevirtual 177, 3), (87, .aload_n 3, 1), (88, .iload 5, 2)] (cX11_text.data.toList.drop 55) 55 = true := by decide +kernel
def dc_cX11_text_dX11_text_55_2 := zw_16 db_cX11_text_dX11_text_55_2
def dX11_text_55 := dc_cX11_text_dX11_text_55_2.1
def dX11_text_58 := dc_cX11_text_dX11_text_55_2.2.1
def dX11_text_60 := dc_cX11_text_dX11_text_55_2.2.2.1
def dX11_text_62 := dc_cX11_text_dX11_text_55_2.2.2.2.1
def dX11_text_65 := dc_cX11_text_dX11_text_55_2.2.2.2.2.1
def dX11_text_67 := dc_cX11_text_dX11_text_55_2.2.2.2.2.2.1
def dX11_text_70 := dc_cX11_text_dX11_text_55_2.2.2.2.2.2.2.1
def dX11_text_72 := dc_cX11_text_dX11_text_55_2.2.2.2.2.2.2.2.1
def dX11_text_75 := dc_cX11_text_dX11_text_55_2.2.2.2.2.2.2.2.2.1
def dX11_text_76 := dc_cX11_text_dX11_text_55_2.2.2.2.2.2.2.2.2.2.1
def dX11_text_78 := dc_cX11_text_dX11_text_55_2.2.2.2.2.2.2.2.2.2.2.1
def dX11_text_79 := dc_cX11_text_dX11_text_55_2.2.2.2.2.2.2.2.2.2.2.2.1
def dX11_text_82 := dc_cX11_text_dX11_text_55_2.2.2.2.2.2.2.2.2.2.2.2.2.1
def dX11_text_84 := dc_cX11_text_dX11_text_55_2.2.2.2.2.2.2.2.2.2.2.2.2.2.1
def dX11_text_87 := dc_cX11_text_dX11_text_55_2.2.2.2.2.2.2.2.2.2.2.2.2.2.2.1
def dX11_text_88 := dc_cX11_text_dX11_text_55_2.2.2.2.2.2.2.2.2.2.2.2.2.2.2.2
set_option maxRecDepth 100000 in
theorem db_cX11_text_dX11_text_90_3 : zw [(90, .iconst 1, 1), (91, .iadd, 1), (92, .iaload, 1), (93, .invokevirtual 174, 3), (96, .bipush 44, 2), (98, .invokevirtual 177, 3), (101, .aload_n 3, 1), (102, .iload 5, 2), (104, .iconst 2, 1), (105, .iadd, 1), (106, .iaload, 1), (107, .invokevirtual 174, 3), (110, .aload_n 3, 1), (111, .iload 5, 2), (113, .iconst 3, 1), (114, .iadd, 1)] (cX11_text.data.toList.drop 90) 90 = true := by decide +kernel
def dc_cX11_text_dX11_text_90_3 := zw_16 db_cX11_text_dX11_text_90_3
def dX11_text_90 := dc_cX11_text_dX11_text_90_3.1
def dX11_text_91 := dc_cX11_text_dX11_text_90_3.2.1
def dX11_text_92 := dc_cX11_text_dX11_text_90_3.2.2.1
def dX11_text_93 := dc_cX11_text_dX11_text_90_3.2.2.2.1
def dX11_text_96 := dc_cX11_text_dX11_text_90_3.2.2.2.2.1
def dX11_text_98 := dc_cX11_text_dX11_text_90_3.2.2.2.2.2.1
def dX11_text_101 := dc_cX11_text_dX11_text_90_3.2.2.2.2.2.2.1
def dX11_text_102 := dc_cX11_text_dX11_text_90_3.2.2.2.2.2.2.2.1
def dX11_text_104 := dc_cX11_text_dX11_text_90_3.2.2.2.2.2.2.2.2.1
def dX11_text_105 := dc_cX11_text_dX11_text_90_3.2.2.2.2.2.2.2.2.2.1
def dX11_text_106 := dc_cX11_text_dX11_text_90_3.2.2.2.2.2.2.2.2.2.2.1
def dX11_text_107 := dc_cX11_text_dX11_text_90_3.2.2.2.2.2.2.2.2.2.2.2.1
def dX11_text_110 := dc_cX11_text_dX11_text_90_3.2.2.2.2.2.2.2.2.2.2.2.2.1
def dX11_text_111 := dc_cX11_text_dX11_text_90_3.2.2.2.2.2.2.2.2.2.2.2.2.2.1
def dX11_text_113 := dc_cX11_text_dX11_text_90_3.2.2.2.2.2.2.2.2.2.2.2.2.2.2.1
def dX11_text_114 := dc_cX11_text_dX11_text_90_3.2.2.2.2.2.2.2.2.2.2.2.2.2.2.2
set_option maxRecDepth 100000 in
theorem db_cX11_text_dX11_text_115_4 : zw [(115, .iaload, 1), (116, .iconst 1, 1), (117, .if_icmp .ne 8, 3), (120, .ldc 180, 2), (122, .goto 5, 3), (125, .ldc 163, 2), (127, .invokevirtual 170, 3), (130, .pop, 1), (131, .iinc 5 4, 3), (134, .goto (-83), 3), (137, .aload 4, 2), (139, .invokevirtual 182, 3), (142, .areturn, 1)] (cX11_text.data.toList.drop 115) 115 = true := by decide +kernel
def dc_cX11_text_dX11_text_115_4 := zw_13 db_cX11_text_dX11_text_115_4
def dX11_text_115 := dc_cX11_text_dX11_text_115_4.1
def dX11_text_116 := dc_cX11_text_dX11_text_115_4.2.1
def dX11_text_117 := dc_cX11_text_dX11_text_115_4.2.2.1
def dX11_text_120 := dc_cX11_text_dX11_text_115_4.2.2.2.1
def dX11_text_122 := dc_cX11_text_dX11_text_115_4.2.2.2.2.1
def dX11_text_125 := dc_cX11_text_dX11_text_115_4.2.2.2.2.2.1
def dX11_text_127 := dc_cX11_text_dX11_text_115_4.2.2.2.2.2.2.1
def dX11_text_130 := dc_cX11_text_dX11_text_115_4.2.2.2.2.2.2.2.1
def dX11_text_131 := dc_cX11_text_dX11_text_115_4.2.2.2.2.2.2.2.2.1
def dX11_text_134 := dc_cX11_text_dX11_text_115_4.2.2.2.2.2.2.2.2.2.1
def dX11_text_137 := dc_cX11_text_dX11_text_115_4.2.2.2.2.2.2.2.2.2.2.1
def dX11_text_139 := dc_cX11_text_dX11_text_115_4.2.2.2.2.2.2.2.2.2.2.2.1
def dX11_text_142 := dc_cX11_text_dX11_text_115_4.2.2.2.2.2.2.2.2.2.2.2.2
set_option maxRecDepth 100000 in
theorem db_cX11_word_dX11_word_0_0 : zw [(0, .aload_n 0, 1), (1, .iload_n 1, 1), (2, .invokestatic 93, 3), (5, .iload_n 2, 1), (6, .ifCond .lt 7, 3), (9, .iconst 1, 1), (10, .goto 4, 3), (13, .iconst 0, 1), (14, .invokevirtual 97, 3), (17, .ifCond .eq 6, 3), (20, .ldc 163, 2), (22, .areturn, 1), (23, .aload_n 0, 1), (24, .iload_n 1, 1), (25, .iconst 0, 1), (26, .invokevirtual 138, 3)] (cX11_word.data.toList.drop 0) 0 = true := by decide +kernel
def dc_cX11_word_dX11_word_0_0 := zw_16 db_cX11_word_dX11_word_0_0
def dX11_word_0 := dc_cX11_word_dX11_word_0_0.1
def dX11_word_1 := dc_cX11_word_dX11_word_0_0.2.1
def dX11_word_2 := dc_cX11_word_dX11_word_0_0.2.2.1
def dX11_word_5 := dc_cX11_word_dX11_word_0_0.2.2.2.1
def dX11_word_6 := dc_cX11_word_dX11_word_0_0.2.2.2.2.1
def dX11_word_9 := dc_cX11_word_dX11_word_0_0.2.2.2.2.2.1
def dX11_word_10 := dc_cX11_word_dX11_word_0_0.2.2.2.2.2.2.1
def dX11_word_13 := dc_cX11_word_dX11_word_0_0.2.2.2.2.2.2.2.1
def dX11_word_14 := dc_cX11_word_dX11_word_0_0.2.2.2.2.2.2.2.2.1
def dX11_word_17 := dc_cX11_word_dX11_word_0_0.2.2.2.2.2.2.2.2.2.1
def dX11_word_20 := dc_cX11_word_dX11_word_0_0.2.2.2.2.2.2.2.2.2.2.1
def dX11_word_22 := dc_cX11_word_dX11_word_0_0.2.2.2.2.2.2.2.2.2.2.2.1
def dX11_word_23 := dc_cX11_word_dX11_word_0_0.2.2.2.2.2.2.2.2.2.2.2.2.1
def dX11_word_24 := dc_cX11_word_dX11_word_0_0.2.2.2.2.2.2.2.2.2.2.2.2.2.1
def dX11_word_25 := dc_cX11_word_dX11_word_0_0.2.2.2.2.2.2.2.2.2.2.2.2.2.2.1
def dX11_word_26 := dc_cX11_word_dX11_word_0_0.2.2.2.2.2.2.2.2.2.2.2.2.2.2.2
set_option maxRecDepth 100000 in
theorem db_cX11_word_dX11_word_29_1 : zw [(29, .astore_n 3, 1), (30, .aload_n 0, 1), (31, .aload_n 3, 1), (32, .iconst 3, 1), (33, .invokevirtual 159, 3), (36, .ifCond .eq 6, 3), (39, .ldc 163, 2), (41, .areturn, 1), (42, .aload_n 3, 1), (43, .arraylength, 1), (44, .iconst 4, 1), (45, .idiv, 1), (46, .istore 4, 2), (48, .aload_n 3, 1), (49, .bipush 12, 2), (51, .invokestatic 189, 3)] (cX11_word.data.toList.drop 29) 29 = true := by decide +kernel
def dc_cX11_word_dX11_word_29_1 := zw_16 db_cX11_word_dX11_word_29_1
def dX11_word_29 := dc_cX11_word_dX11_word_29_1.1
def dX11_word_30 := dc_cX11_word_dX11_word_29_1.2.1
def dX11_word_31 := dc_cX11_word_dX11_word_29_1.2.2.1
def dX11_word_32 := dc_cX11_word_dX11_word_29_1.2.2.2.1
def dX11_word_33 := dc_cX11_word_dX11_word_29_1.2.2.2.2.1
def dX11_word_36 := dc_cX11_word_dX11_word_29_1.2.2.2.2.2.1
def dX11_word_39 := dc_cX11_word_dX11_word_29_1.2.2.2.2.2.2.1
def dX11_word_41 := dc_cX11_word_dX11_word_29_1.2.2.2.2.2.2.2.1
def dX11_word_42 := dc_cX11_word_dX11_word_29_1.2.2.2.2.2.2.2.2.1
def dX11_word_43 := dc_cX11_word_dX11_word_29_1.2.2.2.2.2.2.2.2.2.1
def dX11_word_44 := dc_cX11_word_dX11_word_29_1.2.2.2.2.2.2.2.2.2.2.1
def dX11_word_45 := dc_cX11_word_dX11_word_29_1.2.2.2.2.2.2.2.2.2.2.2.1
def dX11_word_46 := dc_cX11_word_dX11_word_29_1.2.2.2.2.2.2.2.2.2.2.2.2.1
def dX11_word_48 := dc_cX11_word_dX11_word_29_1.2.2.2.2.2.2.2.2.2.2.2.2.2.1
def dX11_word_49 := dc_cX11_word_dX11_word_29_1.2.2.2.2.2.2.2.2.2.2.2.2.2.2.1
def dX11_word_51 := dc_cX11_word_dX11_word_29_1.2.2.2.2.2.2.2.2.2.2.2.2.2.2.2
set_option maxRecDepth 100000 in
theorem db_cX11_word_dX11_word_54_2 : zw [(54, .astore 5, 2), (56, .iload_n 2, 1), (57, .istore 6, 2), (59, .iconst 0, 1), (60, .istore 7, 2), (62, .iload 7, 2), (64, .bipush 12, 2), (66, .if_icmp .gt 35, 3), (69, .iload 6, 2), (71, .aload 5, 2), (73, .iload 7, 2), (75, .iload 4, 2), (77, .imul, 1), (78, .iaload, 1), (79, .if_icmp .lt 22, 3), (82, .iload 6, 2)] (cX11_word.data.toList.drop 54) 54 = true := by decide +kernel
def dc_cX11_word_dX11_word_54_2 := zw_16 db_cX11_word_dX11_word_54_2
def dX11_word_54 := dc_cX11_word_dX11_word_54_2.1
def dX11_word_56 := dc_cX11_word_dX11_word_54_2.2.1
def dX11_word_57 := dc_cX11_word_dX11_word_54_2.2.2.1
def dX11_word_59 := dc_cX11_word_dX11_word_54_2.2.2.2.1
def dX11_word_60 := dc_cX11_word_dX11_word_54_2.2.2.2.2.1
def dX11_word_62 := dc_cX11_word_dX11_word_54_2.2.2.2.2.2.1
def dX11_word_64 := dc_cX11_word_dX11_word_54_2.2.2.2.2.2.2.1
def dX11_word_66 := dc_cX11_word_dX11_word_54_2.2.2.2.2.2.2.2.1
def dX11_word_69 := dc_cX11_word_dX11_word_54_2.2.2.2.2.2.2.2.2.1
def dX11_word_71 := dc_cX11_word_dX11_word_54_2.2.2.2.2.2.2.2.2.2.1
def dX11_word_73 := dc_cX11_word_dX11_word_54_2.2.2.2.2.2.2.2.2.2.2.1
def dX11_word_75 := dc_cX11_word_dX11_word_54_2.2.2.2.2.2.2.2.2.2.2.2.1
def dX11_word_77 := dc_cX11_word_dX11_word_54_2.2.2.2.2.2.2.2.2.2.2.2.2.1
def dX11_word_78 := dc_cX11_word_dX11_word_54_2.2.2.2.2.2.2.2.2.2.2.2.2.2.1
def dX11_word_79 := dc_cX11_word_dX11_word_54_2.2.2.2.2.2.2.2.2.2.2.2.2.2.2.1
def dX11_word_82 := dc_cX11_word_dX11_word_54_2.2.2.2.2.2.2.2.2.2.2.2.2.2.2.2
set_option maxRecDepth 100000 in
theorem db_cX11_word_dX11_word_84_3 : zw [(84, .aload 5, 2), (86, .iload 7, 2), (88, .iinc 7 1, 3), (91, .iload 4, 2), (93, .imul, 1), (94, .iaload, 1), (95, .isub, 1), (96, .istore 6, 2), (98, .goto (-36), 3), (101, .iload 7, 2), (103, .bipush 12, 2), (105, .if_icmp .le 6, 3), (108, .ldc 163, 2), (110, .areturn, 1), (111, .iconst 0, 1), (112, .istore 8, 2)] (cX11_word.data.toList.drop 84) 84 = true := by decide +kernel
def dc_cX11_word_dX11_word_84_3 := zw_16 db_cX11_word_dX11_word_84_3
def dX11_word_84 := dc_cX11_word_dX11_word_84_3.1
def dX11_word_86 := dc_cX11_word_dX11_word_84_3.2.1
def dX11_word_88 := dc_cX11_word_dX11_word_84_3.2.2.1
def dX11_word_91 := dc_cX11_word_dX11_word_84_3.2.2.2.1
def dX11_word_93 := dc_cX11_word_dX11_word_84_3.2.2.2.2.1
def dX11_word_94 := dc_cX11_word_dX11_word_84_3.2.2.2.2.2.1
def dX11_word_95 := dc_cX11_word_dX11_word_84_3.2.2.2.2.2.2.1
def dX11_word_96 := dc_cX11_word_dX11_word_84_3.2.2.2.2.2.2.2.1
def dX11_word_98 := dc_cX11_word_dX11_word_84_3.2.2.2.2.2.2.2.2.1
def dX11_word_101 := dc_cX11_word_dX11_word_84_3.2.2.2.2.2.2.2.2.2.1
def dX11_word_103 := dc_cX11_word_dX11_word_84_3.2.2.2.2.2.2.2.2.2.2.1
def dX11_word_105 := dc_cX11_word_dX11_word_84_3.2.2.2.2.2.2.2.2.2.2.2.1
def dX11_word_108 := dc_cX11_word_dX11_word_84_3.2.2.2.2.2.2.2.2.2.2.2.2.1
def dX11_word_110 := dc_cX11_word_dX11_word_84_3.2.2.2.2.2.2.2.2.2.2.2.2.2.1
def dX11_word_111 := dc_cX11_word_dX11_word_84_3.2.2.2.2.2.2.2.2.2.2.2.2.2.2.1
def dX11_word_112 := dc_cX11_word_dX11_word_84_3.2.2.2.2.2.2.2.2.2.2.2.2.2.2.2
set_option maxRecDepth 100000 in
theorem db_cX11_word_dX11_word_114_4 : zw [(114, .new 165, 3), (117, .dup, 1), (118, .invokespecial 167, 3), (121, .astore 9, 2), (123, .iload 7, 2), (125, .iconst 1, 1), (126, .isub, 1), (127, .istore 10, 2), (129, .iload 10, 2), (131, .ifCond .lt 87, 3), (134, .iconst 0, 1), (135, .istore 11, 2), (137, .iload 6, 2), (139, .aload 5, 2), (141, .iload 10, 2), (143, .iload 4, 2)] (cX11_word.data.toList.drop 114) 114 = true := by decide +kernel
def dc_cX11_word_dX11_word_114_4 := zw_16 db_cX11_word_dX11_word_114_4
def dX11_word_114 := dc_cX11_word_dX11_word_114_4.1
def dX11_word_117 := dc_cX11_word_dX11_word_114_4.2.1
def dX11_word_118 := dc_cX11_word_dX11_word_114_4.2.2.1
def dX11_word_121 := dc_cX11_word_dX11_word_114_4.2.2.2.1
def dX11_word_123 := dc_cX11_word_dX11_word_114_4.2.2.2.2.1
def dX11_word_125 := dc_cX11_word_dX11_word_114_4.2.2.2.2.2.1
def dX11_word_126 := dc_cX11_word_dX11_word_114_4.2.2.2.2.2.2.1
def dX11_word_127 := dc_cX11_word_dX11_word_114_4.2.2.2.2.2.2.2.1
def dX11_word_129 := dc_cX11_word_dX11_word_114_4.2.2.2.2.2.2.2.2.1
def dX11_word_131 := dc_cX11_word_dX11_word_114_4.2.2.2.2.2.2.2.2.2.1
def dX11_word_134 := dc_cX11_word_dX11_word_114_4.2.2.2.2.2.2.2.2.2.2.1
def dX11_word_135 := dc_cX11_word_dX11_word_114_4.2.2.2.2.2.2.2.2.2.2.2.1
def dX11_word_137 := dc_cX11_word_dX11_word_114_4.2.2.2.2.2.2.2.2.2.2.2.2.1
def dX11_word_139 := dc_cX11_word_dX11_word_114_4.2.2.2.2.2.2.2.2.2.2.2.2.2.1
def dX11_word_141 := dc_cX11_word_dX11_word_114_4.2.2.2.2.2.2.2.2.2.2.2.2.2.2.1
def dX11_word_143 := dc_cX11_word_dX11_word_114_4.2.2.2.2.2.2.2.2.2.2.2.2.2.2.2
set_option maxRecDepth 100000 in
theorem db_cX11_word_dX11_word_145_5 : zw [(145, .imul, 1), (146, .aload_n 3, 1), (147, .iconst 4, 1), (148, .iload 8, 2), (150, .imul, 1), (151, .iload 11, 2), (153, .iadd, 1), (154, .iaload, 1), (155, .iadd, 1), (156, .iaload, 1), (157, .if_icmp .lt 32, 3), (160, .iload 6, 2), (162, .aload 5, 2), (164, .iload 10, 2), (166, .iload 4, 2), (168, .imul, 1)] (cX11_word.data.toList.drop 145) 145 = true := by decide +kernel
def dc_cX11_word_dX11_word_145_5 := zw_16 db_cX11_word_dX11_word_145_5
def dX11_word_145 := dc_cX11_word_dX11_word_145_5.1
def dX11_word_146 := dc_cX11_word_dX11_word_145_5.2.1
def dX11_word_147 := dc_cX11_word_dX11_word_145_5.2.2.1
def dX11_word_148 := dc_cX11_word_dX11_word_145_5.2.2.2.1
def dX11_word_150 := dc_cX11_word_dX11_word_145_5.2.2.2.2.1
def dX11_word_151 := dc_cX11_word_dX11_word_145_5.2.2.2.2.2.1
def dX11_word_153 := dc_cX11_word_dX11_word_145_5.2.2.2.2.2.2.1
def dX11_word_154 := dc_cX11_word_dX11_word_145_5.2.2.2.2.2.2.2.1
def dX11_word_155 := dc_cX11_word_dX11_word_145_5.2.2.2.2.2.2.2.2.1
def dX11_word_156 := dc_cX11_word_dX11_word_145_5.2.2.2.2.2.2.2.2.2.1
def dX11_word_157 := dc_cX11_word_dX11_word_145_5.2.2.2.2.2.2.2.2.2.2.1
def dX11_word_160 := dc_cX11_word_dX11_word_145_5.2.2.2.2.2.2.2.2.2.2.2.1
def dX11_word_162 := dc_cX11_word_dX11_word_145_5.2.2.2.2.2.2.2.2.2.2.2.2.1
def dX11_word_164 := dc_cX11_word_dX11_word_145_5.2.2.2.2.2.2.2.2.2.2.2.2.2.1
def dX11_word_166 := dc_cX11_word_dX11_word_145_5.2.2.2.2.2.2.2.2.2.2.2.2.2.2.1
def dX11_word_168 := dc_cX11_word_dX11_word_145_5.2.2.2.2.2.2.2.2.2.2.2.2.2.2.2
set_option maxRecDepth 100000 in
theorem db_cX11_word_dX11_word_169_6 : zw [(169, .aload_n 3, 1), (170, .iconst 4, 1), (171, .iload 8, 2), (173, .imul, 1), (174, .iload 11, 2), (176, .iinc 11 1, 3), (179, .iadd, 1), (180, .iaload, 1), (181, .iadd, 1), (182, .iaload, 1), (183, .isub, 1), (184, .istore 6, 2), (186, .goto (-49), 3), (189, .aload 9, 2), (191, .bipush 97, 2), (193, .iload 11, 2)] (cX11_word.data.toList.drop 169) 169 = true := by decide +kernel
def dc_cX11_word_dX11_word_169_6 := zw_16 db_cX11_word_dX11_word_169_6
def dX11_word_169 := dc_cX11_word_dX11_word_169_6.1
def dX11_word_170 := dc_cX11_word_dX11_word_169_6.2.1
def dX11_word_171 := dc_cX11_word_dX11_word_169_6.2.2.1
def dX11_word_173 := dc_cX11_word_dX11_word_169_6.2.2.2.1
def dX11_word_174 := dc_cX11_word_dX11_word_169_6.2.2.2.2.1
def dX11_word_176 := dc_cX11_word_dX11_word_169_6.2.2.2.2.2.1
def dX11_word_179 := dc_cX11_word_dX11_word_169_6.2.2.2.2.2.2.1
def dX11_word_180 := dc_cX11_word_dX11_word_169_6.2.2.2.2.2.2.2.1
def dX11_word_181 := dc_cX11_word_dX11_word_169_6.2.2.2.2.2.2.2.2.1
def dX11_word_182 := dc_cX11_word_dX11_word_169_6.2.2.2.2.2.2.2.2.2.1
def dX11_word_183 := dc_cX11_word_dX11_word_169_6.2.2.2.2.2.2.2.2.2.2.1
def dX11_word_184 := dc_cX11_word_dX11_word_169_6.2.2.2.2.2.2.2.2.2.2.2.1
def dX11_word_186 := dc_cX11_word_dX11_word_169_6.2.2.2.2.2.2.2.2.2.2.2.2.1
def dX11_word_189 := dc_cX11_word_dX11_word_169_6.2.2.2.2.2.2.2.2.2.2.2.2.2.1
def dX11_word_191 := dc_cX11_word_dX11_word_169_6.2.2.2.2.2.2.2.2.2.2.2.2.2.2.1
def dX11_word_193 := dc_cX11_word_dX11_word_169_6.2.2.2.2.2.2.2.2.2.2.2.2.2.2.2
set_option maxRecDepth 100000 in
theorem db_cX11_word_dX11_word_195_7 : zw [(195, .iadd, 1), (196, .i2c, 1), (197, .invokevirtual 177, 3), (200, .pop, 1), (201, .aload_n 3, 1), (202, .iconst 4, 1), (203, .iload 8, 2), (205, .imul, 1), (206, .iload 11, 2), (208, .iadd, 1), (209, .iaload, 1), (210, .istore 8, 2), (212, .iinc 10 (-1), 3), (215, .goto (-86), 3), (218, .aload 9, 2), (220, .bipush 46, 2)] (cX11_word.data.toList.drop 195) 195 = true := by decide +kernel
def dc_cX11_word_dX11_word_195_7 := zw_16 db_cX11_word_dX11_word_195_7
def dX11_word_195 := dc_cX11_word_dX11_word_195_7.1
def dX11_word_196 := dc_cX11_word_dX11_word_195_7.2.1
def dX11_word_197 := dc_cX11_word_dX11_word_195_7.2.2.1
def dX11_word_200 := dc_cX11_word_dX11_word_195_7.2.2.2.1
def dX11_word_201 := dc_cX11_word_dX11_word_195_7.2.2.2.2.1
def dX11_word_202 := dc_cX11_word_dX11_word_195_7.2.2.2.2.2.1
def dX11_word_203 := dc_cX11_word_dX11_word_195_7.2.2.2.2.2.2.1
def dX11_word_205 := dc_cX11_word_dX11_word_195_7.2.2.2.2.2.2.2.1
def dX11_word_206 := dc_cX11_word_dX11_word_195_7.2.2.2.2.2.2.2.2.1
def dX11_word_208 := dc_cX11_word_dX11_word_195_7.2.2.2.2.2.2.2.2.2.1
def dX11_word_209 := dc_cX11_word_dX11_word_195_7.2.2.2.2.2.2.2.2.2.2.1
def dX11_word_210 := dc_cX11_word_dX11_word_195_7.2.2.2.2.2.2.2.2.2.2.2.1
def dX11_word_212 := dc_cX11_word_dX11_word_195_7.2.2.2.2.2.2.2.2.2.2.2.2.1
def dX11_word_215 := dc_cX11_word_dX11_word_195_7.2.2.2.2.2.2.2.2.2.2.2.2.2.1
def dX11_word_218 := dc_cX11_word_dX11_word_195_7.2.2.2.2.2.2.2.2.2.2.2.2.2.2.1
def dX11_word_220 := dc_cX11_word_dX11_word_195_7.2.2.2.2.2.2.2.2.2.2.2.2.2.2.2
set_option maxRecDepth 100000 in
theorem db_cX11_word_dX11_word_222_8 : zw [(222, .invokevirtual 177, 3), (225, .invokevirtual 182, 3), (228, .areturn, 1)] (cX11_word.data.toList.drop 222) 222 = true := by decide +kernel
def dc_cX11_word_dX11_word_222_8 := zw_3 db_cX11_word_dX11_word_222_8
def dX11_word_222 := dc_cX11_word_dX11_word_222_8.1
def dX11_word_225 := dc_cX11_word_dX11_word_222_8.2.1
def dX11_word_228 := dc_cX11_word_dX11_word_222_8.2.2
set_option maxRecDepth 100000 in
theorem db_cX11_apart_dX11_apart_0_0 : zw [(0, .aload_n 0, 1), (1, .iload_n 1, 1), (2, .invokestatic 93, 3), (5, .ifCond .eq 14, 3), (8, .iload_n 2, 1), (9, .invokestatic 93, 3), (12, .ifCond .eq 7, 3), (15, .iconst 1, 1), (16, .goto 4, 3), (19, .iconst 0, 1), (20, .iconst 1, 1), (21, .invokevirtual 97, 3), (24, .ifCond .eq 6, 3), (27, .ldc 163, 2), (29, .areturn, 1), (30, .aload_n 0, 1)] (cX11_apart.data.toList.drop 0) 0 = true := by decide +kernel
def dc_cX11_apart_dX11_apart_0_0 := zw_16 db_cX11_apart_dX11_apart_0_0
def dX11_apart_0 := dc_cX11_apart_dX11_apart_0_0.1
def dX11_apart_1 := dc_cX11_apart_dX11_apart_0_0.2.1
def dX11_apart_2 := dc_cX11_apart_dX11_apart_0_0.2.2.1
def dX11_apart_5 := dc_cX11_apart_dX11_apart_0_0.2.2.2.1
def dX11_apart_8 := dc_cX11_apart_dX11_apart_0_0.2.2.2.2.1
def dX11_apart_9 := dc_cX11_apart_dX11_apart_0_0.2.2.2.2.2.1
def dX11_apart_12 := dc_cX11_apart_dX11_apart_0_0.2.2.2.2.2.2.1
def dX11_apart_15 := dc_cX11_apart_dX11_apart_0_0.2.2.2.2.2.2.2.1
def dX11_apart_16 := dc_cX11_apart_dX11_apart_0_0.2.2.2.2.2.2.2.2.1
def dX11_apart_19 := dc_cX11_apart_dX11_apart_0_0.2.2.2.2.2.2.2.2.2.1
def dX11_apart_20 := dc_cX11_apart_dX11_apart_0_0.2.2.2.2.2.2.2.2.2.2.1
def dX11_apart_21 := dc_cX11_apart_dX11_apart_0_0.2.2.2.2.2.2.2.2.2.2.2.1
def dX11_apart_24 := dc_cX11_apart_dX11_apart_0_0.2.2.2.2.2.2.2.2.2.2.2.2.1
def dX11_apart_27 := dc_cX11_apart_dX11_apart_0_0.2.2.2.2.2.2.2.2.2.2.2.2.2.1
def dX11_apart_29 := dc_cX11_apart_dX11_apart_0_0.2.2.2.2.2.2.2.2.2.2.2.2.2.2.1
def dX11_apart_30 := dc_cX11_apart_dX11_apart_0_0.2.2.2.2.2.2.2.2.2.2.2.2.2.2.2
set_option maxRecDepth 100000 in
theorem db_cX11_apart_dX11_apart_31_1 : zw [(31, .iload_n 1, 1), (32, .iload_n 2, 1), (33, .invokevirtual 192, 3), (36, .astore_n 3, 1), (37, .aload_n 0, 1), (38, .aload_n 3, 1), (39, .iconst 2, 1), (40, .invokevirtual 159, 3), (43, .ifCond .ne 13, 3), (46, .aload_n 0, 1), (47, .iload_n 1, 1), (48, .iload_n 2, 1), (49, .aload_n 3, 1), (50, .invokevirtual 195, 3), (53, .ifCond .ne 6, 3), (56, .ldc 163, 2)] (cX11_apart.data.toList.drop 31) 31 = true := by decide +kernel
def dc_cX11_apart_dX11_apart_31_1 := zw_16 db_cX11_apart_dX11_apart_31_1
def dX11_apart_31 := dc_cX11_apart_dX11_apart_31_1.1
def dX11_apart_32 := dc_cX11_apart_dX11_apart_31_1.2.1
def dX11_apart_33 := dc_cX11_apart_dX11_apart_31_1.2.2.1
def dX11_apart_36 := dc_cX11_apart_dX11_apart_31_1.2.2.2.1
def dX11_apart_37 := dc_cX11_apart_dX11_apart_31_1.2.2.2.2.1
def dX11_apart_38 := dc_cX11_apart_dX11_apart_31_1.2.2.2.2.2.1
def dX11_apart_39 := dc_cX11_apart_dX11_apart_31_1.2.2.2.2.2.2.1
def dX11_apart_40 := dc_cX11_apart_dX11_apart_31_1.2.2.2.2.2.2.2.1
def dX11_apart_43 := dc_cX11_apart_dX11_apart_31_1.2.2.2.2.2.2.2.2.1
def dX11_apart_46 := dc_cX11_apart_dX11_apart_31_1.2.2.2.2.2.2.2.2.2.1
def dX11_apart_47 := dc_cX11_apart_dX11_apart_31_1.2.2.2.2.2.2.2.2.2.2.1
def dX11_apart_48 := dc_cX11_apart_dX11_apart_31_1.2.2.2.2.2.2.2.2.2.2.2.1
def dX11_apart_49 := dc_cX11_apart_dX11_apart_31_1.2.2.2.2.2.2.2.2.2.2.2.2.1
def dX11_apart_50 := dc_cX11_apart_dX11_apart_31_1.2.2.2.2.2.2.2.2.2.2.2.2.2.1
def dX11_apart_53 := dc_cX11_apart_dX11_apart_31_1.2.2.2.2.2.2.2.2.2.2.2.2.2.2.1
def dX11_apart_56 := dc_cX11_apart_dX11_apart_31_1.2.2.2.2.2.2.2.2.2.2.2.2.2.2.2
set_option maxRecDepth 100000 in
theorem db_cX11_apart_dX11_apart_58_2 : zw [(58, .areturn, 1), (59, .ldc 199, 2), (61, .astore 4, 2), (63, .aload_n 3, 1), (64, .iconst 0, 1), (65, .iaload, 1), (66, .iconst 1, 1), (67, .isub, 1), (68, .istore 5, 2), (70, .iload 5, 2), (72, .ifCond .le 48, 3), (75, .new 165, 3), (78, .dup, 1), (79, .invokespecial 167, 3), (82, .bipush 97, 2), (84, .aload_n 3, 1)] (cX11_apart.data.toList.drop 58) 58 = true := by decide +kernel
def dc_cX11_apart_dX11_apart_58_2 := zw_16 db_cX11_apart_dX11_apart_58_2
def dX11_apart_58 := dc_cX11_apart_dX11_apart_58_2.1
def dX11_apart_59 := dc_cX11_apart_dX11_apart_58_2.2.1
def dX11_apart_61 := dc_cX11_apart_dX11_apart_58_2.2.2.1
def dX11_apart_63 := dc_cX11_apart_dX11_apart_58_2.2.2.2.1
def dX11_apart_64 := dc_cX11_apart_dX11_apart_58_2.2.2.2.2.1
def dX11_apart_65 := dc_cX11_apart_dX11_apart_58_2.2.2.2.2.2.1
def dX11_apart_66 := dc_cX11_apart_dX11_apart_58_2.2.2.2.2.2.2.1
def dX11_apart_67 := dc_cX11_apart_dX11_apart_58_2.2.2.2.2.2.2.2.1
def dX11_apart_68 := dc_cX11_apart_dX11_apart_58_2.2.2.2.2.2.2.2.2.1
def dX11_apart_70 := dc_cX11_apart_dX11_apart_58_2.2.2.2.2.2.2.2.2.2.1
def dX11_apart_72 := dc_cX11_apart_dX11_apart_58_2.2.2.2.2.2.2.2.2.2.2.1
def dX11_apart_75 := dc_cX11_apart_dX11_apart_58_2.2.2.2.2.2.2.2.2.2.2.2.1
def dX11_apart_78 := dc_cX11_apart_dX11_apart_58_2.2.2.2.2.2.2.2.2.2.2.2.2.1
def dX11_apart_79 := dc_cX11_apart_dX11_apart_58_2.2.2.2.2.2.2.2.2.2.2.2.2.2.1
def dX11_apart_82 := dc_cX11_apart_dX11_apart_58_2.2.2.2.2.2.2.2.2.2.2.2.2.2.2.1
def dX11_apart_84 := dc_cX11_apart_dX11_apart_58_2.2.2.2.2.2.2.2.2.2.2.2.2.2.2.2
set_option maxRecDepth 100000 in
theorem db_cX11_apart_dX11_apart_85_3 : zw [(85, .iconst 3, 1), (86, .iload 5, 2), (88, .imul, 1), (89, .iconst 3, 1), (90, .iadd, 1), (91, .iaload, 1), (92, .iadd, 1), (93, .i2c, 1), (94, .invokevirtual 177, 3), (97, .aload 4, 2), (99, .invokevirtual 170, 3), (102, .invokevirtual 182, 3), (105, .astore 4, 2), (107, .aload_n 3, 1), (108, .iconst 3, 1), (109, .iload 5, 2)] (cX11_apart.data.toList.drop 85) 85 = true := by decide +kernel
def dc_cX11_apart_dX11_apart_85_3 := zw_16 db_cX11_apart_dX11_apart_85_3
def dX11_apart_85 := dc_cX11_apart_dX11_apart_85_3.1
def dX11_apart_86 := dc_cX11_apart_dX11_apart_85_3.2.1
def dX11_apart_88 := dc_cX11_apart_dX11_apart_85_3.2.2.1
def dX11_apart_89 := dc_cX11_apart_dX11_apart_85_3.2.2.2.1
def dX11_apart_90 := dc_cX11_apart_dX11_apart_85_3.2.2.2.2.1
def dX11_apart_91 := dc_cX11_apart_dX11_apart_85_3.2.2.2.2.2.1
def dX11_apart_92 := dc_cX11_apart_dX11_apart_85_3.2.2.2.2.2.2.1
def dX11_apart_93 := dc_cX11_apart_dX11_apart_85_3.2.2.2.2.2.2.2.1
def dX11_apart_94 := dc_cX11_apart_dX11_apart_85_3.2.2.2.2.2.2.2.2.1
def dX11_apart_97 := dc_cX11_apart_dX11_apart_85_3.2.2.2.2.2.2.2.2.2.1
def dX11_apart_99 := dc_cX11_apart_dX11_apart_85_3.2.2.2.2.2.2.2.2.2.2.1
def dX11_apart_102 := dc_cX11_apart_dX11_apart_85_3.2.2.2.2.2.2.2.2.2.2.2.1
def dX11_apart_105 := dc_cX11_apart_dX11_apart_85_3.2.2.2.2.2.2.2.2.2.2.2.2.1
def dX11_apart_107 := dc_cX11_apart_dX11_apart_85_3.2.2.2.2.2.2.2.2.2.2.2.2.2.1
def dX11_apart_108 := dc_cX11_apart_dX11_apart_85_3.2.2.2.2.2.2.2.2.2.2.2.2.2.2.1
def dX11_apart_109 := dc_cX11_apart_dX11_apart_85_3.2.2.2.2.2.2.2.2.2.2.2.2.2.2.2
set_option maxRecDepth 100000 in
theorem db_cX11_apart_dX11_apart_111_4 : zw [(111, .imul, 1), (112, .iconst 2, 1), (113, .iadd, 1), (114, .iaload, 1), (115, .istore 5, 2), (117, .goto (-47), 3), (120, .aload 4, 2), (122, .areturn, 1)] (cX11_apart.data.toList.drop 111) 111 = true := by decide +kernel
def dc_cX11_apart_dX11_apart_111_4 := zw_8 db_cX11_apart_dX11_apart_111_4
def dX11_apart_111 := dc_cX11_apart_dX11_apart_111_4.1
def dX11_apart_112 := dc_cX11_apart_dX11_apart_111_4.2.1
def dX11_apart_113 := dc_cX11_apart_dX11_apart_111_4.2.2.1
def dX11_apart_114 := dc_cX11_apart_dX11_apart_111_4.2.2.2.1
def dX11_apart_115 := dc_cX11_apart_dX11_apart_111_4.2.2.2.2.1
def dX11_apart_117 := dc_cX11_apart_dX11_apart_111_4.2.2.2.2.2.1
def dX11_apart_120 := dc_cX11_apart_dX11_apart_111_4.2.2.2.2.2.2.1
def dX11_apart_122 := dc_cX11_apart_dX11_apart_111_4.2.2.2.2.2.2.2
theorem rd_0 : (yX11_isOne : MethodName).cls ≠ "java/lang/invoke/MethodHandle" ∧ (yX11_isOne : MethodName).cls ≠ "java/lang/invoke/VarHandle" ∧ (parseMethodDescriptor (yX11_isOne : MethodName).desc).map (fun d => d.parameters.length) = some 1 := by decide +kernel
theorem rd_1 : (yX11_isIn : MethodName).cls ≠ "java/lang/invoke/MethodHandle" ∧ (yX11_isIn : MethodName).cls ≠ "java/lang/invoke/VarHandle" ∧ (parseMethodDescriptor (yX11_isIn : MethodName).desc).map (fun d => d.parameters.length) = some 3 := by decide +kernel
theorem rd_2 : (yX11_isThrown : MethodName).cls ≠ "java/lang/invoke/MethodHandle" ∧ (yX11_isThrown : MethodName).cls ≠ "java/lang/invoke/VarHandle" ∧ (parseMethodDescriptor (yX11_isThrown : MethodName).desc).map (fun d => d.parameters.length) = some 2 := by decide +kernel
theorem rd_3 : (yX11_found : MethodName).cls ≠ "java/lang/invoke/MethodHandle" ∧ (yX11_found : MethodName).cls ≠ "java/lang/invoke/VarHandle" ∧ (parseMethodDescriptor (yX11_found : MethodName).desc).map (fun d => d.parameters.length) = some 2 := by decide +kernel
theorem rd_4 : (yX11_isCrowded : MethodName).cls ≠ "java/lang/invoke/MethodHandle" ∧ (yX11_isCrowded : MethodName).cls ≠ "java/lang/invoke/VarHandle" ∧ (parseMethodDescriptor (yX11_isCrowded : MethodName).desc).map (fun d => d.parameters.length) = some 2 := by decide +kernel
theorem rd_5 : (yJ4_init_da8c8 : MethodName).cls ≠ "java/lang/invoke/MethodHandle" ∧ (yJ4_init_da8c8 : MethodName).cls ≠ "java/lang/invoke/VarHandle" ∧ (parseMethodDescriptor (yJ4_init_da8c8 : MethodName).desc).map (fun d => d.parameters.length) = some 0 := by decide +kernel
theorem rd_6 : (yJ4_toString_0e30d : MethodName).cls ≠ "java/lang/invoke/MethodHandle" ∧ (yJ4_toString_0e30d : MethodName).cls ≠ "java/lang/invoke/VarHandle" ∧ (parseMethodDescriptor (yJ4_toString_0e30d : MethodName).desc).map (fun d => d.parameters.length) = some 0 := by decide +kernel
theorem rd_7 : (yJ4_append_15ec4 : MethodName).cls ≠ "java/lang/invoke/MethodHandle" ∧ (yJ4_append_15ec4 : MethodName).cls ≠ "java/lang/invoke/VarHandle" ∧ (parseMethodDescriptor (yJ4_append_15ec4 : MethodName).desc).map (fun d => d.parameters.length) = some 1 := by decide +kernel
theorem rd_8 : (yJ4_append_bf812 : MethodName).cls ≠ "java/lang/invoke/MethodHandle" ∧ (yJ4_append_bf812 : MethodName).cls ≠ "java/lang/invoke/VarHandle" ∧ (parseMethodDescriptor (yJ4_append_bf812 : MethodName).desc).map (fun d => d.parameters.length) = some 1 := by decide +kernel
theorem rd_9 : (yJ4_append_cf468 : MethodName).cls ≠ "java/lang/invoke/MethodHandle" ∧ (yJ4_append_cf468 : MethodName).cls ≠ "java/lang/invoke/VarHandle" ∧ (parseMethodDescriptor (yJ4_append_cf468 : MethodName).desc).map (fun d => d.parameters.length) = some 1 := by decide +kernel
theorem rd_10 : (yX11_ways : MethodName).cls ≠ "java/lang/invoke/MethodHandle" ∧ (yX11_ways : MethodName).cls ≠ "java/lang/invoke/VarHandle" ∧ (parseMethodDescriptor (yX11_ways : MethodName).desc).map (fun d => d.parameters.length) = some 2 := by decide +kernel
theorem rd_11 : (yX11_pairsOf : MethodName).cls ≠ "java/lang/invoke/MethodHandle" ∧ (yX11_pairsOf : MethodName).cls ≠ "java/lang/invoke/VarHandle" ∧ (parseMethodDescriptor (yX11_pairsOf : MethodName).desc).map (fun d => d.parameters.length) = some 2 := by decide +kernel
theorem rd_12 : (yX11_isApart : MethodName).cls ≠ "java/lang/invoke/MethodHandle" ∧ (yX11_isApart : MethodName).cls ≠ "java/lang/invoke/VarHandle" ∧ (parseMethodDescriptor (yX11_isApart : MethodName).desc).map (fun d => d.parameters.length) = some 3 := by decide +kernel
/-- a text in the making, behind what was used before it -/
def BSo (X Y m n cv sv : Nat) : Prop := n ≤ m ∧ 16 ≤ m ∧ m ≤ 2 * n + 16 ∧ 16 * cv ≤ m + 16 + 16 * X ∧ sv ≤ 2 * m + Y
theorem BSo.add {X Y m n cv sv : Nat} (w : Nat) (h : BSo X Y m n cv sv) : BSo X Y (cap (n + w) m) (n + w) (cv + gr (n + w) m) (sv + gs (n + w) m) := by
  obtain ⟨h1, h2, h3, h4, h5⟩ := h
  unfold BSo gr gs cap
  split
  · refine ⟨by omega, by omega, by omega, by omega, by omega⟩
  · split <;> refine ⟨by omega, by omega, by omega, by omega, by omega⟩
/-- what is known of met pairs -/
def PO (μ : TMem) (a1 a2 : Int32) (r : Option AI) : Prop := ∀ (n : Nat) (f : Nat → Int32), r = some (n, f) → n = 604 ∧ MPa f ∧ ∀ μ' : TMem, (∀ k : Nat, 1 ≤ k → μ' k = μ k) → ∀ Q : Int32 → Prop, (∀ r, isB r → Q r) → wp_X11_isApart μ' a1 a2 604 f Q
theorem t_po {μ : TMem} {a1 a2 : Int32} (m1 : M1 a1) (m2 : M1 a2) (hI : RI μ) : wp_X11_pairsOf μ a1 a2 (PO μ a1 a2) := t_pairsOf m1 m2 hI (fun n f e => by cases e) (fun f h1 h2 n f' e => by
  cases e
  exact ⟨rfl, h1, h2⟩)
theorem gsb {w : Nat} : gr (0 + 1) 16 = 0 ∧ gs (0 + 1) 16 = 0 ∧ cap (0 + 1) 16 = 16 ∧ gr (0 + 1 + w) (cap (0 + 1) 16) ≤ 1 ∧ gs (0 + 1 + w) (cap (0 + 1) 16) ≤ w + 18 ∧ cap (0 + 1 + w) (cap (0 + 1) 16) ≤ w + 34 ∧ 0 + 1 + w ≤ cap (0 + 1 + w) (cap (0 + 1) 16) := by
  have c : cap (0 + 1) 16 = 16 := rfl
  refine ⟨rfl, rfl, c, ?_, ?_, ?_, (cap_ge _ _).1⟩
  · unfold gr; split <;> omega
  · rw [c]
    unfold gs cap
    split
    · omega
    · split <;> omega
  · rw [c]
    unfold cap
    split
    · omega
    · split <;> omega
theorem ch_ok {x : Int32} (h : rng x) : ¬ (255 : Int32) < (((97 : Int32) + x).toUInt32 % 65536).toInt32 := by
  rcases rng4 h with rfl | rfl | rfl | rfl <;> decide
theorem quart4 {S : Nat} (hS : S ≤ 32) : (nI (4 * S)) / (4 : Int32) = nI S := l_eq.mpr (by rw [(quart hS).1, ii_nI (by omega)])
def LT3 (s : Nat) (l G0 G1 G2 : Int) : Prop := (s = 0 → l < G0 + G1 + G2) ∧ (s = 1 → l < G1 + G2) ∧ (s = 2 → l < G2)
def EQ3 (s : Nat) (y G0 G1 G2 : Int) : Prop := (s = 0 → y = G0) ∧ (s = 1 → y = G1) ∧ (s = 2 → y = G2)
theorem LT3.next {s : Nat} {l y x G0 G1 G2 : Int} (hs : s ≤ 2) (hl : LT3 s l G0 G1 G2) (hg : EQ3 s y G0 G1 G2) (h : y ≤ l) (hx : x = l - y) : s + 1 ≤ 2 ∧ LT3 (s + 1) x G0 G1 G2 := by
  obtain ⟨l0, l1, l2⟩ := hl
  obtain ⟨g0, g1, g2⟩ := hg
  rcases (show s = 0 ∨ s = 1 ∨ s = 2 by omega) with rfl | rfl | rfl
  · have := l0 rfl
    have := g0 rfl
    exact ⟨by omega, fun _ => by omega, fun _ => by omega, fun _ => by omega⟩
  · have := l1 rfl
    have := g1 rfl
    exact ⟨by omega, fun _ => by omega, fun _ => by omega, fun _ => by omega⟩
  · have := l2 rfl
    have := g2 rfl
    omega
theorem idm {x : Int32} {a S : Nat} (hx : x.toInt = a) (ha : a ≤ 12) (h1 : 1 ≤ S) (hS : S ≤ 32) : (x * nI S).toNatClampNeg = a * S ∧ vp_in (x * nI S) (S * 13) := by
  have b1 : a * S ≤ 12 * S := Nat.mul_le_mul_right _ ha
  have k : (x * nI S).toInt = ((a * S : Nat) : Int) := (ii_m hx (ii_nI (by omega)) (by rw [← Int.natCast_mul]; omega) (by rw [← Int.natCast_mul]; omega)).trans (by rw [Int.natCast_mul])
  exact ⟨by rw [ii_cl, k]; omega, vin (by rw [k]; omega)⟩
set_option maxHeartbeats 4000000 in
set_option maxRecDepth 100000 in
theorem c_X11_text {l : Launch} {D : va_G} {ad : Nat → Nat} {cI cL cB : ClassId} (μ : TMem) (sz : Nat) (a1 a2 : Int32) (hRI : RI μ) : MS l yX11_text (.code yX11_text cX11_text 6 (Option.some (Jvm.ClassFile.FieldType.object "java/lang/String"))) 6 500 20000 [.ref (ad 0), .int a1, .int a2] D ad cI cL cB sz μ := by
  refine MS_met (by decide +kernel) (Nat.le_of_ble_eq_true rfl) ?_
  intro p e s mI below meth c Z ls hx hb hml hown ht hM hI hK hC hZ hX hw hret hl
  have hl : lv_has ls 6 [(0, .ref (ad 0)), (1, .int a1), (2, .int a2)] := hl
  suffices hh : ∀ (H : Heap) (locs : List Loc), MW D (MR ad cI μ) [] (MA ad s.heap.size) s H locs → W p l e (RA 6 500 20000) s mI #[.ref (ad 0), .int a1, .int a2] below meth c H locs 0 0 Z (F0 mI 0 ls []) from hh _ _ hw
  intro H locs hw
  have hF0 := FA.rf hRI
  refine lv_aload_n hx hb dX11_text_0 rfl (lv_at hl 0 rfl) ?_
  refine lv_iload_n hx hb dX11_text_1 rfl (lv_at hl 1 rfl) ?_
  refine P_calli (va_runS (own := "LeastreaderModel") (As := [.int a1]) (rest := [.ref (ad 0)]) ⟨hx, hb, hml, hown, ht⟩ (c_X11_isOne a1 (t_isOne (Q := fun r => isB r ∧ (r ≠ 0 → M1 a1)) (fun r b h => ⟨b, h⟩))) (va_cwS 1 ht (G_S q_1342 q_1343 q_56 q_1344) rfl rfl rfl rd_0 ⟨Nat.le_of_ble_eq_true rfl, Nat.le_of_ble_eq_true rfl⟩) ⟨PM_blind, PM_pre⟩ rfl rfl hl.1 rfl (lv_room (Nat.le_of_ble_eq_true rfl)) dX11_text_2 ⟨show 0 + 0 ≤ 500 by omega, show 0 + 0 ≤ 20000 by omega⟩) (fun r1 hr1 => ?_)
  refine lv_iload_n hx hb dX11_text_5 rfl (lv_at hl 2 rfl) ?_
  refine lv_iconst (v := (0 : Int32)) hx hb dX11_text_6 (by decide) ?_
  refine lv_iconst (v := (3 : Int32)) hx hb dX11_text_7 (by decide) ?_
  refine P_calli (va_runS (own := "LeastreaderModel") (As := [.int a2, .int (0 : Int32), .int (3 : Int32)]) (rest := [.int r1, .ref (ad 0)]) ⟨hx, hb, hml, hown, ht⟩ (c_X11_isIn a2 (0 : Int32) (3 : Int32) (t_isIn (Q := fun r => isB r) (fun r b h => b))) (va_cwS 3 ht (G_S q_1345 q_1346 q_56 q_1347) rfl rfl rfl rd_1 ⟨Nat.le_of_ble_eq_true rfl, Nat.le_of_ble_eq_true rfl⟩) ⟨PM_blind, PM_pre⟩ rfl rfl hl.1 rfl (lv_room (Nat.le_of_ble_eq_true rfl)) dX11_text_8 ⟨show 0 + 0 ≤ 500 by omega, show 0 + 0 ≤ 20000 by omega⟩) (fun r2 hr2 => ?_)
  refine M_calli hw (MA.up hw.2.2.1.1) (va_runV (own := "LeastreaderModel") (As := [.int r1, .int r2]) (rest := []) ⟨hx, hb, hml, hown, ht⟩ (c_X11_isThrown μ H.size r1 r2 (ta_isThrown (Qm := fun r μ9 => FA μ μ9 ∧ (r = 0 → r1 ≠ 0 ∧ r2 ≠ 0)) hRI (fun r μ9 _ f h => ⟨f, h⟩))) (cwV 2 ht (G_V q_1348 q_1350 q_26 q_56 q_1351) rfl rfl rfl ⟨rfl, rd_2⟩ ⟨Nat.le_of_ble_eq_true rfl, Nat.le_of_ble_eq_true rfl⟩) ⟨MB.blind, M_recv hM hw, MB.pre hM hI hw va_P0 ne0⟩ rfl rfl hl.1 rfl (lv_room (Nat.le_of_ble_eq_true rfl)) dX11_text_11 ⟨show 0 + 0 ≤ 500 by omega, show 0 + 0 ≤ 20000 by omega⟩) (fun rT μT H locs hrT hw => ?_)
  obtain ⟨hF, hT⟩ := hrT
  refine lv_if_eq (tgt := 20) hx hb dX11_text_14 (by decide) (fun c9 => ?_) (fun c9 => ?_)
  · have hm := hr1.2 (hT c9).1
    refine lv_aload_n hx hb dX11_text_20 rfl (lv_at hl 0 rfl) ?_
    refine lv_iload_n hx hb dX11_text_21 rfl (lv_at hl 1 rfl) ?_
    refine lv_iload_n hx hb dX11_text_22 rfl (lv_at hl 2 rfl) ?_
    refine M_callA hw (MA.up hw.2.2.1.1) (va_runV (own := "LeastreaderModel") (As := [.int a1, .int a2]) (rest := []) ⟨hx, hb, hml, hown, ht⟩ (c_X11_found μT H.size a1 a2 (t_fnd (K := OWo) hm hF.1 (fun r hr => hr))) (cwV 2 ht (G_V q_1448 q_1450 q_36 q_56 q_1451) rfl rfl rfl ⟨rfl, rd_3⟩ ⟨Nat.le_of_ble_eq_true rfl, Nat.le_of_ble_eq_true rfl⟩) ⟨MB.blind, M_recv hM hw, MB.pre hM hI hw va_P0 ne0⟩ rfl rfl hl.1 rfl (lv_room (Nat.le_of_ble_eq_true rfl)) dX11_text_23 ⟨show 0 + 0 + 41 ≤ 500 by omega, show 0 + 0 + 1685 ≤ 20000 by omega⟩) (fun μA H locs h hw => ?_) (fun qa nn ff μA H locs hqa h hw => ?_)
    · obtain ⟨e7, h⟩ := h
      rw [e7] at hw
      refine lv_astore_nN (lv' := [(3, .null), (0, .ref (ad 0)), (1, .int a1), (2, .int a2)]) hx hb dX11_text_26 rfl hl (by decide) rfl (fun ls hl => ?_)
      refine lv_aload_n hx hb dX11_text_27 rfl (lv_at hl 1 rfl) ?_
      refine lv_aload_nN hx hb dX11_text_28 rfl (lv_at hl 0 rfl) ?_
      refine lv_iconst (v := (3 : Int32)) hx hb dX11_text_29 (by decide) ?_
      refine M_calli hw (MA.up hw.2.2.1.1) (va_runV (own := "LeastreaderModel") (As := [.null, .int (3 : Int32)]) (rest := []) ⟨hx, hb, hml, hown, ht⟩ (c_X11_isCrowded_n μT H.size (3 : Int32) (ta_isCrowded_n (Qm := fun r μ9 => r = 1 ∧ FA μT μ9) hF.1 (fun μ9 f => ⟨rfl, f⟩))) (cwV 2 ht (G_V q_1520 q_1522 q_42 q_56 q_1523) rfl rfl rfl ⟨rfl, rd_4⟩ ⟨Nat.le_of_ble_eq_true rfl, Nat.le_of_ble_eq_true rfl⟩) ⟨MB.blind, M_recv hM hw, MB.pre hM hI hw va_P0 ne0⟩ rfl rfl hl.1 rfl (lv_room (Nat.le_of_ble_eq_true rfl)) dX11_text_30 ⟨show 0 + 0 + 41 + 0 ≤ 500 by omega, show 0 + 0 + 1685 + 0 ≤ 20000 by omega⟩) (fun rC μC H locs hrC hw => ?_)
      obtain ⟨hC0, hFC⟩ := hrC
      have hF2 := hF.trans hFC
      refine lv_if_eq (tgt := 39) hx hb dX11_text_33 (by decide) (fun c9 => absurd c9 (by rw [hC0]; decide)) (fun c9 => ?_)
      obtain ⟨sa3, sa3b, sa3w, sa3h, sa3r, sa3O⟩ := hX _ (List.mem_of_getElem? (i := 0) rfl)
      refine va_ldcS hx hb hown sa3r dX11_text_36 ?_
      exact hret H locs ls 38 _ _ _ _ _ hw hF2 (show 0 + 0 + 41 + 0 ≤ 500 by omega) (show 0 + 0 + 1685 + 0 ≤ 20000 by omega) dX11_text_38
    · obtain ⟨e7, h⟩ := h
      rw [e7] at hw
      obtain ⟨S, hS1, hS, rfl, hfo, hgo⟩ := (h _ _ rfl).get
      have hw : MW D (MR ad cI μT) [(qa, .inl (cI, (4 * S), .inl ff))] (MA ad s.heap.size) s H locs := hw
      refine lv_astore_n (lv' := [(3, .ref qa), (0, .ref (ad 0)), (1, .int a1), (2, .int a2)]) hx hb dX11_text_26 rfl hl (by decide) rfl (fun ls hl => ?_)
      refine lv_aload_n hx hb dX11_text_27 rfl (lv_at hl 1 rfl) ?_
      refine lv_aload_n hx hb dX11_text_28 rfl (lv_at hl 0 rfl) ?_
      refine lv_iconst (v := (3 : Int32)) hx hb dX11_text_29 (by decide) ?_
      refine M_calli hw (MA.up hw.2.2.1.1) (va_runV (own := "LeastreaderModel") (As := [.ref qa, .int (3 : Int32)]) (rest := []) ⟨hx, hb, hml, hown, ht⟩ (c_X11_isCrowded qa μT H.size (4 * S) ff (3 : Int32) (ta_isCrowded' (Qm := fun r μ9 => r = 0 ∧ FA μT μ9 ∧ (∀ k : Nat, 1 ≤ k → μ9 k = μT k)) hF.1 (fun μ9 f e => ⟨rfl, f, e⟩))) (cwV 2 ht (G_V q_1520 q_1522 q_42 q_56 q_1523) rfl rfl rfl ⟨rfl, rd_4⟩ ⟨Nat.le_of_ble_eq_true rfl, Nat.le_of_ble_eq_true rfl⟩) ⟨MB.blind, M_recv hM hw, MB.pre hM hI hw (va_Pc2 (hw.n (j := 0) rfl) va_P0) (neC (hw.ne (j := 0) rfl) ne0)⟩ rfl rfl hl.1 rfl (lv_room (Nat.le_of_ble_eq_true rfl)) dX11_text_30 ⟨show 0 + 0 + 41 + 0 ≤ 500 by omega, show 0 + 0 + 1685 + 0 ≤ 20000 by omega⟩) (fun rC μC H locs hrC hw => ?_)
      obtain ⟨hC0, hFC, hEC⟩ := hrC
      have hF2 := hF.trans hFC
      refine lv_if_eq (tgt := 39) hx hb dX11_text_33 (by decide) (fun c9 => ?_) (fun c9 => absurd hC0 c9)
      have zq3 := (quart hS).2.2.1
      refine n_newO (fs := [.null, .int 0, .int 0, .int 0]) hx hb ht in_11 tyJ4 tyJ4_ok hown (ht _ q_1533) (ht _ q_893) (ht _ q_67) hK hw cl_11 (fun j hj => by rcases (show j = 0 ∨ j = 1 ∨ j = 2 ∨ j = 3 by omega) with rfl | rfl | rfl | rfl <;> rfl) (show 0 + 0 + 41 + 0 + 1 ≤ 500 by omega) (show 0 + 0 + 1685 + 0 + 4 ≤ 20000 by omega) dX11_text_39 (fun q4 H hw => ?_)
      have hw : MW D (MR ad cI μC) [(qa, .inl (cI, (4 * S), .inl ff)), (q4, .inr (11, [.null, .int 0, .int 0, .int 0]))] (MA ad s.heap.size) s H locs := hw
      refine lv_dup hx hb dX11_text_42 rfl ?_
      refine J_callv (N0 := [(qa, .inl (cI, (4 * S), .inl ff))]) (ws := [(q4, .inr (11, [.null, .int 0, .int 0, .int 0]))]) hw (va_runI (own := "LeastreaderModel") (As := []) (rest := [.ref q4]) ⟨hx, hb, hml, hown, ht⟩ (c_J4_init_da8c8 q4 H.size) (cwI 0 ht (G_ws q_896) rfl rfl rfl (ht _ q_67) (ht _ q_1534) (ht _ q_895) rfl rd_5 ⟨Nat.le_of_ble_eq_true rfl, Nat.le_of_ble_eq_true rfl⟩) ⟨JB.blind, JB.pre (N0 := [(qa, .inl (cI, (4 * S), .inl ff))]) (ws := [(q4, .inr (11, [.null, .int 0, .int 0, .int 0]))]) hK hC hZ hw SL0⟩ rfl rfl hl.1 rfl (lv_room (Nat.le_of_ble_eq_true rfl)) dX11_text_43 ⟨show 0 + 0 + 41 + 0 + 1 + 1 ≤ 500 by omega, show 0 + 0 + 1685 + 0 + 4 + 16 ≤ 20000 by omega⟩) (fun u5 H locs hp6 hw => ?_)
      have hw : MW D (MR ad cI μC) [(qa, .inl (cI, (4 * S), .inl ff)), (q4, .inr (11, [.ref u5, .int 0, .int 0, .int (nI 0)])), (u5, .inl (cB, 16, .inl (fun _ => 0)))] (MA ad s.heap.size) s H locs := hw
      have hB0 : BSo 42 2101 16 0 (0 + 0 + 41 + 0 + 1 + 1) (0 + 0 + 1685 + 0 + 4 + 16) := ⟨by omega, by omega, by omega, by omega, by omega⟩
      refine lv_astore (lv' := [(4, .ref q4), (3, .ref qa), (0, .ref (ad 0)), (1, .int a1), (2, .int a2)]) hx hb dX11_text_46 hl (by decide) rfl (fun ls hl => ?_)
      refine lv_iconst (v := (0 : Int32)) hx hb dX11_text_48 (by decide) ?_
      refine lv_istore (lv' := [(5, .int (0 : Int32)), (4, .ref q4), (3, .ref qa), (0, .ref (ad 0)), (1, .int a1), (2, .int a2)]) hx hb dX11_text_49 hl (by decide) rfl (fun ls hl => ?_)
      have L51 : ∀ (k : Nat) (i : Int32) (t : Nat) (n v m cv sv : Nat) (f : Nat → Int32) (H : Heap) (locs : List Loc) (ls : Array Slot), S - t < k → i.toInt = 4 * (t : Int) → t ≤ S → n ≤ 40 * t → BSo 42 2101 m n cv sv → FT f → MW D (MR ad cI μC) [(qa, .inl (cI, (4 * S), .inl ff)), (q4, .inr (11, [.ref v, .int 0, .int 0, .int (nI n)])), (v, .inl (cB, m, .inl f))] (MA ad s.heap.size) s H locs → lv_has ls 6 [(3, .ref qa), (4, .ref q4), (5, .int i)] → W p l e (RA 6 500 20000) s mI #[.ref (ad 0), .int a1, .int a2] below meth c H locs cv sv Z (F0 mI 51 ls []) := by
        intro k
        induction k with
        | zero => intro i t n v m cv sv f H locs ls hk; exact absurd hk (Nat.not_lt_zero _)
        | succ k ih =>
          intro i t n v m cv sv f H locs ls hk hi ht9 hn hB hf hw hl
          refine lv_iload hx hb dX11_text_51 (lv_at hl 2 rfl) ?_
          refine lv_aload_n hx hb dX11_text_53 rfl (lv_at hl 0 rfl) ?_
          refine n_alenI hx hb hM (hw.n (j := 0) rfl) dX11_text_54 ?_
          refine lv_icmp_ge (tgt := 137) hx hb dX11_text_55 (by decide) (fun c9 => ?_) (fun c9 => ?_)
          · refine lv_aload hx hb dX11_text_137 (lv_at hl 1 rfl) ?_
            have hBx := hB
            obtain ⟨_, _, _, _, _⟩ := hBx
            refine J_callr (N0 := [(qa, .inl (cI, (4 * S), .inl ff))]) (ws := [(q4, .inr (11, [.ref v, .int 0, .int 0, .int (nI n)])), (v, .inl (cB, m, .inl f))]) hw (va_runV (own := "LeastreaderModel") (As := []) (rest := []) ⟨hx, hb, hml, hown, ht⟩ (c_J4_toString_0e30d q4 v m n f H.size (by omega) (by omega) hf) (cwV 0 ht (G_V q_1540 q_1054 q_1055 q_67 q_1056) rfl rfl rfl ⟨rfl, rd_6⟩ ⟨Nat.le_of_ble_eq_true rfl, Nat.le_of_ble_eq_true rfl⟩) ⟨JB.blind, J_recv hK hw (j := 1) rfl cl_11, JB.pre (N0 := [(qa, .inl (cI, (4 * S), .inl ff))]) (ws := [(q4, .inr (11, [.ref v, .int 0, .int 0, .int (nI n)])), (v, .inl (cB, m, .inl f))]) hK hC hZ hw SL0⟩ rfl rfl hl.1 rfl (lv_room (Nat.le_of_ble_eq_true rfl)) dX11_text_139 ⟨show cv + 2 ≤ 500 by omega, show sv + (n + 4) ≤ 20000 by omega⟩) (fun u8 H locs hp9 hw => ?_)
            have hw : MW D (MR ad cI μC) [(qa, .inl (cI, (4 * S), .inl ff)), (u8.1, .inr (12, [.ref u8.2.1, .int 0, .int 0, .int 0])), (q4, .inr (11, [.ref v, .int 0, .int 0, .int (nI n)])), (v, .inl (cB, m, .inl f)), (u8.2.1, .inl (cB, n, .inl u8.2.2))] (MA ad s.heap.size) s H locs := hw
            exact hret H locs ls 142 _ _ _ _ _ hw hF2 (show cv + 2 ≤ 500 by omega) (show sv + (n + 4) ≤ 20000 by omega) dX11_text_142
          · have c1 := nle c9
            rw [zq3] at c1
            have e1 : (i + (1 : Int32)).toInt = i.toInt + 1 := ii_a rfl rfl (by omega) (by omega)
            have e2 : (i + (2 : Int32)).toInt = i.toInt + 2 := ii_a rfl rfl (by omega) (by omega)
            have e3 : (i + (3 : Int32)).toInt = i.toInt + 3 := ii_a rfl rfl (by omega) (by omega)
            have e4 : (i + (4 : Int32)).toInt = i.toInt + 4 := ii_a rfl rfl (by omega) (by omega)
            refine lv_aload hx hb dX11_text_58 (lv_at hl 1 rfl) ?_
            refine lv_iload hx hb dX11_text_60 (lv_at hl 2 rfl) ?_
            refine lv_if_le (tgt := 70) hx hb dX11_text_62 (by decide) (fun c9 => ?_) (fun c9 => ?_)
            · obtain ⟨sa11, sa11b, sa11w, sa11h, sa11r, sa11O⟩ := hX _ (List.mem_of_getElem? (i := 0) rfl)
              refine va_ldcS hx hb hown sa11r dX11_text_70 ?_
              have hB12 := BSo.add sa11w hB
              have hB12x := hB12
              obtain ⟨_, _, _, _, _⟩ := hB12x
              have hBx := hB
              obtain ⟨_, _, _, _, _⟩ := hBx
              have hO := sa11O
              refine J_callr (N0 := [(qa, .inl (cI, (4 * S), .inl ff))]) (ws := [(q4, .inr (11, [.ref v, .int 0, .int 0, .int (nI n)])), (v, .inl (cB, m, .inl f))]) hw (va_runV (own := "LeastreaderModel") (As := [.ref sa11]) (rest := []) ⟨hx, hb, hml, hown, ht⟩ (c_J4_append_15ec4 sa11 sa11b sa11w q4 v m n f H.size (by omega) (by omega) (by omega) (by omega) hf) (cwV 1 ht (G_V q_1536 q_1095 q_1096 q_67 q_1097) rfl rfl rfl ⟨rfl, rd_7⟩ ⟨Nat.le_of_ble_eq_true rfl, Nat.le_of_ble_eq_true rfl⟩) ⟨JB.blind, J_recv hK hw (j := 1) rfl cl_11, JB.pre (N0 := [(qa, .inl (cI, (4 * S), .inl ff))]) (ws := [(q4, .inr (11, [.ref v, .int 0, .int 0, .int (nI n)])), (v, .inl (cB, m, .inl f))]) hK hC hZ hw (SL1 (SO.pass (N0 := [(qa, .inl (cI, (4 * S), .inl ff))]) (ws := [(q4, .inr (11, [.ref v, .int 0, .int 0, .int (nI n)])), (v, .inl (cB, m, .inl f))]) hO hw))⟩ rfl rfl hl.1 rfl (lv_room (Nat.le_of_ble_eq_true rfl)) dX11_text_72 ⟨show cv + (gr (n + sa11w) m) ≤ 500 by omega, show sv + (gs (n + sa11w) m) ≤ 20000 by omega⟩) (fun u15 H locs hp16 hw => ?_)
              obtain ⟨v13, f14⟩ := u15
              have hw : MW D (MR ad cI μC) [(qa, .inl (cI, (4 * S), .inl ff)), (q4, .inr (11, [.ref v13, .int 0, .int 0, .int (nI (n + sa11w))])), (v13, .inl (cB, (cap (n + sa11w) m), .inl f14))] (MA ad s.heap.size) s H locs := hw
              refine lv_aload_n hx hb dX11_text_75 rfl (lv_at hl 0 rfl) ?_
              refine lv_iload hx hb dX11_text_76 (lv_at hl 2 rfl) ?_
              refine n_iald hx hb hM (hw.n (j := 0) rfl) (i := i) (vin (by omega)) dX11_text_78 ?_
              refine lv_topi (fun y1 ey1 => ?_)
              have hsk := szk_b y1
              have hB18 := BSo.add (szk y1) hB12
              have hB18x := hB18
              obtain ⟨_, _, _, _, _⟩ := hB18x
              have hBx := hB12
              obtain ⟨_, _, _, _, _⟩ := hBx
              refine J_callr (N0 := [(qa, .inl (cI, (4 * S), .inl ff))]) (ws := [(q4, .inr (11, [.ref v13, .int 0, .int 0, .int (nI (n + sa11w))])), (v13, .inl (cB, (cap (n + sa11w) m), .inl f14))]) hw (va_runV (own := "LeastreaderModel") (As := [.int y1]) (rest := []) ⟨hx, hb, hml, hown, ht⟩ (c_J4_append_bf812 q4 v13 (cap (n + sa11w) m) (n + sa11w) f14 y1 H.size (by omega) (by omega) (by omega) hp16) (cwV 1 ht (G_V q_1537 q_1019 q_1020 q_67 q_1021) rfl rfl rfl ⟨rfl, rd_8⟩ ⟨Nat.le_of_ble_eq_true rfl, Nat.le_of_ble_eq_true rfl⟩) ⟨JB.blind, J_recv hK hw (j := 1) rfl cl_11, JB.pre (N0 := [(qa, .inl (cI, (4 * S), .inl ff))]) (ws := [(q4, .inr (11, [.ref v13, .int 0, .int 0, .int (nI (n + sa11w))])), (v13, .inl (cB, (cap (n + sa11w) m), .inl f14))]) hK hC hZ hw SL0⟩ rfl rfl hl.1 rfl (lv_room (Nat.le_of_ble_eq_true rfl)) dX11_text_79 ⟨show cv + (gr (n + sa11w) m) + (gr ((n + sa11w) + szk y1) (cap (n + sa11w) m)) ≤ 500 by omega, show sv + (gs (n + sa11w) m) + (gs ((n + sa11w) + szk y1) (cap (n + sa11w) m)) ≤ 20000 by omega⟩) (fun u21 H locs hp22 hw => ?_)
              obtain ⟨v19, f20⟩ := u21
              have hw : MW D (MR ad cI μC) [(qa, .inl (cI, (4 * S), .inl ff)), (q4, .inr (11, [.ref v19, .int 0, .int 0, .int (nI ((n + sa11w) + szk y1))])), (v19, .inl (cB, (cap ((n + sa11w) + szk y1) (cap (n + sa11w) m)), .inl f20))] (MA ad s.heap.size) s H locs := hw
              refine lv_bipush (v := (44 : Int32)) hx hb dX11_text_82 (by decide) ?_
              have hB24 := BSo.add 1 hB18
              have hB24x := hB24
              obtain ⟨_, _, _, _, _⟩ := hB24x
              have hBx := hB18
              obtain ⟨_, _, _, _, _⟩ := hBx
              refine J_callr (N0 := [(qa, .inl (cI, (4 * S), .inl ff))]) (ws := [(q4, .inr (11, [.ref v19, .int 0, .int 0, .int (nI ((n + sa11w) + szk y1))])), (v19, .inl (cB, (cap ((n + sa11w) + szk y1) (cap (n + sa11w) m)), .inl f20))]) hw (va_runV (own := "LeastreaderModel") (As := [.int (44 : Int32)]) (rest := []) ⟨hx, hb, hml, hown, ht⟩ (c_J4_append_cf468 q4 v19 (cap ((n + sa11w) + szk y1) (cap (n + sa11w) m)) ((n + sa11w) + szk y1) f20 (44 : Int32) H.size (by omega) (by omega) (by omega) hp22 (by decide)) (cwV 1 ht (G_V q_1538 q_924 q_925 q_67 q_926) rfl rfl rfl ⟨rfl, rd_9⟩ ⟨Nat.le_of_ble_eq_true rfl, Nat.le_of_ble_eq_true rfl⟩) ⟨JB.blind, J_recv hK hw (j := 1) rfl cl_11, JB.pre (N0 := [(qa, .inl (cI, (4 * S), .inl ff))]) (ws := [(q4, .inr (11, [.ref v19, .int 0, .int 0, .int (nI ((n + sa11w) + szk y1))])), (v19, .inl (cB, (cap ((n + sa11w) + szk y1) (cap (n + sa11w) m)), .inl f20))]) hK hC hZ hw SL0⟩ rfl rfl hl.1 rfl (lv_room (Nat.le_of_ble_eq_true rfl)) dX11_text_84 ⟨show cv + (gr (n + sa11w) m) + (gr ((n + sa11w) + szk y1) (cap (n + sa11w) m)) + (gr (((n + sa11w) + szk y1) + 1) (cap ((n + sa11w) + szk y1) (cap (n + sa11w) m))) ≤ 500 by omega, show sv + (gs (n + sa11w) m) + (gs ((n + sa11w) + szk y1) (cap (n + sa11w) m)) + (gs (((n + sa11w) + szk y1) + 1) (cap ((n + sa11w) + szk y1) (cap (n + sa11w) m))) ≤ 20000 by omega⟩) (fun u27 H locs hp28 hw => ?_)
              obtain ⟨v25, f26⟩ := u27
              have hw : MW D (MR ad cI μC) [(qa, .inl (cI, (4 * S), .inl ff)), (q4, .inr (11, [.ref v25, .int 0, .int 0, .int (nI (((n + sa11w) + szk y1) + 1))])), (v25, .inl (cB, (cap (((n + sa11w) + szk y1) + 1) (cap ((n + sa11w) + szk y1) (cap (n + sa11w) m))), .inl f26))] (MA ad s.heap.size) s H locs := hw
              refine lv_aload_n hx hb dX11_text_87 rfl (lv_at hl 0 rfl) ?_
              refine lv_iload hx hb dX11_text_88 (lv_at hl 2 rfl) ?_
              refine lv_iconst (v := (1 : Int32)) hx hb dX11_text_90 (by decide) ?_
              refine lv_iadd hx hb dX11_text_91 ?_
              refine n_iald hx hb hM (hw.n (j := 0) rfl) (i := (i + (1 : Int32))) (vin (by omega)) dX11_text_92 ?_
              refine lv_topi (fun y2 ey2 => ?_)
              have hsk := szk_b y2
              have hB30 := BSo.add (szk y2) hB24
              have hB30x := hB30
              obtain ⟨_, _, _, _, _⟩ := hB30x
              have hBx := hB24
              obtain ⟨_, _, _, _, _⟩ := hBx
              refine J_callr (N0 := [(qa, .inl (cI, (4 * S), .inl ff))]) (ws := [(q4, .inr (11, [.ref v25, .int 0, .int 0, .int (nI (((n + sa11w) + szk y1) + 1))])), (v25, .inl (cB, (cap (((n + sa11w) + szk y1) + 1) (cap ((n + sa11w) + szk y1) (cap (n + sa11w) m))), .inl f26))]) hw (va_runV (own := "LeastreaderModel") (As := [.int y2]) (rest := []) ⟨hx, hb, hml, hown, ht⟩ (c_J4_append_bf812 q4 v25 (cap (((n + sa11w) + szk y1) + 1) (cap ((n + sa11w) + szk y1) (cap (n + sa11w) m))) (((n + sa11w) + szk y1) + 1) f26 y2 H.size (by omega) (by omega) (by omega) hp28) (cwV 1 ht (G_V q_1537 q_1019 q_1020 q_67 q_1021) rfl rfl rfl ⟨rfl, rd_8⟩ ⟨Nat.le_of_ble_eq_true rfl, Nat.le_of_ble_eq_true rfl⟩) ⟨JB.blind, J_recv hK hw (j := 1) rfl cl_11, JB.pre (N0 := [(qa, .inl (cI, (4 * S), .inl ff))]) (ws := [(q4, .inr (11, [.ref v25, .int 0, .int 0, .int (nI (((n + sa11w) + szk y1) + 1))])), (v25, .inl (cB, (cap (((n + sa11w) + szk y1) + 1) (cap ((n + sa11w) + szk y1) (cap (n + sa11w) m))), .inl f26))]) hK hC hZ hw SL0⟩ rfl rfl hl.1 rfl (lv_room (Nat.le_of_ble_eq_true rfl)) dX11_text_93 ⟨show cv + (gr (n + sa11w) m) + (gr ((n + sa11w) + szk y1) (cap (n + sa11w) m)) + (gr (((n + sa11w) + szk y1) + 1) (cap ((n + sa11w) + szk y1) (cap (n + sa11w) m))) + (gr ((((n + sa11w) + szk y1) + 1) + szk y2) (cap (((n + sa11w) + szk y1) + 1) (cap ((n + sa11w) + szk y1) (cap (n + sa11w) m)))) ≤ 500 by omega, show sv + (gs (n + sa11w) m) + (gs ((n + sa11w) + szk y1) (cap (n + sa11w) m)) + (gs (((n + sa11w) + szk y1) + 1) (cap ((n + sa11w) + szk y1) (cap (n + sa11w) m))) + (gs ((((n + sa11w) + szk y1) + 1) + szk y2) (cap (((n + sa11w) + szk y1) + 1) (cap ((n + sa11w) + szk y1) (cap (n + sa11w) m)))) ≤ 20000 by omega⟩) (fun u33 H locs hp34 hw => ?_)
              obtain ⟨v31, f32⟩ := u33
              have hw : MW D (MR ad cI μC) [(qa, .inl (cI, (4 * S), .inl ff)), (q4, .inr (11, [.ref v31, .int 0, .int 0, .int (nI ((((n + sa11w) + szk y1) + 1) + szk y2))])), (v31, .inl (cB, (cap ((((n + sa11w) + szk y1) + 1) + szk y2) (cap (((n + sa11w) + szk y1) + 1) (cap ((n + sa11w) + szk y1) (cap (n + sa11w) m)))), .inl f32))] (MA ad s.heap.size) s H locs := hw
              refine lv_bipush (v := (44 : Int32)) hx hb dX11_text_96 (by decide) ?_
              have hB36 := BSo.add 1 hB30
              have hB36x := hB36
              obtain ⟨_, _, _, _, _⟩ := hB36x
              have hBx := hB30
              obtain ⟨_, _, _, _, _⟩ := hBx
              refine J_callr (N0 := [(qa, .inl (cI, (4 * S), .inl ff))]) (ws := [(q4, .inr (11, [.ref v31, .int 0, .int 0, .int (nI ((((n + sa11w) + szk y1) + 1) + szk y2))])), (v31, .inl (cB, (cap ((((n + sa11w) + szk y1) + 1) + szk y2) (cap (((n + sa11w) + szk y1) + 1) (cap ((n + sa11w) + szk y1) (cap (n + sa11w) m)))), .inl f32))]) hw (va_runV (own := "LeastreaderModel") (As := [.int (44 : Int32)]) (rest := []) ⟨hx, hb, hml, hown, ht⟩ (c_J4_append_cf468 q4 v31 (cap ((((n + sa11w) + szk y1) + 1) + szk y2) (cap (((n + sa11w) + szk y1) + 1) (cap ((n + sa11w) + szk y1) (cap (n + sa11w) m)))) ((((n + sa11w) + szk y1) + 1) + szk y2) f32 (44 : Int32) H.size (by omega) (by omega) (by omega) hp34 (by decide)) (cwV 1 ht (G_V q_1538 q_924 q_925 q_67 q_926) rfl rfl rfl ⟨rfl, rd_9⟩ ⟨Nat.le_of_ble_eq_true rfl, Nat.le_of_ble_eq_true rfl⟩) ⟨JB.blind, J_recv hK hw (j := 1) rfl cl_11, JB.pre (N0 := [(qa, .inl (cI, (4 * S), .inl ff))]) (ws := [(q4, .inr (11, [.ref v31, .int 0, .int 0, .int (nI ((((n + sa11w) + szk y1) + 1) + szk y2))])), (v31, .inl (cB, (cap ((((n + sa11w) + szk y1) + 1) + szk y2) (cap (((n + sa11w) + szk y1) + 1) (cap ((n + sa11w) + szk y1) (cap (n + sa11w) m)))), .inl f32))]) hK hC hZ hw SL0⟩ rfl rfl hl.1 rfl (lv_room (Nat.le_of_ble_eq_true rfl)) dX11_text_98 ⟨show cv + (gr (n + sa11w) m) + (gr ((n + sa11w) + szk y1) (cap (n + sa11w) m)) + (gr (((n + sa11w) + szk y1) + 1) (cap ((n + sa11w) + szk y1) (cap (n + sa11w) m))) + (gr ((((n + sa11w) + szk y1) + 1) + szk y2) (cap (((n + sa11w) + szk y1) + 1) (cap ((n + sa11w) + szk y1) (cap (n + sa11w) m)))) + (gr (((((n + sa11w) + szk y1) + 1) + szk y2) + 1) (cap ((((n + sa11w) + szk y1) + 1) + szk y2) (cap (((n + sa11w) + szk y1) + 1) (cap ((n + sa11w) + szk y1) (cap (n + sa11w) m))))) ≤ 500 by omega, show sv + (gs (n + sa11w) m) + (gs ((n + sa11w) + szk y1) (cap (n + sa11w) m)) + (gs (((n + sa11w) + szk y1) + 1) (cap ((n + sa11w) + szk y1) (cap (n + sa11w) m))) + (gs ((((n + sa11w) + szk y1) + 1) + szk y2) (cap (((n + sa11w) + szk y1) + 1) (cap ((n + sa11w) + szk y1) (cap (n + sa11w) m)))) + (gs (((((n + sa11w) + szk y1) + 1) + szk y2) + 1) (cap ((((n + sa11w) + szk y1) + 1) + szk y2) (cap (((n + sa11w) + szk y1) + 1) (cap ((n + sa11w) + szk y1) (cap (n + sa11w) m))))) ≤ 20000 by omega⟩) (fun u39 H locs hp40 hw => ?_)
              obtain ⟨v37, f38⟩ := u39
              have hw : MW D (MR ad cI μC) [(qa, .inl (cI, (4 * S), .inl ff)), (q4, .inr (11, [.ref v37, .int 0, .int 0, .int (nI (((((n + sa11w) + szk y1) + 1) + szk y2) + 1))])), (v37, .inl (cB, (cap (((((n + sa11w) + szk y1) + 1) + szk y2) + 1) (cap ((((n + sa11w) + szk y1) + 1) + szk y2) (cap (((n + sa11w) + szk y1) + 1) (cap ((n + sa11w) + szk y1) (cap (n + sa11w) m))))), .inl f38))] (MA ad s.heap.size) s H locs := hw
              refine lv_aload_n hx hb dX11_text_101 rfl (lv_at hl 0 rfl) ?_
              refine lv_iload hx hb dX11_text_102 (lv_at hl 2 rfl) ?_
              refine lv_iconst (v := (2 : Int32)) hx hb dX11_text_104 (by decide) ?_
              refine lv_iadd hx hb dX11_text_105 ?_
              refine n_iald hx hb hM (hw.n (j := 0) rfl) (i := (i + (2 : Int32))) (vin (by omega)) dX11_text_106 ?_
              refine lv_topi (fun y3 ey3 => ?_)
              have hsk := szk_b y3
              have hB42 := BSo.add (szk y3) hB36
              have hB42x := hB42
              obtain ⟨_, _, _, _, _⟩ := hB42x
              have hBx := hB36
              obtain ⟨_, _, _, _, _⟩ := hBx
              refine J_callr (N0 := [(qa, .inl (cI, (4 * S), .inl ff))]) (ws := [(q4, .inr (11, [.ref v37, .int 0, .int 0, .int (nI (((((n + sa11w) + szk y1) + 1) + szk y2) + 1))])), (v37, .inl (cB, (cap (((((n + sa11w) + szk y1) + 1) + szk y2) + 1) (cap ((((n + sa11w) + szk y1) + 1) + szk y2) (cap (((n + sa11w) + szk y1) + 1) (cap ((n + sa11w) + szk y1) (cap (n + sa11w) m))))), .inl f38))]) hw (va_runV (own := "LeastreaderModel") (As := [.int y3]) (rest := []) ⟨hx, hb, hml, hown, ht⟩ (c_J4_append_bf812 q4 v37 (cap (((((n + sa11w) + szk y1) + 1) + szk y2) + 1) (cap ((((n + sa11w) + szk y1) + 1) + szk y2) (cap (((n + sa11w) + szk y1) + 1) (cap ((n + sa11w) + szk y1) (cap (n + sa11w) m))))) (((((n + sa11w) + szk y1) + 1) + szk y2) + 1) f38 y3 H.size (by omega) (by omega) (by omega) hp40) (cwV 1 ht (G_V q_1537 q_1019 q_1020 q_67 q_1021) rfl rfl rfl ⟨rfl, rd_8⟩ ⟨Nat.le_of_ble_eq_true rfl, Nat.le_of_ble_eq_true rfl⟩) ⟨JB.blind, J_recv hK hw (j := 1) rfl cl_11, JB.pre (N0 := [(qa, .inl (cI, (4 * S), .inl ff))]) (ws := [(q4, .inr (11, [.ref v37, .int 0, .int 0, .int (nI (((((n + sa11w) + szk y1) + 1) + szk y2) + 1))])), (v37, .inl (cB, (cap (((((n + sa11w) + szk y1) + 1) + szk y2) + 1) (cap ((((n + sa11w) + szk y1) + 1) + szk y2) (cap (((n + sa11w) + szk y1) + 1) (cap ((n + sa11w) + szk y1) (cap (n + sa11w) m))))), .inl f38))]) hK hC hZ hw SL0⟩ rfl rfl hl.1 rfl (lv_room (Nat.le_of_ble_eq_true rfl)) dX11_text_107 ⟨show cv + (gr (n + sa11w) m) + (gr ((n + sa11w) + szk y1) (cap (n + sa11w) m)) + (gr (((n + sa11w) + szk y1) + 1) (cap ((n + sa11w) + szk y1) (cap (n + sa11w) m))) + (gr ((((n + sa11w) + szk y1) + 1) + szk y2) (cap (((n + sa11w) + szk y1) + 1) (cap ((n + sa11w) + szk y1) (cap (n + sa11w) m)))) + (gr (((((n + sa11w) + szk y1) + 1) + szk y2) + 1) (cap ((((n + sa11w) + szk y1) + 1) + szk y2) (cap (((n + sa11w) + szk y1) + 1) (cap ((n + sa11w) + szk y1) (cap (n + sa11w) m))))) + (gr ((((((n + sa11w) + szk y1) + 1) + szk y2) + 1) + szk y3) (cap (((((n + sa11w) + szk y1) + 1) + szk y2) + 1) (cap ((((n + sa11w) + szk y1) + 1) + szk y2) (cap (((n + sa11w) + szk y1) + 1) (cap ((n + sa11w) + szk y1) (cap (n + sa11w) m)))))) ≤ 500 by omega, show sv + (gs (n + sa11w) m) + (gs ((n + sa11w) + szk y1) (cap (n + sa11w) m)) + (gs (((n + sa11w) + szk y1) + 1) (cap ((n + sa11w) + szk y1) (cap (n + sa11w) m))) + (gs ((((n + sa11w) + szk y1) + 1) + szk y2) (cap (((n + sa11w) + szk y1) + 1) (cap ((n + sa11w) + szk y1) (cap (n + sa11w) m)))) + (gs (((((n + sa11w) + szk y1) + 1) + szk y2) + 1) (cap ((((n + sa11w) + szk y1) + 1) + szk y2) (cap (((n + sa11w) + szk y1) + 1) (cap ((n + sa11w) + szk y1) (cap (n + sa11w) m))))) + (gs ((((((n + sa11w) + szk y1) + 1) + szk y2) + 1) + szk y3) (cap (((((n + sa11w) + szk y1) + 1) + szk y2) + 1) (cap ((((n + sa11w) + szk y1) + 1) + szk y2) (cap (((n + sa11w) + szk y1) + 1) (cap ((n + sa11w) + szk y1) (cap (n + sa11w) m)))))) ≤ 20000 by omega⟩) (fun u45 H locs hp46 hw => ?_)
              obtain ⟨v43, f44⟩ := u45
              have hw : MW D (MR ad cI μC) [(qa, .inl (cI, (4 * S), .inl ff)), (q4, .inr (11, [.ref v43, .int 0, .int 0, .int (nI ((((((n + sa11w) + szk y1) + 1) + szk y2) + 1) + szk y3))])), (v43, .inl (cB, (cap ((((((n + sa11w) + szk y1) + 1) + szk y2) + 1) + szk y3) (cap (((((n + sa11w) + szk y1) + 1) + szk y2) + 1) (cap ((((n + sa11w) + szk y1) + 1) + szk y2) (cap (((n + sa11w) + szk y1) + 1) (cap ((n + sa11w) + szk y1) (cap (n + sa11w) m)))))), .inl f44))] (MA ad s.heap.size) s H locs := hw
              refine lv_aload_n hx hb dX11_text_110 rfl (lv_at hl 0 rfl) ?_
              refine lv_iload hx hb dX11_text_111 (lv_at hl 2 rfl) ?_
              refine lv_iconst (v := (3 : Int32)) hx hb dX11_text_113 (by decide) ?_
              refine lv_iadd hx hb dX11_text_114 ?_
              refine n_iald hx hb hM (hw.n (j := 0) rfl) (i := (i + (3 : Int32))) (vin (by omega)) dX11_text_115 ?_
              refine lv_topi (fun y4 ey4 => ?_)
              refine lv_iconst (v := (1 : Int32)) hx hb dX11_text_116 (by decide) ?_
              refine lv_icmp_ne (tgt := 125) hx hb dX11_text_117 (by decide) (fun c9 => ?_) (fun c9 => ?_)
              · obtain ⟨sa48, sa48b, sa48w, sa48h, sa48r, sa48O⟩ := hX _ (List.mem_of_getElem? (i := 0) rfl)
                refine va_ldcS hx hb hown sa48r dX11_text_125 ?_
                have hB49 := BSo.add sa48w hB42
                have hB49x := hB49
                obtain ⟨_, _, _, _, _⟩ := hB49x
                have hBx := hB42
                obtain ⟨_, _, _, _, _⟩ := hBx
                have hO := sa48O
                refine J_callr (N0 := [(qa, .inl (cI, (4 * S), .inl ff))]) (ws := [(q4, .inr (11, [.ref v43, .int 0, .int 0, .int (nI ((((((n + sa11w) + szk y1) + 1) + szk y2) + 1) + szk y3))])), (v43, .inl (cB, (cap ((((((n + sa11w) + szk y1) + 1) + szk y2) + 1) + szk y3) (cap (((((n + sa11w) + szk y1) + 1) + szk y2) + 1) (cap ((((n + sa11w) + szk y1) + 1) + szk y2) (cap (((n + sa11w) + szk y1) + 1) (cap ((n + sa11w) + szk y1) (cap (n + sa11w) m)))))), .inl f44))]) hw (va_runV (own := "LeastreaderModel") (As := [.ref sa48]) (rest := []) ⟨hx, hb, hml, hown, ht⟩ (c_J4_append_15ec4 sa48 sa48b sa48w q4 v43 (cap ((((((n + sa11w) + szk y1) + 1) + szk y2) + 1) + szk y3) (cap (((((n + sa11w) + szk y1) + 1) + szk y2) + 1) (cap ((((n + sa11w) + szk y1) + 1) + szk y2) (cap (((n + sa11w) + szk y1) + 1) (cap ((n + sa11w) + szk y1) (cap (n + sa11w) m)))))) ((((((n + sa11w) + szk y1) + 1) + szk y2) + 1) + szk y3) f44 H.size (by omega) (by omega) (by omega) (by omega) hp46) (cwV 1 ht (G_V q_1536 q_1095 q_1096 q_67 q_1097) rfl rfl rfl ⟨rfl, rd_7⟩ ⟨Nat.le_of_ble_eq_true rfl, Nat.le_of_ble_eq_true rfl⟩) ⟨JB.blind, J_recv hK hw (j := 1) rfl cl_11, JB.pre (N0 := [(qa, .inl (cI, (4 * S), .inl ff))]) (ws := [(q4, .inr (11, [.ref v43, .int 0, .int 0, .int (nI ((((((n + sa11w) + szk y1) + 1) + szk y2) + 1) + szk y3))])), (v43, .inl (cB, (cap ((((((n + sa11w) + szk y1) + 1) + szk y2) + 1) + szk y3) (cap (((((n + sa11w) + szk y1) + 1) + szk y2) + 1) (cap ((((n + sa11w) + szk y1) + 1) + szk y2) (cap (((n + sa11w) + szk y1) + 1) (cap ((n + sa11w) + szk y1) (cap (n + sa11w) m)))))), .inl f44))]) hK hC hZ hw (SL1 (SO.pass (N0 := [(qa, .inl (cI, (4 * S), .inl ff))]) (ws := [(q4, .inr (11, [.ref v43, .int 0, .int 0, .int (nI ((((((n + sa11w) + szk y1) + 1) + szk y2) + 1) + szk y3))])), (v43, .inl (cB, (cap ((((((n + sa11w) + szk y1) + 1) + szk y2) + 1) + szk y3) (cap (((((n + sa11w) + szk y1) + 1) + szk y2) + 1) (cap ((((n + sa11w) + szk y1) + 1) + szk y2) (cap (((n + sa11w) + szk y1) + 1) (cap ((n + sa11w) + szk y1) (cap (n + sa11w) m)))))), .inl f44))]) hO hw))⟩ rfl rfl hl.1 rfl (lv_room (Nat.le_of_ble_eq_true rfl)) dX11_text_127 ⟨show cv + (gr (n + sa11w) m) + (gr ((n + sa11w) + szk y1) (cap (n + sa11w) m)) + (gr (((n + sa11w) + szk y1) + 1) (cap ((n + sa11w) + szk y1) (cap (n + sa11w) m))) + (gr ((((n + sa11w) + szk y1) + 1) + szk y2) (cap (((n + sa11w) + szk y1) + 1) (cap ((n + sa11w) + szk y1) (cap (n + sa11w) m)))) + (gr (((((n + sa11w) + szk y1) + 1) + szk y2) + 1) (cap ((((n + sa11w) + szk y1) + 1) + szk y2) (cap (((n + sa11w) + szk y1) + 1) (cap ((n + sa11w) + szk y1) (cap (n + sa11w) m))))) + (gr ((((((n + sa11w) + szk y1) + 1) + szk y2) + 1) + szk y3) (cap (((((n + sa11w) + szk y1) + 1) + szk y2) + 1) (cap ((((n + sa11w) + szk y1) + 1) + szk y2) (cap (((n + sa11w) + szk y1) + 1) (cap ((n + sa11w) + szk y1) (cap (n + sa11w) m)))))) + (gr (((((((n + sa11w) + szk y1) + 1) + szk y2) + 1) + szk y3) + sa48w) (cap ((((((n + sa11w) + szk y1) + 1) + szk y2) + 1) + szk y3) (cap (((((n + sa11w) + szk y1) + 1) + szk y2) + 1) (cap ((((n + sa11w) + szk y1) + 1) + szk y2) (cap (((n + sa11w) + szk y1) + 1) (cap ((n + sa11w) + szk y1) (cap (n + sa11w) m))))))) ≤ 500 by omega, show sv + (gs (n + sa11w) m) + (gs ((n + sa11w) + szk y1) (cap (n + sa11w) m)) + (gs (((n + sa11w) + szk y1) + 1) (cap ((n + sa11w) + szk y1) (cap (n + sa11w) m))) + (gs ((((n + sa11w) + szk y1) + 1) + szk y2) (cap (((n + sa11w) + szk y1) + 1) (cap ((n + sa11w) + szk y1) (cap (n + sa11w) m)))) + (gs (((((n + sa11w) + szk y1) + 1) + szk y2) + 1) (cap ((((n + sa11w) + szk y1) + 1) + szk y2) (cap (((n + sa11w) + szk y1) + 1) (cap ((n + sa11w) + szk y1) (cap (n + sa11w) m))))) + (gs ((((((n + sa11w) + szk y1) + 1) + szk y2) + 1) + szk y3) (cap (((((n + sa11w) + szk y1) + 1) + szk y2) + 1) (cap ((((n + sa11w) + szk y1) + 1) + szk y2) (cap (((n + sa11w) + szk y1) + 1) (cap ((n + sa11w) + szk y1) (cap (n + sa11w) m)))))) + (gs (((((((n + sa11w) + szk y1) + 1) + szk y2) + 1) + szk y3) + sa48w) (cap ((((((n + sa11w) + szk y1) + 1) + szk y2) + 1) + szk y3) (cap (((((n + sa11w) + szk y1) + 1) + szk y2) + 1) (cap ((((n + sa11w) + szk y1) + 1) + szk y2) (cap (((n + sa11w) + szk y1) + 1) (cap ((n + sa11w) + szk y1) (cap (n + sa11w) m))))))) ≤ 20000 by omega⟩) (fun u52 H locs hp53 hw => ?_)
                obtain ⟨v50, f51⟩ := u52
                have hw : MW D (MR ad cI μC) [(qa, .inl (cI, (4 * S), .inl ff)), (q4, .inr (11, [.ref v50, .int 0, .int 0, .int (nI (((((((n + sa11w) + szk y1) + 1) + szk y2) + 1) + szk y3) + sa48w))])), (v50, .inl (cB, (cap (((((((n + sa11w) + szk y1) + 1) + szk y2) + 1) + szk y3) + sa48w) (cap ((((((n + sa11w) + szk y1) + 1) + szk y2) + 1) + szk y3) (cap (((((n + sa11w) + szk y1) + 1) + szk y2) + 1) (cap ((((n + sa11w) + szk y1) + 1) + szk y2) (cap (((n + sa11w) + szk y1) + 1) (cap ((n + sa11w) + szk y1) (cap (n + sa11w) m))))))), .inl f51))] (MA ad s.heap.size) s H locs := hw
                refine lv_pop hx hb dX11_text_130 rfl ?_
                refine lv_iinc (v := (i + (4 : Int32))) (lv' := [(5, .int (i + (4 : Int32))), (3, .ref qa), (4, .ref q4)]) hx hb dX11_text_131 hl (k := 2) rfl rfl (by decide) rfl (fun ls hl => ?_)
                refine lv_goto (tgt := 51) hx hb dX11_text_134 (by decide) ?_
                exact ih (i + (4 : Int32)) (t + 1) (((((((n + sa11w) + szk y1) + 1) + szk y2) + 1) + szk y3) + sa48w) v50 (cap (((((((n + sa11w) + szk y1) + 1) + szk y2) + 1) + szk y3) + sa48w) (cap ((((((n + sa11w) + szk y1) + 1) + szk y2) + 1) + szk y3) (cap (((((n + sa11w) + szk y1) + 1) + szk y2) + 1) (cap ((((n + sa11w) + szk y1) + 1) + szk y2) (cap (((n + sa11w) + szk y1) + 1) (cap ((n + sa11w) + szk y1) (cap (n + sa11w) m))))))) (cv + (gr (n + sa11w) m) + (gr ((n + sa11w) + szk y1) (cap (n + sa11w) m)) + (gr (((n + sa11w) + szk y1) + 1) (cap ((n + sa11w) + szk y1) (cap (n + sa11w) m))) + (gr ((((n + sa11w) + szk y1) + 1) + szk y2) (cap (((n + sa11w) + szk y1) + 1) (cap ((n + sa11w) + szk y1) (cap (n + sa11w) m)))) + (gr (((((n + sa11w) + szk y1) + 1) + szk y2) + 1) (cap ((((n + sa11w) + szk y1) + 1) + szk y2) (cap (((n + sa11w) + szk y1) + 1) (cap ((n + sa11w) + szk y1) (cap (n + sa11w) m))))) + (gr ((((((n + sa11w) + szk y1) + 1) + szk y2) + 1) + szk y3) (cap (((((n + sa11w) + szk y1) + 1) + szk y2) + 1) (cap ((((n + sa11w) + szk y1) + 1) + szk y2) (cap (((n + sa11w) + szk y1) + 1) (cap ((n + sa11w) + szk y1) (cap (n + sa11w) m)))))) + (gr (((((((n + sa11w) + szk y1) + 1) + szk y2) + 1) + szk y3) + sa48w) (cap ((((((n + sa11w) + szk y1) + 1) + szk y2) + 1) + szk y3) (cap (((((n + sa11w) + szk y1) + 1) + szk y2) + 1) (cap ((((n + sa11w) + szk y1) + 1) + szk y2) (cap (((n + sa11w) + szk y1) + 1) (cap ((n + sa11w) + szk y1) (cap (n + sa11w) m)))))))) (sv + (gs (n + sa11w) m) + (gs ((n + sa11w) + szk y1) (cap (n + sa11w) m)) + (gs (((n + sa11w) + szk y1) + 1) (cap ((n + sa11w) + szk y1) (cap (n + sa11w) m))) + (gs ((((n + sa11w) + szk y1) + 1) + szk y2) (cap (((n + sa11w) + szk y1) + 1) (cap ((n + sa11w) + szk y1) (cap (n + sa11w) m)))) + (gs (((((n + sa11w) + szk y1) + 1) + szk y2) + 1) (cap ((((n + sa11w) + szk y1) + 1) + szk y2) (cap (((n + sa11w) + szk y1) + 1) (cap ((n + sa11w) + szk y1) (cap (n + sa11w) m))))) + (gs ((((((n + sa11w) + szk y1) + 1) + szk y2) + 1) + szk y3) (cap (((((n + sa11w) + szk y1) + 1) + szk y2) + 1) (cap ((((n + sa11w) + szk y1) + 1) + szk y2) (cap (((n + sa11w) + szk y1) + 1) (cap ((n + sa11w) + szk y1) (cap (n + sa11w) m)))))) + (gs (((((((n + sa11w) + szk y1) + 1) + szk y2) + 1) + szk y3) + sa48w) (cap ((((((n + sa11w) + szk y1) + 1) + szk y2) + 1) + szk y3) (cap (((((n + sa11w) + szk y1) + 1) + szk y2) + 1) (cap ((((n + sa11w) + szk y1) + 1) + szk y2) (cap (((n + sa11w) + szk y1) + 1) (cap ((n + sa11w) + szk y1) (cap (n + sa11w) m)))))))) f51 H locs ls (by omega) (by omega) (by omega) (by omega) hB49 hp53 hw (lv_sub hl [1, 2, 0] rfl)
              · obtain ⟨sa55, sa55b, sa55w, sa55h, sa55r, sa55O⟩ := hX _ (List.mem_of_getElem? (i := 2) rfl)
                refine va_ldcS hx hb hown sa55r dX11_text_120 ?_
                refine lv_goto (tgt := 127) hx hb dX11_text_122 (by decide) ?_
                have hB56 := BSo.add sa55w hB42
                have hB56x := hB56
                obtain ⟨_, _, _, _, _⟩ := hB56x
                have hBx := hB42
                obtain ⟨_, _, _, _, _⟩ := hBx
                have hO := sa55O
                refine J_callr (N0 := [(qa, .inl (cI, (4 * S), .inl ff))]) (ws := [(q4, .inr (11, [.ref v43, .int 0, .int 0, .int (nI ((((((n + sa11w) + szk y1) + 1) + szk y2) + 1) + szk y3))])), (v43, .inl (cB, (cap ((((((n + sa11w) + szk y1) + 1) + szk y2) + 1) + szk y3) (cap (((((n + sa11w) + szk y1) + 1) + szk y2) + 1) (cap ((((n + sa11w) + szk y1) + 1) + szk y2) (cap (((n + sa11w) + szk y1) + 1) (cap ((n + sa11w) + szk y1) (cap (n + sa11w) m)))))), .inl f44))]) hw (va_runV (own := "LeastreaderModel") (As := [.ref sa55]) (rest := []) ⟨hx, hb, hml, hown, ht⟩ (c_J4_append_15ec4 sa55 sa55b sa55w q4 v43 (cap ((((((n + sa11w) + szk y1) + 1) + szk y2) + 1) + szk y3) (cap (((((n + sa11w) + szk y1) + 1) + szk y2) + 1) (cap ((((n + sa11w) + szk y1) + 1) + szk y2) (cap (((n + sa11w) + szk y1) + 1) (cap ((n + sa11w) + szk y1) (cap (n + sa11w) m)))))) ((((((n + sa11w) + szk y1) + 1) + szk y2) + 1) + szk y3) f44 H.size (by omega) (by omega) (by omega) (by omega) hp46) (cwV 1 ht (G_V q_1536 q_1095 q_1096 q_67 q_1097) rfl rfl rfl ⟨rfl, rd_7⟩ ⟨Nat.le_of_ble_eq_true rfl, Nat.le_of_ble_eq_true rfl⟩) ⟨JB.blind, J_recv hK hw (j := 1) rfl cl_11, JB.pre (N0 := [(qa, .inl (cI, (4 * S), .inl ff))]) (ws := [(q4, .inr (11, [.ref v43, .int 0, .int 0, .int (nI ((((((n + sa11w) + szk y1) + 1) + szk y2) + 1) + szk y3))])), (v43, .inl (cB, (cap ((((((n + sa11w) + szk y1) + 1) + szk y2) + 1) + szk y3) (cap (((((n + sa11w) + szk y1) + 1) + szk y2) + 1) (cap ((((n + sa11w) + szk y1) + 1) + szk y2) (cap (((n + sa11w) + szk y1) + 1) (cap ((n + sa11w) + szk y1) (cap (n + sa11w) m)))))), .inl f44))]) hK hC hZ hw (SL1 (SO.pass (N0 := [(qa, .inl (cI, (4 * S), .inl ff))]) (ws := [(q4, .inr (11, [.ref v43, .int 0, .int 0, .int (nI ((((((n + sa11w) + szk y1) + 1) + szk y2) + 1) + szk y3))])), (v43, .inl (cB, (cap ((((((n + sa11w) + szk y1) + 1) + szk y2) + 1) + szk y3) (cap (((((n + sa11w) + szk y1) + 1) + szk y2) + 1) (cap ((((n + sa11w) + szk y1) + 1) + szk y2) (cap (((n + sa11w) + szk y1) + 1) (cap ((n + sa11w) + szk y1) (cap (n + sa11w) m)))))), .inl f44))]) hO hw))⟩ rfl rfl hl.1 rfl (lv_room (Nat.le_of_ble_eq_true rfl)) dX11_text_127 ⟨show cv + (gr (n + sa11w) m) + (gr ((n + sa11w) + szk y1) (cap (n + sa11w) m)) + (gr (((n + sa11w) + szk y1) + 1) (cap ((n + sa11w) + szk y1) (cap (n + sa11w) m))) + (gr ((((n + sa11w) + szk y1) + 1) + szk y2) (cap (((n + sa11w) + szk y1) + 1) (cap ((n + sa11w) + szk y1) (cap (n + sa11w) m)))) + (gr (((((n + sa11w) + szk y1) + 1) + szk y2) + 1) (cap ((((n + sa11w) + szk y1) + 1) + szk y2) (cap (((n + sa11w) + szk y1) + 1) (cap ((n + sa11w) + szk y1) (cap (n + sa11w) m))))) + (gr ((((((n + sa11w) + szk y1) + 1) + szk y2) + 1) + szk y3) (cap (((((n + sa11w) + szk y1) + 1) + szk y2) + 1) (cap ((((n + sa11w) + szk y1) + 1) + szk y2) (cap (((n + sa11w) + szk y1) + 1) (cap ((n + sa11w) + szk y1) (cap (n + sa11w) m)))))) + (gr (((((((n + sa11w) + szk y1) + 1) + szk y2) + 1) + szk y3) + sa55w) (cap ((((((n + sa11w) + szk y1) + 1) + szk y2) + 1) + szk y3) (cap (((((n + sa11w) + szk y1) + 1) + szk y2) + 1) (cap ((((n + sa11w) + szk y1) + 1) + szk y2) (cap (((n + sa11w) + szk y1) + 1) (cap ((n + sa11w) + szk y1) (cap (n + sa11w) m))))))) ≤ 500 by omega, show sv + (gs (n + sa11w) m) + (gs ((n + sa11w) + szk y1) (cap (n + sa11w) m)) + (gs (((n + sa11w) + szk y1) + 1) (cap ((n + sa11w) + szk y1) (cap (n + sa11w) m))) + (gs ((((n + sa11w) + szk y1) + 1) + szk y2) (cap (((n + sa11w) + szk y1) + 1) (cap ((n + sa11w) + szk y1) (cap (n + sa11w) m)))) + (gs (((((n + sa11w) + szk y1) + 1) + szk y2) + 1) (cap ((((n + sa11w) + szk y1) + 1) + szk y2) (cap (((n + sa11w) + szk y1) + 1) (cap ((n + sa11w) + szk y1) (cap (n + sa11w) m))))) + (gs ((((((n + sa11w) + szk y1) + 1) + szk y2) + 1) + szk y3) (cap (((((n + sa11w) + szk y1) + 1) + szk y2) + 1) (cap ((((n + sa11w) + szk y1) + 1) + szk y2) (cap (((n + sa11w) + szk y1) + 1) (cap ((n + sa11w) + szk y1) (cap (n + sa11w) m)))))) + (gs (((((((n + sa11w) + szk y1) + 1) + szk y2) + 1) + szk y3) + sa55w) (cap ((((((n + sa11w) + szk y1) + 1) + szk y2) + 1) + szk y3) (cap (((((n + sa11w) + szk y1) + 1) + szk y2) + 1) (cap ((((n + sa11w) + szk y1) + 1) + szk y2) (cap (((n + sa11w) + szk y1) + 1) (cap ((n + sa11w) + szk y1) (cap (n + sa11w) m))))))) ≤ 20000 by omega⟩) (fun u59 H locs hp60 hw => ?_)
                obtain ⟨v57, f58⟩ := u59
                have hw : MW D (MR ad cI μC) [(qa, .inl (cI, (4 * S), .inl ff)), (q4, .inr (11, [.ref v57, .int 0, .int 0, .int (nI (((((((n + sa11w) + szk y1) + 1) + szk y2) + 1) + szk y3) + sa55w))])), (v57, .inl (cB, (cap (((((((n + sa11w) + szk y1) + 1) + szk y2) + 1) + szk y3) + sa55w) (cap ((((((n + sa11w) + szk y1) + 1) + szk y2) + 1) + szk y3) (cap (((((n + sa11w) + szk y1) + 1) + szk y2) + 1) (cap ((((n + sa11w) + szk y1) + 1) + szk y2) (cap (((n + sa11w) + szk y1) + 1) (cap ((n + sa11w) + szk y1) (cap (n + sa11w) m))))))), .inl f58))] (MA ad s.heap.size) s H locs := hw
                refine lv_pop hx hb dX11_text_130 rfl ?_
                refine lv_iinc (v := (i + (4 : Int32))) (lv' := [(5, .int (i + (4 : Int32))), (3, .ref qa), (4, .ref q4)]) hx hb dX11_text_131 hl (k := 2) rfl rfl (by decide) rfl (fun ls hl => ?_)
                refine lv_goto (tgt := 51) hx hb dX11_text_134 (by decide) ?_
                exact ih (i + (4 : Int32)) (t + 1) (((((((n + sa11w) + szk y1) + 1) + szk y2) + 1) + szk y3) + sa55w) v57 (cap (((((((n + sa11w) + szk y1) + 1) + szk y2) + 1) + szk y3) + sa55w) (cap ((((((n + sa11w) + szk y1) + 1) + szk y2) + 1) + szk y3) (cap (((((n + sa11w) + szk y1) + 1) + szk y2) + 1) (cap ((((n + sa11w) + szk y1) + 1) + szk y2) (cap (((n + sa11w) + szk y1) + 1) (cap ((n + sa11w) + szk y1) (cap (n + sa11w) m))))))) (cv + (gr (n + sa11w) m) + (gr ((n + sa11w) + szk y1) (cap (n + sa11w) m)) + (gr (((n + sa11w) + szk y1) + 1) (cap ((n + sa11w) + szk y1) (cap (n + sa11w) m))) + (gr ((((n + sa11w) + szk y1) + 1) + szk y2) (cap (((n + sa11w) + szk y1) + 1) (cap ((n + sa11w) + szk y1) (cap (n + sa11w) m)))) + (gr (((((n + sa11w) + szk y1) + 1) + szk y2) + 1) (cap ((((n + sa11w) + szk y1) + 1) + szk y2) (cap (((n + sa11w) + szk y1) + 1) (cap ((n + sa11w) + szk y1) (cap (n + sa11w) m))))) + (gr ((((((n + sa11w) + szk y1) + 1) + szk y2) + 1) + szk y3) (cap (((((n + sa11w) + szk y1) + 1) + szk y2) + 1) (cap ((((n + sa11w) + szk y1) + 1) + szk y2) (cap (((n + sa11w) + szk y1) + 1) (cap ((n + sa11w) + szk y1) (cap (n + sa11w) m)))))) + (gr (((((((n + sa11w) + szk y1) + 1) + szk y2) + 1) + szk y3) + sa55w) (cap ((((((n + sa11w) + szk y1) + 1) + szk y2) + 1) + szk y3) (cap (((((n + sa11w) + szk y1) + 1) + szk y2) + 1) (cap ((((n + sa11w) + szk y1) + 1) + szk y2) (cap (((n + sa11w) + szk y1) + 1) (cap ((n + sa11w) + szk y1) (cap (n + sa11w) m)))))))) (sv + (gs (n + sa11w) m) + (gs ((n + sa11w) + szk y1) (cap (n + sa11w) m)) + (gs (((n + sa11w) + szk y1) + 1) (cap ((n + sa11w) + szk y1) (cap (n + sa11w) m))) + (gs ((((n + sa11w) + szk y1) + 1) + szk y2) (cap (((n + sa11w) + szk y1) + 1) (cap ((n + sa11w) + szk y1) (cap (n + sa11w) m)))) + (gs (((((n + sa11w) + szk y1) + 1) + szk y2) + 1) (cap ((((n + sa11w) + szk y1) + 1) + szk y2) (cap (((n + sa11w) + szk y1) + 1) (cap ((n + sa11w) + szk y1) (cap (n + sa11w) m))))) + (gs ((((((n + sa11w) + szk y1) + 1) + szk y2) + 1) + szk y3) (cap (((((n + sa11w) + szk y1) + 1) + szk y2) + 1) (cap ((((n + sa11w) + szk y1) + 1) + szk y2) (cap (((n + sa11w) + szk y1) + 1) (cap ((n + sa11w) + szk y1) (cap (n + sa11w) m)))))) + (gs (((((((n + sa11w) + szk y1) + 1) + szk y2) + 1) + szk y3) + sa55w) (cap ((((((n + sa11w) + szk y1) + 1) + szk y2) + 1) + szk y3) (cap (((((n + sa11w) + szk y1) + 1) + szk y2) + 1) (cap ((((n + sa11w) + szk y1) + 1) + szk y2) (cap (((n + sa11w) + szk y1) + 1) (cap ((n + sa11w) + szk y1) (cap (n + sa11w) m)))))))) f58 H locs ls (by omega) (by omega) (by omega) (by omega) hB56 hp60 hw (lv_sub hl [1, 2, 0] rfl)
            · obtain ⟨sa62, sa62b, sa62w, sa62h, sa62r, sa62O⟩ := hX _ (List.mem_of_getElem? (i := 1) rfl)
              refine va_ldcS hx hb hown sa62r dX11_text_65 ?_
              refine lv_goto (tgt := 72) hx hb dX11_text_67 (by decide) ?_
              have hB63 := BSo.add sa62w hB
              have hB63x := hB63
              obtain ⟨_, _, _, _, _⟩ := hB63x
              have hBx := hB
              obtain ⟨_, _, _, _, _⟩ := hBx
              have hO := sa62O
              refine J_callr (N0 := [(qa, .inl (cI, (4 * S), .inl ff))]) (ws := [(q4, .inr (11, [.ref v, .int 0, .int 0, .int (nI n)])), (v, .inl (cB, m, .inl f))]) hw (va_runV (own := "LeastreaderModel") (As := [.ref sa62]) (rest := []) ⟨hx, hb, hml, hown, ht⟩ (c_J4_append_15ec4 sa62 sa62b sa62w q4 v m n f H.size (by omega) (by omega) (by omega) (by omega) hf) (cwV 1 ht (G_V q_1536 q_1095 q_1096 q_67 q_1097) rfl rfl rfl ⟨rfl, rd_7⟩ ⟨Nat.le_of_ble_eq_true rfl, Nat.le_of_ble_eq_true rfl⟩) ⟨JB.blind, J_recv hK hw (j := 1) rfl cl_11, JB.pre (N0 := [(qa, .inl (cI, (4 * S), .inl ff))]) (ws := [(q4, .inr (11, [.ref v, .int 0, .int 0, .int (nI n)])), (v, .inl (cB, m, .inl f))]) hK hC hZ hw (SL1 (SO.pass (N0 := [(qa, .inl (cI, (4 * S), .inl ff))]) (ws := [(q4, .inr (11, [.ref v, .int 0, .int 0, .int (nI n)])), (v, .inl (cB, m, .inl f))]) hO hw))⟩ rfl rfl hl.1 rfl (lv_room (Nat.le_of_ble_eq_true rfl)) dX11_text_72 ⟨show cv + (gr (n + sa62w) m) ≤ 500 by omega, show sv + (gs (n + sa62w) m) ≤ 20000 by omega⟩) (fun u66 H locs hp67 hw => ?_)
              obtain ⟨v64, f65⟩ := u66
              have hw : MW D (MR ad cI μC) [(qa, .inl (cI, (4 * S), .inl ff)), (q4, .inr (11, [.ref v64, .int 0, .int 0, .int (nI (n + sa62w))])), (v64, .inl (cB, (cap (n + sa62w) m), .inl f65))] (MA ad s.heap.size) s H locs := hw
              refine lv_aload_n hx hb dX11_text_75 rfl (lv_at hl 0 rfl) ?_
              refine lv_iload hx hb dX11_text_76 (lv_at hl 2 rfl) ?_
              refine n_iald hx hb hM (hw.n (j := 0) rfl) (i := i) (vin (by omega)) dX11_text_78 ?_
              refine lv_topi (fun y1 ey1 => ?_)
              have hsk := szk_b y1
              have hB69 := BSo.add (szk y1) hB63
              have hB69x := hB69
              obtain ⟨_, _, _, _, _⟩ := hB69x
              have hBx := hB63
              obtain ⟨_, _, _, _, _⟩ := hBx
              refine J_callr (N0 := [(qa, .inl (cI, (4 * S), .inl ff))]) (ws := [(q4, .inr (11, [.ref v64, .int 0, .int 0, .int (nI (n + sa62w))])), (v64, .inl (cB, (cap (n + sa62w) m), .inl f65))]) hw (va_runV (own := "LeastreaderModel") (As := [.int y1]) (rest := []) ⟨hx, hb, hml, hown, ht⟩ (c_J4_append_bf812 q4 v64 (cap (n + sa62w) m) (n + sa62w) f65 y1 H.size (by omega) (by omega) (by omega) hp67) (cwV 1 ht (G_V q_1537 q_1019 q_1020 q_67 q_1021) rfl rfl rfl ⟨rfl, rd_8⟩ ⟨Nat.le_of_ble_eq_true rfl, Nat.le_of_ble_eq_true rfl⟩) ⟨JB.blind, J_recv hK hw (j := 1) rfl cl_11, JB.pre (N0 := [(qa, .inl (cI, (4 * S), .inl ff))]) (ws := [(q4, .inr (11, [.ref v64, .int 0, .int 0, .int (nI (n + sa62w))])), (v64, .inl (cB, (cap (n + sa62w) m), .inl f65))]) hK hC hZ hw SL0⟩ rfl rfl hl.1 rfl (lv_room (Nat.le_of_ble_eq_true rfl)) dX11_text_79 ⟨show cv + (gr (n + sa62w) m) + (gr ((n + sa62w) + szk y1) (cap (n + sa62w) m)) ≤ 500 by omega, show sv + (gs (n + sa62w) m) + (gs ((n + sa62w) + szk y1) (cap (n + sa62w) m)) ≤ 20000 by omega⟩) (fun u72 H locs hp73 hw => ?_)
              obtain ⟨v70, f71⟩ := u72
              have hw : MW D (MR ad cI μC) [(qa, .inl (cI, (4 * S), .inl ff)), (q4, .inr (11, [.ref v70, .int 0, .int 0, .int (nI ((n + sa62w) + szk y1))])), (v70, .inl (cB, (cap ((n + sa62w) + szk y1) (cap (n + sa62w) m)), .inl f71))] (MA ad s.heap.size) s H locs := hw
              refine lv_bipush (v := (44 : Int32)) hx hb dX11_text_82 (by decide) ?_
              have hB75 := BSo.add 1 hB69
              have hB75x := hB75
              obtain ⟨_, _, _, _, _⟩ := hB75x
              have hBx := hB69
              obtain ⟨_, _, _, _, _⟩ := hBx
              refine J_callr (N0 := [(qa, .inl (cI, (4 * S), .inl ff))]) (ws := [(q4, .inr (11, [.ref v70, .int 0, .int 0, .int (nI ((n + sa62w) + szk y1))])), (v70, .inl (cB, (cap ((n + sa62w) + szk y1) (cap (n + sa62w) m)), .inl f71))]) hw (va_runV (own := "LeastreaderModel") (As := [.int (44 : Int32)]) (rest := []) ⟨hx, hb, hml, hown, ht⟩ (c_J4_append_cf468 q4 v70 (cap ((n + sa62w) + szk y1) (cap (n + sa62w) m)) ((n + sa62w) + szk y1) f71 (44 : Int32) H.size (by omega) (by omega) (by omega) hp73 (by decide)) (cwV 1 ht (G_V q_1538 q_924 q_925 q_67 q_926) rfl rfl rfl ⟨rfl, rd_9⟩ ⟨Nat.le_of_ble_eq_true rfl, Nat.le_of_ble_eq_true rfl⟩) ⟨JB.blind, J_recv hK hw (j := 1) rfl cl_11, JB.pre (N0 := [(qa, .inl (cI, (4 * S), .inl ff))]) (ws := [(q4, .inr (11, [.ref v70, .int 0, .int 0, .int (nI ((n + sa62w) + szk y1))])), (v70, .inl (cB, (cap ((n + sa62w) + szk y1) (cap (n + sa62w) m)), .inl f71))]) hK hC hZ hw SL0⟩ rfl rfl hl.1 rfl (lv_room (Nat.le_of_ble_eq_true rfl)) dX11_text_84 ⟨show cv + (gr (n + sa62w) m) + (gr ((n + sa62w) + szk y1) (cap (n + sa62w) m)) + (gr (((n + sa62w) + szk y1) + 1) (cap ((n + sa62w) + szk y1) (cap (n + sa62w) m))) ≤ 500 by omega, show sv + (gs (n + sa62w) m) + (gs ((n + sa62w) + szk y1) (cap (n + sa62w) m)) + (gs (((n + sa62w) + szk y1) + 1) (cap ((n + sa62w) + szk y1) (cap (n + sa62w) m))) ≤ 20000 by omega⟩) (fun u78 H locs hp79 hw => ?_)
              obtain ⟨v76, f77⟩ := u78
              have hw : MW D (MR ad cI μC) [(qa, .inl (cI, (4 * S), .inl ff)), (q4, .inr (11, [.ref v76, .int 0, .int 0, .int (nI (((n + sa62w) + szk y1) + 1))])), (v76, .inl (cB, (cap (((n + sa62w) + szk y1) + 1) (cap ((n + sa62w) + szk y1) (cap (n + sa62w) m))), .inl f77))] (MA ad s.heap.size) s H locs := hw
              refine lv_aload_n hx hb dX11_text_87 rfl (lv_at hl 0 rfl) ?_
              refine lv_iload hx hb dX11_text_88 (lv_at hl 2 rfl) ?_
              refine lv_iconst (v := (1 : Int32)) hx hb dX11_text_90 (by decide) ?_
              refine lv_iadd hx hb dX11_text_91 ?_
              refine n_iald hx hb hM (hw.n (j := 0) rfl) (i := (i + (1 : Int32))) (vin (by omega)) dX11_text_92 ?_
              refine lv_topi (fun y2 ey2 => ?_)
              have hsk := szk_b y2
              have hB81 := BSo.add (szk y2) hB75
              have hB81x := hB81
              obtain ⟨_, _, _, _, _⟩ := hB81x
              have hBx := hB75
              obtain ⟨_, _, _, _, _⟩ := hBx
              refine J_callr (N0 := [(qa, .inl (cI, (4 * S), .inl ff))]) (ws := [(q4, .inr (11, [.ref v76, .int 0, .int 0, .int (nI (((n + sa62w) + szk y1) + 1))])), (v76, .inl (cB, (cap (((n + sa62w) + szk y1) + 1) (cap ((n + sa62w) + szk y1) (cap (n + sa62w) m))), .inl f77))]) hw (va_runV (own := "LeastreaderModel") (As := [.int y2]) (rest := []) ⟨hx, hb, hml, hown, ht⟩ (c_J4_append_bf812 q4 v76 (cap (((n + sa62w) + szk y1) + 1) (cap ((n + sa62w) + szk y1) (cap (n + sa62w) m))) (((n + sa62w) + szk y1) + 1) f77 y2 H.size (by omega) (by omega) (by omega) hp79) (cwV 1 ht (G_V q_1537 q_1019 q_1020 q_67 q_1021) rfl rfl rfl ⟨rfl, rd_8⟩ ⟨Nat.le_of_ble_eq_true rfl, Nat.le_of_ble_eq_true rfl⟩) ⟨JB.blind, J_recv hK hw (j := 1) rfl cl_11, JB.pre (N0 := [(qa, .inl (cI, (4 * S), .inl ff))]) (ws := [(q4, .inr (11, [.ref v76, .int 0, .int 0, .int (nI (((n + sa62w) + szk y1) + 1))])), (v76, .inl (cB, (cap (((n + sa62w) + szk y1) + 1) (cap ((n + sa62w) + szk y1) (cap (n + sa62w) m))), .inl f77))]) hK hC hZ hw SL0⟩ rfl rfl hl.1 rfl (lv_room (Nat.le_of_ble_eq_true rfl)) dX11_text_93 ⟨show cv + (gr (n + sa62w) m) + (gr ((n + sa62w) + szk y1) (cap (n + sa62w) m)) + (gr (((n + sa62w) + szk y1) + 1) (cap ((n + sa62w) + szk y1) (cap (n + sa62w) m))) + (gr ((((n + sa62w) + szk y1) + 1) + szk y2) (cap (((n + sa62w) + szk y1) + 1) (cap ((n + sa62w) + szk y1) (cap (n + sa62w) m)))) ≤ 500 by omega, show sv + (gs (n + sa62w) m) + (gs ((n + sa62w) + szk y1) (cap (n + sa62w) m)) + (gs (((n + sa62w) + szk y1) + 1) (cap ((n + sa62w) + szk y1) (cap (n + sa62w) m))) + (gs ((((n + sa62w) + szk y1) + 1) + szk y2) (cap (((n + sa62w) + szk y1) + 1) (cap ((n + sa62w) + szk y1) (cap (n + sa62w) m)))) ≤ 20000 by omega⟩) (fun u84 H locs hp85 hw => ?_)
              obtain ⟨v82, f83⟩ := u84
              have hw : MW D (MR ad cI μC) [(qa, .inl (cI, (4 * S), .inl ff)), (q4, .inr (11, [.ref v82, .int 0, .int 0, .int (nI ((((n + sa62w) + szk y1) + 1) + szk y2))])), (v82, .inl (cB, (cap ((((n + sa62w) + szk y1) + 1) + szk y2) (cap (((n + sa62w) + szk y1) + 1) (cap ((n + sa62w) + szk y1) (cap (n + sa62w) m)))), .inl f83))] (MA ad s.heap.size) s H locs := hw
              refine lv_bipush (v := (44 : Int32)) hx hb dX11_text_96 (by decide) ?_
              have hB87 := BSo.add 1 hB81
              have hB87x := hB87
              obtain ⟨_, _, _, _, _⟩ := hB87x
              have hBx := hB81
              obtain ⟨_, _, _, _, _⟩ := hBx
              refine J_callr (N0 := [(qa, .inl (cI, (4 * S), .inl ff))]) (ws := [(q4, .inr (11, [.ref v82, .int 0, .int 0, .int (nI ((((n + sa62w) + szk y1) + 1) + szk y2))])), (v82, .inl (cB, (cap ((((n + sa62w) + szk y1) + 1) + szk y2) (cap (((n + sa62w) + szk y1) + 1) (cap ((n + sa62w) + szk y1) (cap (n + sa62w) m)))), .inl f83))]) hw (va_runV (own := "LeastreaderModel") (As := [.int (44 : Int32)]) (rest := []) ⟨hx, hb, hml, hown, ht⟩ (c_J4_append_cf468 q4 v82 (cap ((((n + sa62w) + szk y1) + 1) + szk y2) (cap (((n + sa62w) + szk y1) + 1) (cap ((n + sa62w) + szk y1) (cap (n + sa62w) m)))) ((((n + sa62w) + szk y1) + 1) + szk y2) f83 (44 : Int32) H.size (by omega) (by omega) (by omega) hp85 (by decide)) (cwV 1 ht (G_V q_1538 q_924 q_925 q_67 q_926) rfl rfl rfl ⟨rfl, rd_9⟩ ⟨Nat.le_of_ble_eq_true rfl, Nat.le_of_ble_eq_true rfl⟩) ⟨JB.blind, J_recv hK hw (j := 1) rfl cl_11, JB.pre (N0 := [(qa, .inl (cI, (4 * S), .inl ff))]) (ws := [(q4, .inr (11, [.ref v82, .int 0, .int 0, .int (nI ((((n + sa62w) + szk y1) + 1) + szk y2))])), (v82, .inl (cB, (cap ((((n + sa62w) + szk y1) + 1) + szk y2) (cap (((n + sa62w) + szk y1) + 1) (cap ((n + sa62w) + szk y1) (cap (n + sa62w) m)))), .inl f83))]) hK hC hZ hw SL0⟩ rfl rfl hl.1 rfl (lv_room (Nat.le_of_ble_eq_true rfl)) dX11_text_98 ⟨show cv + (gr (n + sa62w) m) + (gr ((n + sa62w) + szk y1) (cap (n + sa62w) m)) + (gr (((n + sa62w) + szk y1) + 1) (cap ((n + sa62w) + szk y1) (cap (n + sa62w) m))) + (gr ((((n + sa62w) + szk y1) + 1) + szk y2) (cap (((n + sa62w) + szk y1) + 1) (cap ((n + sa62w) + szk y1) (cap (n + sa62w) m)))) + (gr (((((n + sa62w) + szk y1) + 1) + szk y2) + 1) (cap ((((n + sa62w) + szk y1) + 1) + szk y2) (cap (((n + sa62w) + szk y1) + 1) (cap ((n + sa62w) + szk y1) (cap (n + sa62w) m))))) ≤ 500 by omega, show sv + (gs (n + sa62w) m) + (gs ((n + sa62w) + szk y1) (cap (n + sa62w) m)) + (gs (((n + sa62w) + szk y1) + 1) (cap ((n + sa62w) + szk y1) (cap (n + sa62w) m))) + (gs ((((n + sa62w) + szk y1) + 1) + szk y2) (cap (((n + sa62w) + szk y1) + 1) (cap ((n + sa62w) + szk y1) (cap (n + sa62w) m)))) + (gs (((((n + sa62w) + szk y1) + 1) + szk y2) + 1) (cap ((((n + sa62w) + szk y1) + 1) + szk y2) (cap (((n + sa62w) + szk y1) + 1) (cap ((n + sa62w) + szk y1) (cap (n + sa62w) m))))) ≤ 20000 by omega⟩) (fun u90 H locs hp91 hw => ?_)
              obtain ⟨v88, f89⟩ := u90
              have hw : MW D (MR ad cI μC) [(qa, .inl (cI, (4 * S), .inl ff)), (q4, .inr (11, [.ref v88, .int 0, .int 0, .int (nI (((((n + sa62w) + szk y1) + 1) + szk y2) + 1))])), (v88, .inl (cB, (cap (((((n + sa62w) + szk y1) + 1) + szk y2) + 1) (cap ((((n + sa62w) + szk y1) + 1) + szk y2) (cap (((n + sa62w) + szk y1) + 1) (cap ((n + sa62w) + szk y1) (cap (n + sa62w) m))))), .inl f89))] (MA ad s.heap.size) s H locs := hw
              refine lv_aload_n hx hb dX11_text_101 rfl (lv_at hl 0 rfl) ?_
              refine lv_iload hx hb dX11_text_102 (lv_at hl 2 rfl) ?_
              refine lv_iconst (v := (2 : Int32)) hx hb dX11_text_104 (by decide) ?_
              refine lv_iadd hx hb dX11_text_105 ?_
              refine n_iald hx hb hM (hw.n (j := 0) rfl) (i := (i + (2 : Int32))) (vin (by omega)) dX11_text_106 ?_
              refine lv_topi (fun y3 ey3 => ?_)
              have hsk := szk_b y3
              have hB93 := BSo.add (szk y3) hB87
              have hB93x := hB93
              obtain ⟨_, _, _, _, _⟩ := hB93x
              have hBx := hB87
              obtain ⟨_, _, _, _, _⟩ := hBx
              refine J_callr (N0 := [(qa, .inl (cI, (4 * S), .inl ff))]) (ws := [(q4, .inr (11, [.ref v88, .int 0, .int 0, .int (nI (((((n + sa62w) + szk y1) + 1) + szk y2) + 1))])), (v88, .inl (cB, (cap (((((n + sa62w) + szk y1) + 1) + szk y2) + 1) (cap ((((n + sa62w) + szk y1) + 1) + szk y2) (cap (((n + sa62w) + szk y1) + 1) (cap ((n + sa62w) + szk y1) (cap (n + sa62w) m))))), .inl f89))]) hw (va_runV (own := "LeastreaderModel") (As := [.int y3]) (rest := []) ⟨hx, hb, hml, hown, ht⟩ (c_J4_append_bf812 q4 v88 (cap (((((n + sa62w) + szk y1) + 1) + szk y2) + 1) (cap ((((n + sa62w) + szk y1) + 1) + szk y2) (cap (((n + sa62w) + szk y1) + 1) (cap ((n + sa62w) + szk y1) (cap (n + sa62w) m))))) (((((n + sa62w) + szk y1) + 1) + szk y2) + 1) f89 y3 H.size (by omega) (by omega) (by omega) hp91) (cwV 1 ht (G_V q_1537 q_1019 q_1020 q_67 q_1021) rfl rfl rfl ⟨rfl, rd_8⟩ ⟨Nat.le_of_ble_eq_true rfl, Nat.le_of_ble_eq_true rfl⟩) ⟨JB.blind, J_recv hK hw (j := 1) rfl cl_11, JB.pre (N0 := [(qa, .inl (cI, (4 * S), .inl ff))]) (ws := [(q4, .inr (11, [.ref v88, .int 0, .int 0, .int (nI (((((n + sa62w) + szk y1) + 1) + szk y2) + 1))])), (v88, .inl (cB, (cap (((((n + sa62w) + szk y1) + 1) + szk y2) + 1) (cap ((((n + sa62w) + szk y1) + 1) + szk y2) (cap (((n + sa62w) + szk y1) + 1) (cap ((n + sa62w) + szk y1) (cap (n + sa62w) m))))), .inl f89))]) hK hC hZ hw SL0⟩ rfl rfl hl.1 rfl (lv_room (Nat.le_of_ble_eq_true rfl)) dX11_text_107 ⟨show cv + (gr (n + sa62w) m) + (gr ((n + sa62w) + szk y1) (cap (n + sa62w) m)) + (gr (((n + sa62w) + szk y1) + 1) (cap ((n + sa62w) + szk y1) (cap (n + sa62w) m))) + (gr ((((n + sa62w) + szk y1) + 1) + szk y2) (cap (((n + sa62w) + szk y1) + 1) (cap ((n + sa62w) + szk y1) (cap (n + sa62w) m)))) + (gr (((((n + sa62w) + szk y1) + 1) + szk y2) + 1) (cap ((((n + sa62w) + szk y1) + 1) + szk y2) (cap (((n + sa62w) + szk y1) + 1) (cap ((n + sa62w) + szk y1) (cap (n + sa62w) m))))) + (gr ((((((n + sa62w) + szk y1) + 1) + szk y2) + 1) + szk y3) (cap (((((n + sa62w) + szk y1) + 1) + szk y2) + 1) (cap ((((n + sa62w) + szk y1) + 1) + szk y2) (cap (((n + sa62w) + szk y1) + 1) (cap ((n + sa62w) + szk y1) (cap (n + sa62w) m)))))) ≤ 500 by omega, show sv + (gs (n + sa62w) m) + (gs ((n + sa62w) + szk y1) (cap (n + sa62w) m)) + (gs (((n + sa62w) + szk y1) + 1) (cap ((n + sa62w) + szk y1) (cap (n + sa62w) m))) + (gs ((((n + sa62w) + szk y1) + 1) + szk y2) (cap (((n + sa62w) + szk y1) + 1) (cap ((n + sa62w) + szk y1) (cap (n + sa62w) m)))) + (gs (((((n + sa62w) + szk y1) + 1) + szk y2) + 1) (cap ((((n + sa62w) + szk y1) + 1) + szk y2) (cap (((n + sa62w) + szk y1) + 1) (cap ((n + sa62w) + szk y1) (cap (n + sa62w) m))))) + (gs ((((((n + sa62w) + szk y1) + 1) + szk y2) + 1) + szk y3) (cap (((((n + sa62w) + szk y1) + 1) + szk y2) + 1) (cap ((((n + sa62w) + szk y1) + 1) + szk y2) (cap (((n + sa62w) + szk y1) + 1) (cap ((n + sa62w) + szk y1) (cap (n + sa62w) m)))))) ≤ 20000 by omega⟩) (fun u96 H locs hp97 hw => ?_)
              obtain ⟨v94, f95⟩ := u96
              have hw : MW D (MR ad cI μC) [(qa, .inl (cI, (4 * S), .inl ff)), (q4, .inr (11, [.ref v94, .int 0, .int 0, .int (nI ((((((n + sa62w) + szk y1) + 1) + szk y2) + 1) + szk y3))])), (v94, .inl (cB, (cap ((((((n + sa62w) + szk y1) + 1) + szk y2) + 1) + szk y3) (cap (((((n + sa62w) + szk y1) + 1) + szk y2) + 1) (cap ((((n + sa62w) + szk y1) + 1) + szk y2) (cap (((n + sa62w) + szk y1) + 1) (cap ((n + sa62w) + szk y1) (cap (n + sa62w) m)))))), .inl f95))] (MA ad s.heap.size) s H locs := hw
              refine lv_aload_n hx hb dX11_text_110 rfl (lv_at hl 0 rfl) ?_
              refine lv_iload hx hb dX11_text_111 (lv_at hl 2 rfl) ?_
              refine lv_iconst (v := (3 : Int32)) hx hb dX11_text_113 (by decide) ?_
              refine lv_iadd hx hb dX11_text_114 ?_
              refine n_iald hx hb hM (hw.n (j := 0) rfl) (i := (i + (3 : Int32))) (vin (by omega)) dX11_text_115 ?_
              refine lv_topi (fun y4 ey4 => ?_)
              refine lv_iconst (v := (1 : Int32)) hx hb dX11_text_116 (by decide) ?_
              refine lv_icmp_ne (tgt := 125) hx hb dX11_text_117 (by decide) (fun c9 => ?_) (fun c9 => ?_)
              · obtain ⟨sa99, sa99b, sa99w, sa99h, sa99r, sa99O⟩ := hX _ (List.mem_of_getElem? (i := 0) rfl)
                refine va_ldcS hx hb hown sa99r dX11_text_125 ?_
                have hB100 := BSo.add sa99w hB93
                have hB100x := hB100
                obtain ⟨_, _, _, _, _⟩ := hB100x
                have hBx := hB93
                obtain ⟨_, _, _, _, _⟩ := hBx
                have hO := sa99O
                refine J_callr (N0 := [(qa, .inl (cI, (4 * S), .inl ff))]) (ws := [(q4, .inr (11, [.ref v94, .int 0, .int 0, .int (nI ((((((n + sa62w) + szk y1) + 1) + szk y2) + 1) + szk y3))])), (v94, .inl (cB, (cap ((((((n + sa62w) + szk y1) + 1) + szk y2) + 1) + szk y3) (cap (((((n + sa62w) + szk y1) + 1) + szk y2) + 1) (cap ((((n + sa62w) + szk y1) + 1) + szk y2) (cap (((n + sa62w) + szk y1) + 1) (cap ((n + sa62w) + szk y1) (cap (n + sa62w) m)))))), .inl f95))]) hw (va_runV (own := "LeastreaderModel") (As := [.ref sa99]) (rest := []) ⟨hx, hb, hml, hown, ht⟩ (c_J4_append_15ec4 sa99 sa99b sa99w q4 v94 (cap ((((((n + sa62w) + szk y1) + 1) + szk y2) + 1) + szk y3) (cap (((((n + sa62w) + szk y1) + 1) + szk y2) + 1) (cap ((((n + sa62w) + szk y1) + 1) + szk y2) (cap (((n + sa62w) + szk y1) + 1) (cap ((n + sa62w) + szk y1) (cap (n + sa62w) m)))))) ((((((n + sa62w) + szk y1) + 1) + szk y2) + 1) + szk y3) f95 H.size (by omega) (by omega) (by omega) (by omega) hp97) (cwV 1 ht (G_V q_1536 q_1095 q_1096 q_67 q_1097) rfl rfl rfl ⟨rfl, rd_7⟩ ⟨Nat.le_of_ble_eq_true rfl, Nat.le_of_ble_eq_true rfl⟩) ⟨JB.blind, J_recv hK hw (j := 1) rfl cl_11, JB.pre (N0 := [(qa, .inl (cI, (4 * S), .inl ff))]) (ws := [(q4, .inr (11, [.ref v94, .int 0, .int 0, .int (nI ((((((n + sa62w) + szk y1) + 1) + szk y2) + 1) + szk y3))])), (v94, .inl (cB, (cap ((((((n + sa62w) + szk y1) + 1) + szk y2) + 1) + szk y3) (cap (((((n + sa62w) + szk y1) + 1) + szk y2) + 1) (cap ((((n + sa62w) + szk y1) + 1) + szk y2) (cap (((n + sa62w) + szk y1) + 1) (cap ((n + sa62w) + szk y1) (cap (n + sa62w) m)))))), .inl f95))]) hK hC hZ hw (SL1 (SO.pass (N0 := [(qa, .inl (cI, (4 * S), .inl ff))]) (ws := [(q4, .inr (11, [.ref v94, .int 0, .int 0, .int (nI ((((((n + sa62w) + szk y1) + 1) + szk y2) + 1) + szk y3))])), (v94, .inl (cB, (cap ((((((n + sa62w) + szk y1) + 1) + szk y2) + 1) + szk y3) (cap (((((n + sa62w) + szk y1) + 1) + szk y2) + 1) (cap ((((n + sa62w) + szk y1) + 1) + szk y2) (cap (((n + sa62w) + szk y1) + 1) (cap ((n + sa62w) + szk y1) (cap (n + sa62w) m)))))), .inl f95))]) hO hw))⟩ rfl rfl hl.1 rfl (lv_room (Nat.le_of_ble_eq_true rfl)) dX11_text_127 ⟨show cv + (gr (n + sa62w) m) + (gr ((n + sa62w) + szk y1) (cap (n + sa62w) m)) + (gr (((n + sa62w) + szk y1) + 1) (cap ((n + sa62w) + szk y1) (cap (n + sa62w) m))) + (gr ((((n + sa62w) + szk y1) + 1) + szk y2) (cap (((n + sa62w) + szk y1) + 1) (cap ((n + sa62w) + szk y1) (cap (n + sa62w) m)))) + (gr (((((n + sa62w) + szk y1) + 1) + szk y2) + 1) (cap ((((n + sa62w) + szk y1) + 1) + szk y2) (cap (((n + sa62w) + szk y1) + 1) (cap ((n + sa62w) + szk y1) (cap (n + sa62w) m))))) + (gr ((((((n + sa62w) + szk y1) + 1) + szk y2) + 1) + szk y3) (cap (((((n + sa62w) + szk y1) + 1) + szk y2) + 1) (cap ((((n + sa62w) + szk y1) + 1) + szk y2) (cap (((n + sa62w) + szk y1) + 1) (cap ((n + sa62w) + szk y1) (cap (n + sa62w) m)))))) + (gr (((((((n + sa62w) + szk y1) + 1) + szk y2) + 1) + szk y3) + sa99w) (cap ((((((n + sa62w) + szk y1) + 1) + szk y2) + 1) + szk y3) (cap (((((n + sa62w) + szk y1) + 1) + szk y2) + 1) (cap ((((n + sa62w) + szk y1) + 1) + szk y2) (cap (((n + sa62w) + szk y1) + 1) (cap ((n + sa62w) + szk y1) (cap (n + sa62w) m))))))) ≤ 500 by omega, show sv + (gs (n + sa62w) m) + (gs ((n + sa62w) + szk y1) (cap (n + sa62w) m)) + (gs (((n + sa62w) + szk y1) + 1) (cap ((n + sa62w) + szk y1) (cap (n + sa62w) m))) + (gs ((((n + sa62w) + szk y1) + 1) + szk y2) (cap (((n + sa62w) + szk y1) + 1) (cap ((n + sa62w) + szk y1) (cap (n + sa62w) m)))) + (gs (((((n + sa62w) + szk y1) + 1) + szk y2) + 1) (cap ((((n + sa62w) + szk y1) + 1) + szk y2) (cap (((n + sa62w) + szk y1) + 1) (cap ((n + sa62w) + szk y1) (cap (n + sa62w) m))))) + (gs ((((((n + sa62w) + szk y1) + 1) + szk y2) + 1) + szk y3) (cap (((((n + sa62w) + szk y1) + 1) + szk y2) + 1) (cap ((((n + sa62w) + szk y1) + 1) + szk y2) (cap (((n + sa62w) + szk y1) + 1) (cap ((n + sa62w) + szk y1) (cap (n + sa62w) m)))))) + (gs (((((((n + sa62w) + szk y1) + 1) + szk y2) + 1) + szk y3) + sa99w) (cap ((((((n + sa62w) + szk y1) + 1) + szk y2) + 1) + szk y3) (cap (((((n + sa62w) + szk y1) + 1) + szk y2) + 1) (cap ((((n + sa62w) + szk y1) + 1) + szk y2) (cap (((n + sa62w) + szk y1) + 1) (cap ((n + sa62w) + szk y1) (cap (n + sa62w) m))))))) ≤ 20000 by omega⟩) (fun u103 H locs hp104 hw => ?_)
                obtain ⟨v101, f102⟩ := u103
                have hw : MW D (MR ad cI μC) [(qa, .inl (cI, (4 * S), .inl ff)), (q4, .inr (11, [.ref v101, .int 0, .int 0, .int (nI (((((((n + sa62w) + szk y1) + 1) + szk y2) + 1) + szk y3) + sa99w))])), (v101, .inl (cB, (cap (((((((n + sa62w) + szk y1) + 1) + szk y2) + 1) + szk y3) + sa99w) (cap ((((((n + sa62w) + szk y1) + 1) + szk y2) + 1) + szk y3) (cap (((((n + sa62w) + szk y1) + 1) + szk y2) + 1) (cap ((((n + sa62w) + szk y1) + 1) + szk y2) (cap (((n + sa62w) + szk y1) + 1) (cap ((n + sa62w) + szk y1) (cap (n + sa62w) m))))))), .inl f102))] (MA ad s.heap.size) s H locs := hw
                refine lv_pop hx hb dX11_text_130 rfl ?_
                refine lv_iinc (v := (i + (4 : Int32))) (lv' := [(5, .int (i + (4 : Int32))), (3, .ref qa), (4, .ref q4)]) hx hb dX11_text_131 hl (k := 2) rfl rfl (by decide) rfl (fun ls hl => ?_)
                refine lv_goto (tgt := 51) hx hb dX11_text_134 (by decide) ?_
                exact ih (i + (4 : Int32)) (t + 1) (((((((n + sa62w) + szk y1) + 1) + szk y2) + 1) + szk y3) + sa99w) v101 (cap (((((((n + sa62w) + szk y1) + 1) + szk y2) + 1) + szk y3) + sa99w) (cap ((((((n + sa62w) + szk y1) + 1) + szk y2) + 1) + szk y3) (cap (((((n + sa62w) + szk y1) + 1) + szk y2) + 1) (cap ((((n + sa62w) + szk y1) + 1) + szk y2) (cap (((n + sa62w) + szk y1) + 1) (cap ((n + sa62w) + szk y1) (cap (n + sa62w) m))))))) (cv + (gr (n + sa62w) m) + (gr ((n + sa62w) + szk y1) (cap (n + sa62w) m)) + (gr (((n + sa62w) + szk y1) + 1) (cap ((n + sa62w) + szk y1) (cap (n + sa62w) m))) + (gr ((((n + sa62w) + szk y1) + 1) + szk y2) (cap (((n + sa62w) + szk y1) + 1) (cap ((n + sa62w) + szk y1) (cap (n + sa62w) m)))) + (gr (((((n + sa62w) + szk y1) + 1) + szk y2) + 1) (cap ((((n + sa62w) + szk y1) + 1) + szk y2) (cap (((n + sa62w) + szk y1) + 1) (cap ((n + sa62w) + szk y1) (cap (n + sa62w) m))))) + (gr ((((((n + sa62w) + szk y1) + 1) + szk y2) + 1) + szk y3) (cap (((((n + sa62w) + szk y1) + 1) + szk y2) + 1) (cap ((((n + sa62w) + szk y1) + 1) + szk y2) (cap (((n + sa62w) + szk y1) + 1) (cap ((n + sa62w) + szk y1) (cap (n + sa62w) m)))))) + (gr (((((((n + sa62w) + szk y1) + 1) + szk y2) + 1) + szk y3) + sa99w) (cap ((((((n + sa62w) + szk y1) + 1) + szk y2) + 1) + szk y3) (cap (((((n + sa62w) + szk y1) + 1) + szk y2) + 1) (cap ((((n + sa62w) + szk y1) + 1) + szk y2) (cap (((n + sa62w) + szk y1) + 1) (cap ((n + sa62w) + szk y1) (cap (n + sa62w) m)))))))) (sv + (gs (n + sa62w) m) + (gs ((n + sa62w) + szk y1) (cap (n + sa62w) m)) + (gs (((n + sa62w) + szk y1) + 1) (cap ((n + sa62w) + szk y1) (cap (n + sa62w) m))) + (gs ((((n + sa62w) + szk y1) + 1) + szk y2) (cap (((n + sa62w) + szk y1) + 1) (cap ((n + sa62w) + szk y1) (cap (n + sa62w) m)))) + (gs (((((n + sa62w) + szk y1) + 1) + szk y2) + 1) (cap ((((n + sa62w) + szk y1) + 1) + szk y2) (cap (((n + sa62w) + szk y1) + 1) (cap ((n + sa62w) + szk y1) (cap (n + sa62w) m))))) + (gs ((((((n + sa62w) + szk y1) + 1) + szk y2) + 1) + szk y3) (cap (((((n + sa62w) + szk y1) + 1) + szk y2) + 1) (cap ((((n + sa62w) + szk y1) + 1) + szk y2) (cap (((n + sa62w) + szk y1) + 1) (cap ((n + sa62w) + szk y1) (cap (n + sa62w) m)))))) + (gs (((((((n + sa62w) + szk y1) + 1) + szk y2) + 1) + szk y3) + sa99w) (cap ((((((n + sa62w) + szk y1) + 1) + szk y2) + 1) + szk y3) (cap (((((n + sa62w) + szk y1) + 1) + szk y2) + 1) (cap ((((n + sa62w) + szk y1) + 1) + szk y2) (cap (((n + sa62w) + szk y1) + 1) (cap ((n + sa62w) + szk y1) (cap (n + sa62w) m)))))))) f102 H locs ls (by omega) (by omega) (by omega) (by omega) hB100 hp104 hw (lv_sub hl [1, 2, 0] rfl)
              · obtain ⟨sa106, sa106b, sa106w, sa106h, sa106r, sa106O⟩ := hX _ (List.mem_of_getElem? (i := 2) rfl)
                refine va_ldcS hx hb hown sa106r dX11_text_120 ?_
                refine lv_goto (tgt := 127) hx hb dX11_text_122 (by decide) ?_
                have hB107 := BSo.add sa106w hB93
                have hB107x := hB107
                obtain ⟨_, _, _, _, _⟩ := hB107x
                have hBx := hB93
                obtain ⟨_, _, _, _, _⟩ := hBx
                have hO := sa106O
                refine J_callr (N0 := [(qa, .inl (cI, (4 * S), .inl ff))]) (ws := [(q4, .inr (11, [.ref v94, .int 0, .int 0, .int (nI ((((((n + sa62w) + szk y1) + 1) + szk y2) + 1) + szk y3))])), (v94, .inl (cB, (cap ((((((n + sa62w) + szk y1) + 1) + szk y2) + 1) + szk y3) (cap (((((n + sa62w) + szk y1) + 1) + szk y2) + 1) (cap ((((n + sa62w) + szk y1) + 1) + szk y2) (cap (((n + sa62w) + szk y1) + 1) (cap ((n + sa62w) + szk y1) (cap (n + sa62w) m)))))), .inl f95))]) hw (va_runV (own := "LeastreaderModel") (As := [.ref sa106]) (rest := []) ⟨hx, hb, hml, hown, ht⟩ (c_J4_append_15ec4 sa106 sa106b sa106w q4 v94 (cap ((((((n + sa62w) + szk y1) + 1) + szk y2) + 1) + szk y3) (cap (((((n + sa62w) + szk y1) + 1) + szk y2) + 1) (cap ((((n + sa62w) + szk y1) + 1) + szk y2) (cap (((n + sa62w) + szk y1) + 1) (cap ((n + sa62w) + szk y1) (cap (n + sa62w) m)))))) ((((((n + sa62w) + szk y1) + 1) + szk y2) + 1) + szk y3) f95 H.size (by omega) (by omega) (by omega) (by omega) hp97) (cwV 1 ht (G_V q_1536 q_1095 q_1096 q_67 q_1097) rfl rfl rfl ⟨rfl, rd_7⟩ ⟨Nat.le_of_ble_eq_true rfl, Nat.le_of_ble_eq_true rfl⟩) ⟨JB.blind, J_recv hK hw (j := 1) rfl cl_11, JB.pre (N0 := [(qa, .inl (cI, (4 * S), .inl ff))]) (ws := [(q4, .inr (11, [.ref v94, .int 0, .int 0, .int (nI ((((((n + sa62w) + szk y1) + 1) + szk y2) + 1) + szk y3))])), (v94, .inl (cB, (cap ((((((n + sa62w) + szk y1) + 1) + szk y2) + 1) + szk y3) (cap (((((n + sa62w) + szk y1) + 1) + szk y2) + 1) (cap ((((n + sa62w) + szk y1) + 1) + szk y2) (cap (((n + sa62w) + szk y1) + 1) (cap ((n + sa62w) + szk y1) (cap (n + sa62w) m)))))), .inl f95))]) hK hC hZ hw (SL1 (SO.pass (N0 := [(qa, .inl (cI, (4 * S), .inl ff))]) (ws := [(q4, .inr (11, [.ref v94, .int 0, .int 0, .int (nI ((((((n + sa62w) + szk y1) + 1) + szk y2) + 1) + szk y3))])), (v94, .inl (cB, (cap ((((((n + sa62w) + szk y1) + 1) + szk y2) + 1) + szk y3) (cap (((((n + sa62w) + szk y1) + 1) + szk y2) + 1) (cap ((((n + sa62w) + szk y1) + 1) + szk y2) (cap (((n + sa62w) + szk y1) + 1) (cap ((n + sa62w) + szk y1) (cap (n + sa62w) m)))))), .inl f95))]) hO hw))⟩ rfl rfl hl.1 rfl (lv_room (Nat.le_of_ble_eq_true rfl)) dX11_text_127 ⟨show cv + (gr (n + sa62w) m) + (gr ((n + sa62w) + szk y1) (cap (n + sa62w) m)) + (gr (((n + sa62w) + szk y1) + 1) (cap ((n + sa62w) + szk y1) (cap (n + sa62w) m))) + (gr ((((n + sa62w) + szk y1) + 1) + szk y2) (cap (((n + sa62w) + szk y1) + 1) (cap ((n + sa62w) + szk y1) (cap (n + sa62w) m)))) + (gr (((((n + sa62w) + szk y1) + 1) + szk y2) + 1) (cap ((((n + sa62w) + szk y1) + 1) + szk y2) (cap (((n + sa62w) + szk y1) + 1) (cap ((n + sa62w) + szk y1) (cap (n + sa62w) m))))) + (gr ((((((n + sa62w) + szk y1) + 1) + szk y2) + 1) + szk y3) (cap (((((n + sa62w) + szk y1) + 1) + szk y2) + 1) (cap ((((n + sa62w) + szk y1) + 1) + szk y2) (cap (((n + sa62w) + szk y1) + 1) (cap ((n + sa62w) + szk y1) (cap (n + sa62w) m)))))) + (gr (((((((n + sa62w) + szk y1) + 1) + szk y2) + 1) + szk y3) + sa106w) (cap ((((((n + sa62w) + szk y1) + 1) + szk y2) + 1) + szk y3) (cap (((((n + sa62w) + szk y1) + 1) + szk y2) + 1) (cap ((((n + sa62w) + szk y1) + 1) + szk y2) (cap (((n + sa62w) + szk y1) + 1) (cap ((n + sa62w) + szk y1) (cap (n + sa62w) m))))))) ≤ 500 by omega, show sv + (gs (n + sa62w) m) + (gs ((n + sa62w) + szk y1) (cap (n + sa62w) m)) + (gs (((n + sa62w) + szk y1) + 1) (cap ((n + sa62w) + szk y1) (cap (n + sa62w) m))) + (gs ((((n + sa62w) + szk y1) + 1) + szk y2) (cap (((n + sa62w) + szk y1) + 1) (cap ((n + sa62w) + szk y1) (cap (n + sa62w) m)))) + (gs (((((n + sa62w) + szk y1) + 1) + szk y2) + 1) (cap ((((n + sa62w) + szk y1) + 1) + szk y2) (cap (((n + sa62w) + szk y1) + 1) (cap ((n + sa62w) + szk y1) (cap (n + sa62w) m))))) + (gs ((((((n + sa62w) + szk y1) + 1) + szk y2) + 1) + szk y3) (cap (((((n + sa62w) + szk y1) + 1) + szk y2) + 1) (cap ((((n + sa62w) + szk y1) + 1) + szk y2) (cap (((n + sa62w) + szk y1) + 1) (cap ((n + sa62w) + szk y1) (cap (n + sa62w) m)))))) + (gs (((((((n + sa62w) + szk y1) + 1) + szk y2) + 1) + szk y3) + sa106w) (cap ((((((n + sa62w) + szk y1) + 1) + szk y2) + 1) + szk y3) (cap (((((n + sa62w) + szk y1) + 1) + szk y2) + 1) (cap ((((n + sa62w) + szk y1) + 1) + szk y2) (cap (((n + sa62w) + szk y1) + 1) (cap ((n + sa62w) + szk y1) (cap (n + sa62w) m))))))) ≤ 20000 by omega⟩) (fun u110 H locs hp111 hw => ?_)
                obtain ⟨v108, f109⟩ := u110
                have hw : MW D (MR ad cI μC) [(qa, .inl (cI, (4 * S), .inl ff)), (q4, .inr (11, [.ref v108, .int 0, .int 0, .int (nI (((((((n + sa62w) + szk y1) + 1) + szk y2) + 1) + szk y3) + sa106w))])), (v108, .inl (cB, (cap (((((((n + sa62w) + szk y1) + 1) + szk y2) + 1) + szk y3) + sa106w) (cap ((((((n + sa62w) + szk y1) + 1) + szk y2) + 1) + szk y3) (cap (((((n + sa62w) + szk y1) + 1) + szk y2) + 1) (cap ((((n + sa62w) + szk y1) + 1) + szk y2) (cap (((n + sa62w) + szk y1) + 1) (cap ((n + sa62w) + szk y1) (cap (n + sa62w) m))))))), .inl f109))] (MA ad s.heap.size) s H locs := hw
                refine lv_pop hx hb dX11_text_130 rfl ?_
                refine lv_iinc (v := (i + (4 : Int32))) (lv' := [(5, .int (i + (4 : Int32))), (3, .ref qa), (4, .ref q4)]) hx hb dX11_text_131 hl (k := 2) rfl rfl (by decide) rfl (fun ls hl => ?_)
                refine lv_goto (tgt := 51) hx hb dX11_text_134 (by decide) ?_
                exact ih (i + (4 : Int32)) (t + 1) (((((((n + sa62w) + szk y1) + 1) + szk y2) + 1) + szk y3) + sa106w) v108 (cap (((((((n + sa62w) + szk y1) + 1) + szk y2) + 1) + szk y3) + sa106w) (cap ((((((n + sa62w) + szk y1) + 1) + szk y2) + 1) + szk y3) (cap (((((n + sa62w) + szk y1) + 1) + szk y2) + 1) (cap ((((n + sa62w) + szk y1) + 1) + szk y2) (cap (((n + sa62w) + szk y1) + 1) (cap ((n + sa62w) + szk y1) (cap (n + sa62w) m))))))) (cv + (gr (n + sa62w) m) + (gr ((n + sa62w) + szk y1) (cap (n + sa62w) m)) + (gr (((n + sa62w) + szk y1) + 1) (cap ((n + sa62w) + szk y1) (cap (n + sa62w) m))) + (gr ((((n + sa62w) + szk y1) + 1) + szk y2) (cap (((n + sa62w) + szk y1) + 1) (cap ((n + sa62w) + szk y1) (cap (n + sa62w) m)))) + (gr (((((n + sa62w) + szk y1) + 1) + szk y2) + 1) (cap ((((n + sa62w) + szk y1) + 1) + szk y2) (cap (((n + sa62w) + szk y1) + 1) (cap ((n + sa62w) + szk y1) (cap (n + sa62w) m))))) + (gr ((((((n + sa62w) + szk y1) + 1) + szk y2) + 1) + szk y3) (cap (((((n + sa62w) + szk y1) + 1) + szk y2) + 1) (cap ((((n + sa62w) + szk y1) + 1) + szk y2) (cap (((n + sa62w) + szk y1) + 1) (cap ((n + sa62w) + szk y1) (cap (n + sa62w) m)))))) + (gr (((((((n + sa62w) + szk y1) + 1) + szk y2) + 1) + szk y3) + sa106w) (cap ((((((n + sa62w) + szk y1) + 1) + szk y2) + 1) + szk y3) (cap (((((n + sa62w) + szk y1) + 1) + szk y2) + 1) (cap ((((n + sa62w) + szk y1) + 1) + szk y2) (cap (((n + sa62w) + szk y1) + 1) (cap ((n + sa62w) + szk y1) (cap (n + sa62w) m)))))))) (sv + (gs (n + sa62w) m) + (gs ((n + sa62w) + szk y1) (cap (n + sa62w) m)) + (gs (((n + sa62w) + szk y1) + 1) (cap ((n + sa62w) + szk y1) (cap (n + sa62w) m))) + (gs ((((n + sa62w) + szk y1) + 1) + szk y2) (cap (((n + sa62w) + szk y1) + 1) (cap ((n + sa62w) + szk y1) (cap (n + sa62w) m)))) + (gs (((((n + sa62w) + szk y1) + 1) + szk y2) + 1) (cap ((((n + sa62w) + szk y1) + 1) + szk y2) (cap (((n + sa62w) + szk y1) + 1) (cap ((n + sa62w) + szk y1) (cap (n + sa62w) m))))) + (gs ((((((n + sa62w) + szk y1) + 1) + szk y2) + 1) + szk y3) (cap (((((n + sa62w) + szk y1) + 1) + szk y2) + 1) (cap ((((n + sa62w) + szk y1) + 1) + szk y2) (cap (((n + sa62w) + szk y1) + 1) (cap ((n + sa62w) + szk y1) (cap (n + sa62w) m)))))) + (gs (((((((n + sa62w) + szk y1) + 1) + szk y2) + 1) + szk y3) + sa106w) (cap ((((((n + sa62w) + szk y1) + 1) + szk y2) + 1) + szk y3) (cap (((((n + sa62w) + szk y1) + 1) + szk y2) + 1) (cap ((((n + sa62w) + szk y1) + 1) + szk y2) (cap (((n + sa62w) + szk y1) + 1) (cap ((n + sa62w) + szk y1) (cap (n + sa62w) m)))))))) f109 H locs ls (by omega) (by omega) (by omega) (by omega) hB107 hp111 hw (lv_sub hl [1, 2, 0] rfl)
      exact L51 _ (0 : Int32) 0 0 u5 16 (0 + 0 + 41 + 0 + 1 + 1) (0 + 0 + 1685 + 0 + 4 + 16) (fun _ => 0) H locs ls (Nat.lt_succ_self _) (by decide) (by omega) (by omega) hB0 FT0 hw (lv_sub hl [2, 1, 0] rfl)
  · obtain ⟨sa113, sa113b, sa113w, sa113h, sa113r, sa113O⟩ := hX _ (List.mem_of_getElem? (i := 0) rfl)
    refine va_ldcS hx hb hown sa113r dX11_text_17 ?_
    exact hret H locs ls 19 _ _ _ _ _ hw hF (show 0 + 0 ≤ 500 by omega) (show 0 + 0 ≤ 20000 by omega) dX11_text_19
end
/-! part 9i.rtx2 -/
section
set_option maxHeartbeats 4000000 in
set_option maxRecDepth 100000 in
theorem c_X11_word {l : Launch} {D : va_G} {ad : Nat → Nat} {cI cL cB : ClassId} (μ : TMem) (sz : Nat) (a1 a2 : Int32) (hRI : RI μ) : MS l yX11_word (.code yX11_word cX11_word 12 (Option.some (Jvm.ClassFile.FieldType.object "java/lang/String"))) 6 500 20000 [.ref (ad 0), .int a1, .int a2] D ad cI cL cB sz μ := by
  refine MS_met (by decide +kernel) (Nat.le_of_ble_eq_true rfl) ?_
  intro p e s mI below meth c Z ls hx hb hml hown ht hM hI hK hC hZ hX hw hret hl
  have hl : lv_has ls 12 [(0, .ref (ad 0)), (1, .int a1), (2, .int a2)] := hl
  suffices hh : ∀ (H : Heap) (locs : List Loc), MW D (MR ad cI μ) [] (MA ad s.heap.size) s H locs → W p l e (RA 6 500 20000) s mI #[.ref (ad 0), .int a1, .int a2] below meth c H locs 0 0 Z (F0 mI 0 ls []) from hh _ _ hw
  intro H locs hw
  have hF0 := FA.rf hRI
  refine lv_aload_n hx hb dX11_word_0 rfl (lv_at hl 0 rfl) ?_
  refine lv_iload_n hx hb dX11_word_1 rfl (lv_at hl 1 rfl) ?_
  refine P_calli (va_runS (own := "LeastreaderModel") (As := [.int a1]) (rest := [.ref (ad 0)]) ⟨hx, hb, hml, hown, ht⟩ (c_X11_isOne a1 (t_isOne (Q := fun r => isB r ∧ (r ≠ 0 → M1 a1)) (fun r b h => ⟨b, h⟩))) (va_cwS 1 ht (G_S q_1342 q_1343 q_56 q_1344) rfl rfl rfl rd_0 ⟨Nat.le_of_ble_eq_true rfl, Nat.le_of_ble_eq_true rfl⟩) ⟨PM_blind, PM_pre⟩ rfl rfl hl.1 rfl (lv_room (Nat.le_of_ble_eq_true rfl)) dX11_word_2 ⟨show 0 + 0 ≤ 500 by omega, show 0 + 0 ≤ 20000 by omega⟩) (fun r1 hr1 => ?_)
  refine lv_iload_n hx hb dX11_word_5 rfl (lv_at hl 2 rfl) ?_
  refine lv_if_lt (tgt := 13) hx hb dX11_word_6 (by decide) (fun c9 => ?_) (fun c9 => ?_)
  · refine lv_iconst (v := (0 : Int32)) hx hb dX11_word_13 (by decide) ?_
    refine M_calli hw (MA.up hw.2.2.1.1) (va_runV (own := "LeastreaderModel") (As := [.int r1, .int (0 : Int32)]) (rest := []) ⟨hx, hb, hml, hown, ht⟩ (c_X11_isThrown μ H.size r1 (0 : Int32) (ta_isThrown (Qm := fun r μ9 => FA μ μ9 ∧ (r = 0 → r1 ≠ 0 ∧ (0 : Int32) ≠ 0)) hRI (fun r μ9 _ f h => ⟨f, h⟩))) (cwV 2 ht (G_V q_1348 q_1350 q_26 q_56 q_1351) rfl rfl rfl ⟨rfl, rd_2⟩ ⟨Nat.le_of_ble_eq_true rfl, Nat.le_of_ble_eq_true rfl⟩) ⟨MB.blind, M_recv hM hw, MB.pre hM hI hw va_P0 ne0⟩ rfl rfl hl.1 rfl (lv_room (Nat.le_of_ble_eq_true rfl)) dX11_word_14 ⟨show 0 + 0 ≤ 500 by omega, show 0 + 0 ≤ 20000 by omega⟩) (fun rT μT H locs hrT hw => ?_)
    obtain ⟨hF, hT⟩ := hrT
    refine lv_if_eq (tgt := 23) hx hb dX11_word_17 (by decide) (fun c9 => ?_) (fun c9 => ?_)
    · exact absurd rfl (hT c9).2
    · obtain ⟨sa2, sa2b, sa2w, sa2h, sa2r, sa2O⟩ := hX _ (List.mem_of_getElem? (i := 0) rfl)
      refine va_ldcS hx hb hown sa2r dX11_word_20 ?_
      exact hret H locs ls 22 _ _ _ _ _ hw hF (show 0 + 0 ≤ 500 by omega) (show 0 + 0 ≤ 20000 by omega) dX11_word_22
  · refine lv_iconst (v := (1 : Int32)) hx hb dX11_word_9 (by decide) ?_
    refine lv_goto (tgt := 14) hx hb dX11_word_10 (by decide) ?_
    refine M_calli hw (MA.up hw.2.2.1.1) (va_runV (own := "LeastreaderModel") (As := [.int r1, .int (1 : Int32)]) (rest := []) ⟨hx, hb, hml, hown, ht⟩ (c_X11_isThrown μ H.size r1 (1 : Int32) (ta_isThrown (Qm := fun r μ9 => FA μ μ9 ∧ (r = 0 → r1 ≠ 0 ∧ (1 : Int32) ≠ 0)) hRI (fun r μ9 _ f h => ⟨f, h⟩))) (cwV 2 ht (G_V q_1348 q_1350 q_26 q_56 q_1351) rfl rfl rfl ⟨rfl, rd_2⟩ ⟨Nat.le_of_ble_eq_true rfl, Nat.le_of_ble_eq_true rfl⟩) ⟨MB.blind, M_recv hM hw, MB.pre hM hI hw va_P0 ne0⟩ rfl rfl hl.1 rfl (lv_room (Nat.le_of_ble_eq_true rfl)) dX11_word_14 ⟨show 0 + 0 ≤ 500 by omega, show 0 + 0 ≤ 20000 by omega⟩) (fun rT μT H locs hrT hw => ?_)
    obtain ⟨hF, hT⟩ := hrT
    have h20 : 0 ≤ a2.toInt := by rw [l_lt, ii_0] at c9; omega
    refine lv_if_eq (tgt := 23) hx hb dX11_word_17 (by decide) (fun c9 => ?_) (fun c9 => ?_)
    · have hm := hr1.2 (hT c9).1
      refine lv_aload_n hx hb dX11_word_23 rfl (lv_at hl 0 rfl) ?_
      refine lv_iload_n hx hb dX11_word_24 rfl (lv_at hl 1 rfl) ?_
      refine lv_iconst (v := (0 : Int32)) hx hb dX11_word_25 (by decide) ?_
      refine M_callA hw (MA.up hw.2.2.1.1) (va_runV (own := "LeastreaderModel") (As := [.int a1, .int (0 : Int32)]) (rest := []) ⟨hx, hb, hml, hown, ht⟩ (c_X11_found μT H.size a1 (0 : Int32) (t_fnd (K := OWo) hm hF.1 (fun r hr => hr))) (cwV 2 ht (G_V q_1448 q_1450 q_36 q_56 q_1451) rfl rfl rfl ⟨rfl, rd_3⟩ ⟨Nat.le_of_ble_eq_true rfl, Nat.le_of_ble_eq_true rfl⟩) ⟨MB.blind, M_recv hM hw, MB.pre hM hI hw va_P0 ne0⟩ rfl rfl hl.1 rfl (lv_room (Nat.le_of_ble_eq_true rfl)) dX11_word_26 ⟨show 0 + 0 + 41 ≤ 500 by omega, show 0 + 0 + 1685 ≤ 20000 by omega⟩) (fun μA H locs h hw => ?_) (fun qa nn ff μA H locs hqa h hw => ?_)
      · obtain ⟨e7, h⟩ := h
        rw [e7] at hw
        refine lv_astore_nN (lv' := [(3, .null), (0, .ref (ad 0)), (1, .int a1), (2, .int a2)]) hx hb dX11_word_29 rfl hl (by decide) rfl (fun ls hl => ?_)
        refine lv_aload_n hx hb dX11_word_30 rfl (lv_at hl 1 rfl) ?_
        refine lv_aload_nN hx hb dX11_word_31 rfl (lv_at hl 0 rfl) ?_
        refine lv_iconst (v := (3 : Int32)) hx hb dX11_word_32 (by decide) ?_
        refine M_calli hw (MA.up hw.2.2.1.1) (va_runV (own := "LeastreaderModel") (As := [.null, .int (3 : Int32)]) (rest := []) ⟨hx, hb, hml, hown, ht⟩ (c_X11_isCrowded_n μT H.size (3 : Int32) (ta_isCrowded_n (Qm := fun r μ9 => r = 1 ∧ FA μT μ9) hF.1 (fun μ9 f => ⟨rfl, f⟩))) (cwV 2 ht (G_V q_1520 q_1522 q_42 q_56 q_1523) rfl rfl rfl ⟨rfl, rd_4⟩ ⟨Nat.le_of_ble_eq_true rfl, Nat.le_of_ble_eq_true rfl⟩) ⟨MB.blind, M_recv hM hw, MB.pre hM hI hw va_P0 ne0⟩ rfl rfl hl.1 rfl (lv_room (Nat.le_of_ble_eq_true rfl)) dX11_word_33 ⟨show 0 + 0 + 41 + 0 ≤ 500 by omega, show 0 + 0 + 1685 + 0 ≤ 20000 by omega⟩) (fun rC μC H locs hrC hw => ?_)
        obtain ⟨hC0, hFC⟩ := hrC
        have hF2 := hF.trans hFC
        refine lv_if_eq (tgt := 42) hx hb dX11_word_36 (by decide) (fun c9 => absurd c9 (by rw [hC0]; decide)) (fun c9 => ?_)
        obtain ⟨sa3, sa3b, sa3w, sa3h, sa3r, sa3O⟩ := hX _ (List.mem_of_getElem? (i := 0) rfl)
        refine va_ldcS hx hb hown sa3r dX11_word_39 ?_
        exact hret H locs ls 41 _ _ _ _ _ hw hF2 (show 0 + 0 + 41 + 0 ≤ 500 by omega) (show 0 + 0 + 1685 + 0 ≤ 20000 by omega) dX11_word_41
      · obtain ⟨e7, h⟩ := h
        rw [e7] at hw
        obtain ⟨S, hS1, hS, rfl, hfo, hgo⟩ := (h _ _ rfl).get
        have hw : MW D (MR ad cI μT) [(qa, .inl (cI, (4 * S), .inl ff))] (MA ad s.heap.size) s H locs := hw
        refine lv_astore_n (lv' := [(3, .ref qa), (0, .ref (ad 0)), (1, .int a1), (2, .int a2)]) hx hb dX11_word_29 rfl hl (by decide) rfl (fun ls hl => ?_)
        refine lv_aload_n hx hb dX11_word_30 rfl (lv_at hl 1 rfl) ?_
        refine lv_aload_n hx hb dX11_word_31 rfl (lv_at hl 0 rfl) ?_
        refine lv_iconst (v := (3 : Int32)) hx hb dX11_word_32 (by decide) ?_
        refine M_calli hw (MA.up hw.2.2.1.1) (va_runV (own := "LeastreaderModel") (As := [.ref qa, .int (3 : Int32)]) (rest := []) ⟨hx, hb, hml, hown, ht⟩ (c_X11_isCrowded qa μT H.size (4 * S) ff (3 : Int32) (ta_isCrowded' (Qm := fun r μ9 => r = 0 ∧ FA μT μ9 ∧ (∀ k : Nat, 1 ≤ k → μ9 k = μT k)) hF.1 (fun μ9 f e => ⟨rfl, f, e⟩))) (cwV 2 ht (G_V q_1520 q_1522 q_42 q_56 q_1523) rfl rfl rfl ⟨rfl, rd_4⟩ ⟨Nat.le_of_ble_eq_true rfl, Nat.le_of_ble_eq_true rfl⟩) ⟨MB.blind, M_recv hM hw, MB.pre hM hI hw (va_Pc2 (hw.n (j := 0) rfl) va_P0) (neC (hw.ne (j := 0) rfl) ne0)⟩ rfl rfl hl.1 rfl (lv_room (Nat.le_of_ble_eq_true rfl)) dX11_word_33 ⟨show 0 + 0 + 41 + 0 ≤ 500 by omega, show 0 + 0 + 1685 + 0 ≤ 20000 by omega⟩) (fun rC μC H locs hrC hw => ?_)
        obtain ⟨hC0, hFC, hEC⟩ := hrC
        have hF2 := hF.trans hFC
        refine lv_if_eq (tgt := 42) hx hb dX11_word_36 (by decide) (fun c9 => ?_) (fun c9 => absurd hC0 c9)
        obtain ⟨g, hWC, hways⟩ := wy S 12 ff (12 : Int32) hS1 hS (by decide) rfl hfo hgo
        refine lv_aload_n hx hb dX11_word_42 rfl (lv_at hl 0 rfl) ?_
        refine n_alenI hx hb hM (hw.n (j := 0) rfl) dX11_word_43 ?_
        refine lv_iconst (v := (4 : Int32)) hx hb dX11_word_44 (by decide) ?_
        refine lv_idiv hx hb dX11_word_45 (by decide) ?_
        refine lv_topi (fun x4 ex4 => ?_)
        rw [show x4 = (nI S) from ex4.trans (quart4 hS)]
        refine lv_istore (lv' := [(4, .int (nI S)), (3, .ref qa), (0, .ref (ad 0)), (1, .int a1), (2, .int a2)]) hx hb dX11_word_46 hl (by decide) rfl (fun ls hl => ?_)
        refine lv_aload_n hx hb dX11_word_48 rfl (lv_at hl 1 rfl) ?_
        refine lv_bipush (v := (12 : Int32)) hx hb dX11_word_49 (by decide) ?_
        refine S_callA hw (va_runS (own := "LeastreaderModel") (As := [.ref qa, .int (12 : Int32)]) (rest := []) ⟨hx, hb, hml, hown, ht⟩ (c_X11_ways qa H.size (4 * S) ff (12 : Int32) (Q := fun n f => n = S * 13 ∧ f = g) (hways _ ⟨rfl, rfl⟩)) (va_cwS 2 ht (G_S q_1552 q_1553 q_56 q_1554) rfl rfl rfl rd_10 ⟨Nat.le_of_ble_eq_true rfl, Nat.le_of_ble_eq_true rfl⟩) ⟨SB.blind, SB.pre hM (va_Pc2 (hw.n (j := 0) rfl) va_P0)⟩ rfl rfl hl.1 rfl (lv_room (Nat.le_of_ble_eq_true rfl)) dX11_word_51 ⟨show 0 + 0 + 41 + 0 + 1 ≤ 500 by omega, show 0 + 0 + 1685 + 0 + 416 ≤ 20000 by omega⟩) (fun H locs h hw => ?_) (fun qw nw fw H locs hqw h hw => ?_)
        · obtain ⟨_, _, e, _⟩ := h
          cases e
        · have e12 : nw = S * 13 ∧ fw = g := by
            obtain ⟨_, _, e, e1, e2⟩ := h
            cases e
            exact ⟨e1, e2⟩
          rw [e12.1, e12.2] at hw
          have hw : MW D (MR ad cI μC) [(qa, .inl (cI, (4 * S), .inl ff)), (qw, .inl (cI, (S * 13), .inl g))] (MA ad s.heap.size) s H locs := hw
          refine lv_astore (lv' := [(5, .ref qw), (4, .int (nI S)), (3, .ref qa), (0, .ref (ad 0)), (1, .int a1), (2, .int a2)]) hx hb dX11_word_54 hl (by decide) rfl (fun ls hl => ?_)
          refine lv_iload_n hx hb dX11_word_56 rfl (lv_at hl 5 rfl) ?_
          refine lv_istore (lv' := [(6, .int a2), (5, .ref qw), (4, .int (nI S)), (3, .ref qa), (0, .ref (ad 0)), (1, .int a1), (2, .int a2)]) hx hb dX11_word_57 hl (by decide) rfl (fun ls hl => ?_)
          refine lv_iconst (v := (0 : Int32)) hx hb dX11_word_59 (by decide) ?_
          refine lv_istore (lv' := [(7, .int (0 : Int32)), (6, .int a2), (5, .ref qw), (4, .int (nI S)), (3, .ref qa), (0, .ref (ad 0)), (1, .int a1), (2, .int a2)]) hx hb dX11_word_60 hl (by decide) rfl (fun ls hl => ?_)
          have J101 : ∀ (lf ln : Int32) (a : Nat) (H : Heap) (locs : List Loc) (ls : Array Slot), ln.toInt = (a : Int) → a ≤ 13 → 0 ≤ lf.toInt → (a ≤ 12 → lf.toInt < (g (a * S)).toInt) → MW D (MR ad cI μC) [(qa, .inl (cI, (4 * S), .inl ff)), (qw, .inl (cI, (S * 13), .inl g))] (MA ad s.heap.size) s H locs → lv_has ls 12 [(3, .ref qa), (4, .int (nI S)), (5, .ref qw), (6, .int lf), (7, .int ln)] → W p l e (RA 6 500 20000) s mI #[.ref (ad 0), .int a1, .int a2] below meth c H locs 42 2101 Z (F0 mI 101 ls []) := by
            intro lf ln a H locs ls hln ha h0 hlt hw hl
            refine lv_iload hx hb dX11_word_101 (lv_at hl 4 rfl) ?_
            refine lv_bipush (v := (12 : Int32)) hx hb dX11_word_103 (by decide) ?_
            refine lv_icmp_le (tgt := 111) hx hb dX11_word_105 (by decide) (fun c9 => ?_) (fun c9 => ?_)
            · have c1 : ln.toInt ≤ 12 := l_le.mp c9
              have hlf := hlt (by omega)
              refine lv_iconst (v := (0 : Int32)) hx hb dX11_word_111 (by decide) ?_
              refine lv_istore (lv' := [(8, .int (0 : Int32)), (3, .ref qa), (4, .int (nI S)), (5, .ref qw), (6, .int lf), (7, .int ln)]) hx hb dX11_word_112 hl (by decide) rfl (fun ls hl => ?_)
              refine n_newO (fs := [.null, .int 0, .int 0, .int 0]) hx hb ht in_11 tyJ4 tyJ4_ok hown (ht _ q_1533) (ht _ q_893) (ht _ q_67) hK hw cl_11 (fun j hj => by rcases (show j = 0 ∨ j = 1 ∨ j = 2 ∨ j = 3 by omega) with rfl | rfl | rfl | rfl <;> rfl) (show 42 + 1 ≤ 500 by omega) (show 2101 + 4 ≤ 20000 by omega) dX11_word_114 (fun q5 H hw => ?_)
              have hw : MW D (MR ad cI μC) [(qa, .inl (cI, (4 * S), .inl ff)), (qw, .inl (cI, (S * 13), .inl g)), (q5, .inr (11, [.null, .int 0, .int 0, .int 0]))] (MA ad s.heap.size) s H locs := hw
              refine lv_dup hx hb dX11_word_117 rfl ?_
              refine J_callv (N0 := [(qa, .inl (cI, (4 * S), .inl ff)), (qw, .inl (cI, (S * 13), .inl g))]) (ws := [(q5, .inr (11, [.null, .int 0, .int 0, .int 0]))]) hw (va_runI (own := "LeastreaderModel") (As := []) (rest := [.ref q5]) ⟨hx, hb, hml, hown, ht⟩ (c_J4_init_da8c8 q5 H.size) (cwI 0 ht (G_ws q_896) rfl rfl rfl (ht _ q_67) (ht _ q_1534) (ht _ q_895) rfl rd_5 ⟨Nat.le_of_ble_eq_true rfl, Nat.le_of_ble_eq_true rfl⟩) ⟨JB.blind, JB.pre (N0 := [(qa, .inl (cI, (4 * S), .inl ff)), (qw, .inl (cI, (S * 13), .inl g))]) (ws := [(q5, .inr (11, [.null, .int 0, .int 0, .int 0]))]) hK hC hZ hw SL0⟩ rfl rfl hl.1 rfl (lv_room (Nat.le_of_ble_eq_true rfl)) dX11_word_118 ⟨show 42 + 1 + 1 ≤ 500 by omega, show 2101 + 4 + 16 ≤ 20000 by omega⟩) (fun u6 H locs hp7 hw => ?_)
              have hw : MW D (MR ad cI μC) [(qa, .inl (cI, (4 * S), .inl ff)), (qw, .inl (cI, (S * 13), .inl g)), (q5, .inr (11, [.ref u6, .int 0, .int 0, .int (nI 0)])), (u6, .inl (cB, 16, .inl (fun _ => 0)))] (MA ad s.heap.size) s H locs := hw
              have hB0 : BSo 42 2101 16 0 (42 + 1 + 1) (2101 + 4 + 16) := ⟨by omega, by omega, by omega, by omega, by omega⟩
              refine lv_astore (lv' := [(9, .ref q5), (8, .int (0 : Int32)), (3, .ref qa), (4, .int (nI S)), (5, .ref qw), (6, .int lf), (7, .int ln)]) hx hb dX11_word_121 hl (by decide) rfl (fun ls hl => ?_)
              refine lv_iload hx hb dX11_word_123 (lv_at hl 6 rfl) ?_
              refine lv_iconst (v := (1 : Int32)) hx hb dX11_word_125 (by decide) ?_
              refine lv_isub hx hb dX11_word_126 ?_
              refine lv_topi (fun fr efr => ?_)
              have hfr : fr.toInt = (a : Int) - 1 := by rw [efr]; exact ii_s hln rfl (by omega) (by omega)
              refine lv_istore (lv' := [(10, .int fr), (9, .ref q5), (8, .int (0 : Int32)), (3, .ref qa), (4, .int (nI S)), (5, .ref qw), (6, .int lf), (7, .int ln)]) hx hb dX11_word_127 hl (by decide) rfl (fun ls hl => ?_)
              have L129 : ∀ (k : Nat) (fr lf st : Int32) (r t : Nat) (n v m cv sv : Nat) (f : Nat → Int32) (H : Heap) (locs : List Loc) (ls : Array Slot), r < k → fr.toInt = (r : Int) - 1 → r ≤ 12 → st.toInt = (t : Int) → t < S → 0 ≤ lf.toInt → lf.toInt < (g (r * S + t)).toInt → n + r ≤ 12 → BSo 42 2101 m n cv sv → FT f → MW D (MR ad cI μC) [(qa, .inl (cI, (4 * S), .inl ff)), (qw, .inl (cI, (S * 13), .inl g)), (q5, .inr (11, [.ref v, .int 0, .int 0, .int (nI n)])), (v, .inl (cB, m, .inl f))] (MA ad s.heap.size) s H locs → lv_has ls 12 [(3, .ref qa), (4, .int (nI S)), (5, .ref qw), (6, .int lf), (8, .int st), (9, .ref q5), (10, .int fr)] → W p l e (RA 6 500 20000) s mI #[.ref (ad 0), .int a1, .int a2] below meth c H locs cv sv Z (F0 mI 129 ls []) := by
                intro k
                induction k with
                | zero => intro fr lf st r t n v m cv sv f H locs ls hk; exact absurd hk (Nat.not_lt_zero _)
                | succ k ih =>
                  intro fr lf st r t n v m cv sv f H locs ls hk hfr hr hst ht9 h0 hl9 hn hB hf hw hl
                  refine lv_iload hx hb dX11_word_129 (lv_at hl 6 rfl) ?_
                  refine lv_if_lt (tgt := 218) hx hb dX11_word_131 (by decide) (fun c9 => ?_) (fun c9 => ?_)
                  · refine lv_aload hx hb dX11_word_218 (lv_at hl 5 rfl) ?_
                    refine lv_bipush (v := (46 : Int32)) hx hb dX11_word_220 (by decide) ?_
                    have hB9 := BSo.add 1 hB
                    have hB9x := hB9
                    obtain ⟨_, _, _, _, _⟩ := hB9x
                    have hBx := hB
                    obtain ⟨_, _, _, _, _⟩ := hBx
                    refine J_callr (N0 := [(qa, .inl (cI, (4 * S), .inl ff)), (qw, .inl (cI, (S * 13), .inl g))]) (ws := [(q5, .inr (11, [.ref v, .int 0, .int 0, .int (nI n)])), (v, .inl (cB, m, .inl f))]) hw (va_runV (own := "LeastreaderModel") (As := [.int (46 : Int32)]) (rest := []) ⟨hx, hb, hml, hown, ht⟩ (c_J4_append_cf468 q5 v m n f (46 : Int32) H.size (by omega) (by omega) (by omega) hf (by decide)) (cwV 1 ht (G_V q_1538 q_924 q_925 q_67 q_926) rfl rfl rfl ⟨rfl, rd_9⟩ ⟨Nat.le_of_ble_eq_true rfl, Nat.le_of_ble_eq_true rfl⟩) ⟨JB.blind, J_recv hK hw (j := 2) rfl cl_11, JB.pre (N0 := [(qa, .inl (cI, (4 * S), .inl ff)), (qw, .inl (cI, (S * 13), .inl g))]) (ws := [(q5, .inr (11, [.ref v, .int 0, .int 0, .int (nI n)])), (v, .inl (cB, m, .inl f))]) hK hC hZ hw SL0⟩ rfl rfl hl.1 rfl (lv_room (Nat.le_of_ble_eq_true rfl)) dX11_word_222 ⟨show cv + (gr (n + 1) m) ≤ 500 by omega, show sv + (gs (n + 1) m) ≤ 20000 by omega⟩) (fun u12 H locs hp13 hw => ?_)
                    obtain ⟨v10, f11⟩ := u12
                    have hw : MW D (MR ad cI μC) [(qa, .inl (cI, (4 * S), .inl ff)), (qw, .inl (cI, (S * 13), .inl g)), (q5, .inr (11, [.ref v10, .int 0, .int 0, .int (nI (n + 1))])), (v10, .inl (cB, (cap (n + 1) m), .inl f11))] (MA ad s.heap.size) s H locs := hw
                    have hBx := hB9
                    obtain ⟨_, _, _, _, _⟩ := hBx
                    refine J_callr (N0 := [(qa, .inl (cI, (4 * S), .inl ff)), (qw, .inl (cI, (S * 13), .inl g))]) (ws := [(q5, .inr (11, [.ref v10, .int 0, .int 0, .int (nI (n + 1))])), (v10, .inl (cB, (cap (n + 1) m), .inl f11))]) hw (va_runV (own := "LeastreaderModel") (As := []) (rest := []) ⟨hx, hb, hml, hown, ht⟩ (c_J4_toString_0e30d q5 v10 (cap (n + 1) m) (n + 1) f11 H.size (by omega) (by omega) hp13) (cwV 0 ht (G_V q_1540 q_1054 q_1055 q_67 q_1056) rfl rfl rfl ⟨rfl, rd_6⟩ ⟨Nat.le_of_ble_eq_true rfl, Nat.le_of_ble_eq_true rfl⟩) ⟨JB.blind, J_recv hK hw (j := 2) rfl cl_11, JB.pre (N0 := [(qa, .inl (cI, (4 * S), .inl ff)), (qw, .inl (cI, (S * 13), .inl g))]) (ws := [(q5, .inr (11, [.ref v10, .int 0, .int 0, .int (nI (n + 1))])), (v10, .inl (cB, (cap (n + 1) m), .inl f11))]) hK hC hZ hw SL0⟩ rfl rfl hl.1 rfl (lv_room (Nat.le_of_ble_eq_true rfl)) dX11_word_225 ⟨show cv + (gr (n + 1) m) + 2 ≤ 500 by omega, show sv + (gs (n + 1) m) + ((n + 1) + 4) ≤ 20000 by omega⟩) (fun u15 H locs hp16 hw => ?_)
                    have hw : MW D (MR ad cI μC) [(qa, .inl (cI, (4 * S), .inl ff)), (qw, .inl (cI, (S * 13), .inl g)), (u15.1, .inr (12, [.ref u15.2.1, .int 0, .int 0, .int 0])), (q5, .inr (11, [.ref v10, .int 0, .int 0, .int (nI (n + 1))])), (v10, .inl (cB, (cap (n + 1) m), .inl f11)), (u15.2.1, .inl (cB, (n + 1), .inl u15.2.2))] (MA ad s.heap.size) s H locs := hw
                    exact hret H locs ls 228 _ _ _ _ _ hw hF2 (show cv + (gr (n + 1) m) + 2 ≤ 500 by omega) (show sv + (gs (n + 1) m) + ((n + 1) + 4) ≤ 20000 by omega) dX11_word_228
                  · have hr1 : 1 ≤ r := by rw [l_lt, ii_0] at c9; omega
                    have w3 := (hWC r t ht9 (Or.inl (by omega))).2.2 hr1
                    obtain ⟨G0, eG0⟩ : ∃ z : Int, (g ((r - 1) * S + (ff (4 * t)).toInt.toNat)).toInt = z := ⟨_, rfl⟩
                    obtain ⟨G1, eG1⟩ : ∃ z : Int, (g ((r - 1) * S + (ff (4 * t + 1)).toInt.toNat)).toInt = z := ⟨_, rfl⟩
                    obtain ⟨G2, eG2⟩ : ∃ z : Int, (g ((r - 1) * S + (ff (4 * t + 2)).toInt.toNat)).toInt = z := ⟨_, rfl⟩
                    rw [eG0, eG1, eG2] at w3
                    have zq5 : (r - 1) * S ≤ 11 * S := Nat.mul_le_mul_right _ (by omega)
                    have J189 : ∀ (sg lf : Int32) (s1 : Nat) (n v m cv sv : Nat) (f : Nat → Int32) (H : Heap) (locs : List Loc) (ls : Array Slot), sg.toInt = (s1 : Int) → s1 ≤ 2 → 0 ≤ lf.toInt → lf.toInt < (g ((r - 1) * S + (ff (4 * t + s1)).toInt.toNat)).toInt → n + r ≤ 12 → BSo 42 2101 m n cv sv → FT f → MW D (MR ad cI μC) [(qa, .inl (cI, (4 * S), .inl ff)), (qw, .inl (cI, (S * 13), .inl g)), (q5, .inr (11, [.ref v, .int 0, .int 0, .int (nI n)])), (v, .inl (cB, m, .inl f))] (MA ad s.heap.size) s H locs → lv_has ls 12 [(3, .ref qa), (4, .int (nI S)), (5, .ref qw), (6, .int lf), (8, .int st), (9, .ref q5), (10, .int fr), (11, .int sg)] → W p l e (RA 6 500 20000) s mI #[.ref (ad 0), .int a1, .int a2] below meth c H locs cv sv Z (F0 mI 189 ls []) := by
                      intro sg lf s1 n v m cv sv f H locs ls hsg hs h0 hl9 hn hB hf hw hl
                      obtain ⟨p1, p2, p3⟩ := fourk (x := st) (y := sg) (S := S) (by omega) (by omega) hS (by omega) (by omega)
                      have p4 : ((4 : Int32) * st + sg).toNatClampNeg = 4 * t + s1 := by rw [p2]; omega
                      have hy := hfo t s1 ht9 (by omega)
                      refine lv_aload hx hb dX11_word_189 (lv_at hl 5 rfl) ?_
                      refine lv_bipush (v := (97 : Int32)) hx hb dX11_word_191 (by decide) ?_
                      refine lv_iload hx hb dX11_word_193 (lv_at hl 7 rfl) ?_
                      refine lv_iadd hx hb dX11_word_195 ?_
                      refine lv_i2c hx hb dX11_word_196 rfl ?_
                      have hB18 := BSo.add 1 hB
                      have hB18x := hB18
                      obtain ⟨_, _, _, _, _⟩ := hB18x
                      have hBx := hB
                      obtain ⟨_, _, _, _, _⟩ := hBx
                      refine J_callr (N0 := [(qa, .inl (cI, (4 * S), .inl ff)), (qw, .inl (cI, (S * 13), .inl g))]) (ws := [(q5, .inr (11, [.ref v, .int 0, .int 0, .int (nI n)])), (v, .inl (cB, m, .inl f))]) hw (va_runV (own := "LeastreaderModel") (As := [.int ((((97 : Int32) + sg).toUInt32 % 65536).toInt32)]) (rest := []) ⟨hx, hb, hml, hown, ht⟩ (c_J4_append_cf468 q5 v m n f ((((97 : Int32) + sg).toUInt32 % 65536).toInt32) H.size (by omega) (by omega) (by omega) hf (ch_ok (show rng sg from ⟨by omega, by omega⟩))) (cwV 1 ht (G_V q_1538 q_924 q_925 q_67 q_926) rfl rfl rfl ⟨rfl, rd_9⟩ ⟨Nat.le_of_ble_eq_true rfl, Nat.le_of_ble_eq_true rfl⟩) ⟨JB.blind, J_recv hK hw (j := 2) rfl cl_11, JB.pre (N0 := [(qa, .inl (cI, (4 * S), .inl ff)), (qw, .inl (cI, (S * 13), .inl g))]) (ws := [(q5, .inr (11, [.ref v, .int 0, .int 0, .int (nI n)])), (v, .inl (cB, m, .inl f))]) hK hC hZ hw SL0⟩ rfl rfl hl.1 rfl (lv_room (Nat.le_of_ble_eq_true rfl)) dX11_word_197 ⟨show cv + (gr (n + 1) m) ≤ 500 by omega, show sv + (gs (n + 1) m) ≤ 20000 by omega⟩) (fun u21 H locs hp22 hw => ?_)
                      obtain ⟨v19, f20⟩ := u21
                      have hw : MW D (MR ad cI μC) [(qa, .inl (cI, (4 * S), .inl ff)), (qw, .inl (cI, (S * 13), .inl g)), (q5, .inr (11, [.ref v19, .int 0, .int 0, .int (nI (n + 1))])), (v19, .inl (cB, (cap (n + 1) m), .inl f20))] (MA ad s.heap.size) s H locs := hw
                      refine lv_pop hx hb dX11_word_200 rfl ?_
                      refine lv_aload_n hx hb dX11_word_201 rfl (lv_at hl 0 rfl) ?_
                      refine lv_iconst (v := (4 : Int32)) hx hb dX11_word_202 (by decide) ?_
                      refine lv_iload hx hb dX11_word_203 (lv_at hl 4 rfl) ?_
                      refine lv_imul hx hb dX11_word_205 ?_
                      refine lv_iload hx hb dX11_word_206 (lv_at hl 7 rfl) ?_
                      refine lv_iadd hx hb dX11_word_208 ?_
                      refine n_iald hx hb hM (hw.n (j := 0) rfl) (i := (((4 : Int32) * st) + sg)) p3 dX11_word_209 ?_
                      refine lv_topi (fun y1 ey1 => ?_)
                      rw [p4] at ey1
                      refine lv_istore (lv' := [(8, .int y1), (3, .ref qa), (4, .int (nI S)), (5, .ref qw), (6, .int lf), (9, .ref q5), (10, .int fr), (11, .int sg)]) hx hb dX11_word_210 hl (by decide) rfl (fun ls hl => ?_)
                      obtain ⟨r2, er2⟩ : ∃ z, fr + Int32.ofInt (-1) = z := ⟨_, rfl⟩
                      have hr2 : r2.toInt = fr.toInt - 1 := by
                        rw [← er2, show Int32.ofInt (-1) = -1 from rfl, ← Int32.sub_eq_add_neg]
                        exact ii_s rfl rfl (by omega) (by omega)
                      refine lv_iinc (v := r2) (lv' := [(10, .int r2), (8, .int y1), (3, .ref qa), (4, .int (nI S)), (5, .ref qw), (6, .int lf), (9, .ref q5), (11, .int sg)]) hx hb dX11_word_212 hl (k := 6) rfl er2 (by decide) rfl (fun ls hl => ?_)
                      refine lv_goto (tgt := 129) hx hb dX11_word_215 (by decide) ?_
                      exact ih r2 lf y1 (r - 1) (ff (4 * t + s1)).toInt.toNat (n + 1) v19 (cap (n + 1) m) (cv + (gr (n + 1) m)) (sv + (gs (n + 1) m)) f20 H locs ls (by omega) (by omega) (by omega) (by rw [ey1]; omega) (by omega) h0 hl9 (by omega) hB18 hp22 hw (lv_sub hl [2, 3, 4, 5, 1, 6, 0] rfl)
                    have L137 : ∀ (k : Nat) (sg lf : Int32) (s1 : Nat) (n v m cv sv : Nat) (f : Nat → Int32) (H : Heap) (locs : List Loc) (ls : Array Slot), 3 - s1 < k → sg.toInt = (s1 : Int) → s1 ≤ 2 → 0 ≤ lf.toInt → LT3 s1 lf.toInt G0 G1 G2 → n + r ≤ 12 → BSo 42 2101 m n cv sv → FT f → MW D (MR ad cI μC) [(qa, .inl (cI, (4 * S), .inl ff)), (qw, .inl (cI, (S * 13), .inl g)), (q5, .inr (11, [.ref v, .int 0, .int 0, .int (nI n)])), (v, .inl (cB, m, .inl f))] (MA ad s.heap.size) s H locs → lv_has ls 12 [(3, .ref qa), (4, .int (nI S)), (5, .ref qw), (6, .int lf), (8, .int st), (9, .ref q5), (10, .int fr), (11, .int sg)] → W p l e (RA 6 500 20000) s mI #[.ref (ad 0), .int a1, .int a2] below meth c H locs cv sv Z (F0 mI 137 ls []) := by
                      intro k
                      induction k with
                      | zero => intro sg lf s1 n v m cv sv f H locs ls hk; exact absurd hk (Nat.not_lt_zero _)
                      | succ k ih2 =>
                        intro sg lf s1 n v m cv sv f H locs ls hk2 hsg hs h0 hl9 hn hB hf hw hl
                        obtain ⟨p1, p2, p3⟩ := fourk (x := st) (y := sg) (S := S) (by omega) (by omega) hS (by omega) (by omega)
                        have p4 : ((4 : Int32) * st + sg).toNatClampNeg = 4 * t + s1 := by rw [p2]; omega
                        have hy := hfo t s1 ht9 (by omega)
                        have zq1 := idx (x := fr) (y := nI S) (z := ff (4 * t + s1)) (a := r - 1) (S := S) (b := (ff (4 * t + s1)).toInt.toNat) (by omega) (ii_nI (by omega)) (by omega) (by omega) hS (by omega)
                        have zq2 : vp_in (fr * nI S + ff (4 * t + s1)) (S * 13) := vin (by rw [zq1.1]; omega)
                        refine lv_iload hx hb dX11_word_137 (lv_at hl 3 rfl) ?_
                        refine lv_aload hx hb dX11_word_139 (lv_at hl 2 rfl) ?_
                        refine lv_iload hx hb dX11_word_141 (lv_at hl 6 rfl) ?_
                        refine lv_iload hx hb dX11_word_143 (lv_at hl 1 rfl) ?_
                        refine lv_imul hx hb dX11_word_145 ?_
                        refine lv_aload_n hx hb dX11_word_146 rfl (lv_at hl 0 rfl) ?_
                        refine lv_iconst (v := (4 : Int32)) hx hb dX11_word_147 (by decide) ?_
                        refine lv_iload hx hb dX11_word_148 (lv_at hl 4 rfl) ?_
                        refine lv_imul hx hb dX11_word_150 ?_
                        refine lv_iload hx hb dX11_word_151 (lv_at hl 7 rfl) ?_
                        refine lv_iadd hx hb dX11_word_153 ?_
                        refine n_iald hx hb hM (hw.n (j := 0) rfl) (i := (((4 : Int32) * st) + sg)) p3 dX11_word_154 ?_
                        refine lv_topi (fun y1 ey1 => ?_)
                        rw [p4] at ey1
                        refine lv_iadd hx hb dX11_word_155 ?_
                        refine n_iald hx hb hM (hw.n (j := 1) rfl) (i := ((fr * (nI S)) + y1)) (by rw [ey1]; exact zq2) dX11_word_156 ?_
                        refine lv_topi (fun y2 ey2 => ?_)
                        rw [ey1, zq1.2.1] at ey2
                        have z2 : 0 ≤ y2.toInt := by rw [ey2]; exact (hWC (r - 1) _ (by omega) (Or.inl (by omega))).1
                        have hGs : EQ3 s1 y2.toInt G0 G1 G2 := ⟨fun z => by rw [ey2, z]; exact eG0, fun z => by rw [ey2, z]; exact eG1, fun z => by rw [ey2, z]; exact eG2⟩
                        refine lv_icmp_lt (tgt := 189) hx hb dX11_word_157 (by decide) (fun c9 => ?_) (fun c9 => ?_)
                        · exact J189 sg lf s1 n v m (cv) (sv) f H locs ls hsg hs h0 (by rw [← ey2]; exact l_lt.mp c9) (by omega) hB hf hw (lv_sub hl [0, 1, 2, 3, 4, 5, 6, 7] rfl)
                        · have c2 : y2.toInt ≤ lf.toInt := by rw [l_lt] at c9; omega
                          have hlt9 := lf.toInt_lt
                          refine lv_iload hx hb dX11_word_160 (lv_at hl 3 rfl) ?_
                          refine lv_aload hx hb dX11_word_162 (lv_at hl 2 rfl) ?_
                          refine lv_iload hx hb dX11_word_164 (lv_at hl 6 rfl) ?_
                          refine lv_iload hx hb dX11_word_166 (lv_at hl 1 rfl) ?_
                          refine lv_imul hx hb dX11_word_168 ?_
                          refine lv_aload_n hx hb dX11_word_169 rfl (lv_at hl 0 rfl) ?_
                          refine lv_iconst (v := (4 : Int32)) hx hb dX11_word_170 (by decide) ?_
                          refine lv_iload hx hb dX11_word_171 (lv_at hl 4 rfl) ?_
                          refine lv_imul hx hb dX11_word_173 ?_
                          refine lv_iload hx hb dX11_word_174 (lv_at hl 7 rfl) ?_
                          refine lv_iinc (v := (sg + (1 : Int32))) (lv' := [(11, .int (sg + (1 : Int32))), (3, .ref qa), (4, .int (nI S)), (5, .ref qw), (6, .int lf), (8, .int st), (9, .ref q5), (10, .int fr)]) hx hb dX11_word_176 hl (k := 7) rfl rfl (by decide) rfl (fun ls hl => ?_)
                          refine lv_iadd hx hb dX11_word_179 ?_
                          refine n_iald hx hb hM (hw.n (j := 0) rfl) (i := (((4 : Int32) * st) + sg)) p3 dX11_word_180 ?_
                          refine lv_topi (fun y3 ey3 => ?_)
                          rw [p4] at ey3
                          refine lv_iadd hx hb dX11_word_181 ?_
                          refine n_iald hx hb hM (hw.n (j := 1) rfl) (i := ((fr * (nI S)) + y3)) (by rw [ey3]; exact zq2) dX11_word_182 ?_
                          refine lv_topi (fun y4 ey4 => ?_)
                          rw [ey3, zq1.2.1, ← ey2] at ey4
                          have e5 : (lf - y4).toInt = lf.toInt - y2.toInt := ii_s rfl (congrArg Int32.toInt ey4) (by omega) (by omega)
                          have e6 : (sg + (1 : Int32)).toInt = sg.toInt + 1 := ii_a rfl rfl (by omega) (by omega)
                          obtain ⟨hs3, hl3⟩ := LT3.next hs hl9 hGs c2 e5
                          refine lv_isub hx hb dX11_word_183 ?_
                          refine lv_istore (lv' := [(6, .int (lf - y4)), (11, .int (sg + (1 : Int32))), (3, .ref qa), (4, .int (nI S)), (5, .ref qw), (8, .int st), (9, .ref q5), (10, .int fr)]) hx hb dX11_word_184 hl (by decide) rfl (fun ls hl => ?_)
                          refine lv_goto (tgt := 137) hx hb dX11_word_186 (by decide) ?_
                          exact ih2 (sg + (1 : Int32)) (lf - y4) (s1 + 1) n v m (cv) (sv) f H locs ls (by omega) (by omega) hs3 (by omega) hl3 hn hB hf hw (lv_sub hl [2, 3, 4, 0, 5, 6, 7, 1] rfl)
                    refine lv_iconst (v := (0 : Int32)) hx hb dX11_word_134 (by decide) ?_
                    refine lv_istore (lv' := [(11, .int (0 : Int32)), (3, .ref qa), (4, .int (nI S)), (5, .ref qw), (6, .int lf), (8, .int st), (9, .ref q5), (10, .int fr)]) hx hb dX11_word_135 hl (by decide) rfl (fun ls hl => ?_)
                    exact L137 _ (0 : Int32) lf 0 n v m (cv) (sv) f H locs ls (Nat.lt_succ_self _) (by decide) (by omega) h0 ⟨fun _ => by omega, fun z => absurd z (by decide), fun z => absurd z (by decide)⟩ hn hB hf hw (lv_sub hl [1, 2, 3, 4, 5, 6, 7, 0] rfl)
              exact L129 _ fr lf (0 : Int32) a 0 0 u6 16 (42 + 1 + 1) (2101 + 4 + 16) (fun _ => 0) H locs ls (Nat.lt_succ_self _) hfr (by omega) (by decide) (by omega) h0 hlf (by omega) hB0 FT0 hw (lv_sub hl [3, 4, 5, 6, 2, 1, 0] rfl)
            · obtain ⟨sa24, sa24b, sa24w, sa24h, sa24r, sa24O⟩ := hX _ (List.mem_of_getElem? (i := 0) rfl)
              refine va_ldcS hx hb hown sa24r dX11_word_108 ?_
              exact hret H locs ls 110 _ _ _ _ _ hw hF2 (show 42 ≤ 500 by omega) (show 2101 ≤ 20000 by omega) dX11_word_110
          have L62 : ∀ (k : Nat) (lf ln : Int32) (a : Nat) (H : Heap) (locs : List Loc) (ls : Array Slot), 13 - a < k → ln.toInt = (a : Int) → a ≤ 13 → 0 ≤ lf.toInt → MW D (MR ad cI μC) [(qa, .inl (cI, (4 * S), .inl ff)), (qw, .inl (cI, (S * 13), .inl g))] (MA ad s.heap.size) s H locs → lv_has ls 12 [(3, .ref qa), (4, .int (nI S)), (5, .ref qw), (6, .int lf), (7, .int ln)] → W p l e (RA 6 500 20000) s mI #[.ref (ad 0), .int a1, .int a2] below meth c H locs 42 2101 Z (F0 mI 62 ls []) := by
            intro k
            induction k with
            | zero => intro lf ln a H locs ls hk; exact absurd hk (Nat.not_lt_zero _)
            | succ k ih =>
              intro lf ln a H locs ls hk hln ha h0 hw hl
              refine lv_iload hx hb dX11_word_62 (lv_at hl 4 rfl) ?_
              refine lv_bipush (v := (12 : Int32)) hx hb dX11_word_64 (by decide) ?_
              refine lv_icmp_gt (tgt := 101) hx hb dX11_word_66 (by decide) (fun c9 => ?_) (fun c9 => ?_)
              · have c1 : (12 : Int32).toInt < ln.toInt := l_lt.mp c9
                rw [show (12 : Int32).toInt = 12 from rfl] at c1
                refine W.widen (show 42 ≤ 42 by omega) (show 2101 ≤ 2101 by omega) ?_
                exact J101 lf ln a H locs ls hln ha h0 (fun z => by omega) hw (lv_sub hl [0, 1, 2, 3, 4] rfl)
              · have c1 : ¬ (12 : Int32).toInt < ln.toInt := fun z => c9 (l_lt.mpr z)
                rw [show (12 : Int32).toInt = 12 from rfl] at c1
                obtain ⟨k1, k2⟩ := idm hln (by omega) hS1 hS
                have w1 : 0 ≤ (g (a * S)).toInt := (hWC a 0 hS1 (Or.inl (by omega))).1
                refine lv_iload hx hb dX11_word_69 (lv_at hl 3 rfl) ?_
                refine lv_aload hx hb dX11_word_71 (lv_at hl 2 rfl) ?_
                refine lv_iload hx hb dX11_word_73 (lv_at hl 4 rfl) ?_
                refine lv_iload hx hb dX11_word_75 (lv_at hl 1 rfl) ?_
                refine lv_imul hx hb dX11_word_77 ?_
                refine n_iald hx hb hM (hw.n (j := 1) rfl) (i := (ln * (nI S))) k2 dX11_word_78 ?_
                refine lv_topi (fun y1 ey1 => ?_)
                rw [k1] at ey1
                refine lv_icmp_lt (tgt := 101) hx hb dX11_word_79 (by decide) (fun c9 => ?_) (fun c9 => ?_)
                · refine W.widen (show 42 ≤ 42 by omega) (show 2101 ≤ 2101 by omega) ?_
                  exact J101 lf ln a H locs ls hln ha h0 (fun _ => by rw [← ey1]; exact l_lt.mp c9) hw (lv_sub hl [0, 1, 2, 3, 4] rfl)
                · have c2 : y1.toInt ≤ lf.toInt := by rw [l_lt] at c9; omega
                  have hlt9 := lf.toInt_lt
                  have e6 : (ln + (1 : Int32)).toInt = ln.toInt + 1 := ii_a rfl rfl (by omega) (by omega)
                  refine lv_iload hx hb dX11_word_82 (lv_at hl 3 rfl) ?_
                  refine lv_aload hx hb dX11_word_84 (lv_at hl 2 rfl) ?_
                  refine lv_iload hx hb dX11_word_86 (lv_at hl 4 rfl) ?_
                  refine lv_iinc (v := (ln + (1 : Int32))) (lv' := [(7, .int (ln + (1 : Int32))), (3, .ref qa), (4, .int (nI S)), (5, .ref qw), (6, .int lf)]) hx hb dX11_word_88 hl (k := 4) rfl rfl (by decide) rfl (fun ls hl => ?_)
                  refine lv_iload hx hb dX11_word_91 (lv_at hl 2 rfl) ?_
                  refine lv_imul hx hb dX11_word_93 ?_
                  refine n_iald hx hb hM (hw.n (j := 1) rfl) (i := (ln * (nI S))) k2 dX11_word_94 ?_
                  refine lv_topi (fun y2 ey2 => ?_)
                  rw [k1, ← ey1] at ey2
                  rw [← ey1] at w1
                  have e5 : (lf - y2).toInt = lf.toInt - y1.toInt := ii_s rfl (congrArg Int32.toInt ey2) (by omega) (by omega)
                  refine lv_isub hx hb dX11_word_95 ?_
                  refine lv_istore (lv' := [(6, .int (lf - y2)), (7, .int (ln + (1 : Int32))), (3, .ref qa), (4, .int (nI S)), (5, .ref qw)]) hx hb dX11_word_96 hl (by decide) rfl (fun ls hl => ?_)
                  refine lv_goto (tgt := 62) hx hb dX11_word_98 (by decide) ?_
                  refine W.widen (show 42 ≤ 42 by omega) (show 2101 ≤ 2101 by omega) ?_
                  exact ih (lf - y2) (ln + (1 : Int32)) (a + 1) H locs ls (by omega) (by omega) (by omega) (by omega) hw (lv_sub hl [2, 3, 4, 0, 1] rfl)
          refine W.widen (show 0 + 0 + 41 + 0 + 1 ≤ 42 by omega) (show 0 + 0 + 1685 + 0 + 416 ≤ 2101 by omega) ?_
          exact L62 _ a2 (0 : Int32) 0 H locs ls (Nat.lt_succ_self _) (by decide) (by omega) h20 hw (lv_sub hl [4, 3, 2, 1, 0] rfl)
    · obtain ⟨sa25, sa25b, sa25w, sa25h, sa25r, sa25O⟩ := hX _ (List.mem_of_getElem? (i := 0) rfl)
      refine va_ldcS hx hb hown sa25r dX11_word_20 ?_
      exact hret H locs ls 22 _ _ _ _ _ hw hF (show 0 + 0 ≤ 500 by omega) (show 0 + 0 ≤ 20000 by omega) dX11_word_22
end
/-! part 9j.rtx3 -/
section
set_option maxHeartbeats 4000000 in
set_option maxRecDepth 100000 in
theorem c_X11_apart {l : Launch} {D : va_G} {ad : Nat → Nat} {cI cL cB : ClassId} (μ : TMem) (sz : Nat) (a1 a2 : Int32) (hRI : RI μ) : MS l yX11_apart (.code yX11_apart cX11_apart 6 (Option.some (Jvm.ClassFile.FieldType.object "java/lang/String"))) 6 1400 91500 [.ref (ad 0), .int a1, .int a2] D ad cI cL cB sz μ := by
  refine MS_met (by decide +kernel) (Nat.le_of_ble_eq_true rfl) ?_
  intro p e s mI below meth c Z ls hx hb hml hown ht hM hI hK hC hZ hX hw hret hl
  have hl : lv_has ls 6 [(0, .ref (ad 0)), (1, .int a1), (2, .int a2)] := hl
  suffices hh : ∀ (H : Heap) (locs : List Loc), MW D (MR ad cI μ) [] (MA ad s.heap.size) s H locs → W p l e (RA 6 1400 91500) s mI #[.ref (ad 0), .int a1, .int a2] below meth c H locs 0 0 Z (F0 mI 0 ls []) from hh _ _ hw
  intro H locs hw
  have hF0 := FA.rf hRI
  refine lv_aload_n hx hb dX11_apart_0 rfl (lv_at hl 0 rfl) ?_
  refine lv_iload_n hx hb dX11_apart_1 rfl (lv_at hl 1 rfl) ?_
  refine P_calli (va_runS (own := "LeastreaderModel") (As := [.int a1]) (rest := [.ref (ad 0)]) ⟨hx, hb, hml, hown, ht⟩ (c_X11_isOne a1 (t_isOne (Q := fun r => isB r ∧ (r ≠ 0 → M1 a1)) (fun r b h => ⟨b, h⟩))) (va_cwS 1 ht (G_S q_1342 q_1343 q_56 q_1344) rfl rfl rfl rd_0 ⟨Nat.le_of_ble_eq_true rfl, Nat.le_of_ble_eq_true rfl⟩) ⟨PM_blind, PM_pre⟩ rfl rfl hl.1 rfl (lv_room (Nat.le_of_ble_eq_true rfl)) dX11_apart_2 ⟨show 0 + 0 ≤ 1400 by omega, show 0 + 0 ≤ 91500 by omega⟩) (fun r1 hr1 => ?_)
  refine lv_if_eq (tgt := 19) hx hb dX11_apart_5 (by decide) (fun c9 => ?_) (fun c9 => ?_)
  · refine lv_iconst (v := (0 : Int32)) hx hb dX11_apart_19 (by decide) ?_
    refine lv_iconst (v := (1 : Int32)) hx hb dX11_apart_20 (by decide) ?_
    refine M_calli hw (MA.up hw.2.2.1.1) (va_runV (own := "LeastreaderModel") (As := [.int (0 : Int32), .int (1 : Int32)]) (rest := []) ⟨hx, hb, hml, hown, ht⟩ (c_X11_isThrown μ H.size (0 : Int32) (1 : Int32) (ta_isThrown (Qm := fun r μ9 => FA μ μ9 ∧ (r = 0 → (0 : Int32) ≠ 0 ∧ (1 : Int32) ≠ 0)) hRI (fun r μ9 _ f h => ⟨f, h⟩))) (cwV 2 ht (G_V q_1348 q_1350 q_26 q_56 q_1351) rfl rfl rfl ⟨rfl, rd_2⟩ ⟨Nat.le_of_ble_eq_true rfl, Nat.le_of_ble_eq_true rfl⟩) ⟨MB.blind, M_recv hM hw, MB.pre hM hI hw va_P0 ne0⟩ rfl rfl hl.1 rfl (lv_room (Nat.le_of_ble_eq_true rfl)) dX11_apart_21 ⟨show 0 + 0 ≤ 1400 by omega, show 0 + 0 ≤ 91500 by omega⟩) (fun rT μT H locs hrT hw => ?_)
    obtain ⟨hF, hT⟩ := hrT
    refine lv_if_eq (tgt := 30) hx hb dX11_apart_24 (by decide) (fun c9 => ?_) (fun c9 => ?_)
    · exact absurd rfl (hT c9).1
    · obtain ⟨sa2, sa2b, sa2w, sa2h, sa2r, sa2O⟩ := hX _ (List.mem_of_getElem? (i := 0) rfl)
      refine va_ldcS hx hb hown sa2r dX11_apart_27 ?_
      exact hret H locs ls 29 _ _ _ _ _ hw hF (show 0 + 0 ≤ 1400 by omega) (show 0 + 0 ≤ 91500 by omega) dX11_apart_29
  · have m1 := hr1.2 c9
    refine lv_iload_n hx hb dX11_apart_8 rfl (lv_at hl 2 rfl) ?_
    refine P_calli (va_runS (own := "LeastreaderModel") (As := [.int a2]) (rest := [.ref (ad 0)]) ⟨hx, hb, hml, hown, ht⟩ (c_X11_isOne a2 (t_isOne (Q := fun r => isB r ∧ (r ≠ 0 → M1 a2)) (fun r b h => ⟨b, h⟩))) (va_cwS 1 ht (G_S q_1342 q_1343 q_56 q_1344) rfl rfl rfl rd_0 ⟨Nat.le_of_ble_eq_true rfl, Nat.le_of_ble_eq_true rfl⟩) ⟨PM_blind, PM_pre⟩ rfl rfl hl.1 rfl (lv_room (Nat.le_of_ble_eq_true rfl)) dX11_apart_9 ⟨show 0 + 0 ≤ 1400 by omega, show 0 + 0 ≤ 91500 by omega⟩) (fun r3 hr3 => ?_)
    refine lv_if_eq (tgt := 19) hx hb dX11_apart_12 (by decide) (fun c9 => ?_) (fun c9 => ?_)
    · refine lv_iconst (v := (0 : Int32)) hx hb dX11_apart_19 (by decide) ?_
      refine lv_iconst (v := (1 : Int32)) hx hb dX11_apart_20 (by decide) ?_
      refine M_calli hw (MA.up hw.2.2.1.1) (va_runV (own := "LeastreaderModel") (As := [.int (0 : Int32), .int (1 : Int32)]) (rest := []) ⟨hx, hb, hml, hown, ht⟩ (c_X11_isThrown μ H.size (0 : Int32) (1 : Int32) (ta_isThrown (Qm := fun r μ9 => FA μ μ9 ∧ (r = 0 → (0 : Int32) ≠ 0 ∧ (1 : Int32) ≠ 0)) hRI (fun r μ9 _ f h => ⟨f, h⟩))) (cwV 2 ht (G_V q_1348 q_1350 q_26 q_56 q_1351) rfl rfl rfl ⟨rfl, rd_2⟩ ⟨Nat.le_of_ble_eq_true rfl, Nat.le_of_ble_eq_true rfl⟩) ⟨MB.blind, M_recv hM hw, MB.pre hM hI hw va_P0 ne0⟩ rfl rfl hl.1 rfl (lv_room (Nat.le_of_ble_eq_true rfl)) dX11_apart_21 ⟨show 0 + 0 ≤ 1400 by omega, show 0 + 0 ≤ 91500 by omega⟩) (fun rT μT H locs hrT hw => ?_)
      obtain ⟨hF, hT⟩ := hrT
      refine lv_if_eq (tgt := 30) hx hb dX11_apart_24 (by decide) (fun c9 => ?_) (fun c9 => ?_)
      · exact absurd rfl (hT c9).1
      · obtain ⟨sa4, sa4b, sa4w, sa4h, sa4r, sa4O⟩ := hX _ (List.mem_of_getElem? (i := 0) rfl)
        refine va_ldcS hx hb hown sa4r dX11_apart_27 ?_
        exact hret H locs ls 29 _ _ _ _ _ hw hF (show 0 + 0 ≤ 1400 by omega) (show 0 + 0 ≤ 91500 by omega) dX11_apart_29
    · have m2 := hr3.2 c9
      refine lv_iconst (v := (1 : Int32)) hx hb dX11_apart_15 (by decide) ?_
      refine lv_goto (tgt := 20) hx hb dX11_apart_16 (by decide) ?_
      refine lv_iconst (v := (1 : Int32)) hx hb dX11_apart_20 (by decide) ?_
      refine M_calli hw (MA.up hw.2.2.1.1) (va_runV (own := "LeastreaderModel") (As := [.int (1 : Int32), .int (1 : Int32)]) (rest := []) ⟨hx, hb, hml, hown, ht⟩ (c_X11_isThrown μ H.size (1 : Int32) (1 : Int32) (ta_isThrown (Qm := fun r μ9 => FA μ μ9 ∧ (r = 0 → (1 : Int32) ≠ 0 ∧ (1 : Int32) ≠ 0)) hRI (fun r μ9 _ f h => ⟨f, h⟩))) (cwV 2 ht (G_V q_1348 q_1350 q_26 q_56 q_1351) rfl rfl rfl ⟨rfl, rd_2⟩ ⟨Nat.le_of_ble_eq_true rfl, Nat.le_of_ble_eq_true rfl⟩) ⟨MB.blind, M_recv hM hw, MB.pre hM hI hw va_P0 ne0⟩ rfl rfl hl.1 rfl (lv_room (Nat.le_of_ble_eq_true rfl)) dX11_apart_21 ⟨show 0 + 0 ≤ 1400 by omega, show 0 + 0 ≤ 91500 by omega⟩) (fun rT μT H locs hrT hw => ?_)
      obtain ⟨hF, hT⟩ := hrT
      refine lv_if_eq (tgt := 30) hx hb dX11_apart_24 (by decide) (fun c9 => ?_) (fun c9 => ?_)
      · refine lv_aload_n hx hb dX11_apart_30 rfl (lv_at hl 0 rfl) ?_
        refine lv_iload_n hx hb dX11_apart_31 rfl (lv_at hl 1 rfl) ?_
        refine lv_iload_n hx hb dX11_apart_32 rfl (lv_at hl 2 rfl) ?_
        refine M_callA hw (MA.up hw.2.2.1.1) (va_runV (own := "LeastreaderModel") (As := [.int a1, .int a2]) (rest := []) ⟨hx, hb, hml, hown, ht⟩ (c_X11_pairsOf μT H.size a1 a2 (t_po m1 m2 hF.1)) (cwV 2 ht (G_V q_1563 q_1565 q_43 q_56 q_1566) rfl rfl rfl ⟨rfl, rd_11⟩ ⟨Nat.le_of_ble_eq_true rfl, Nat.le_of_ble_eq_true rfl⟩) ⟨MB.blind, M_recv hM hw, MB.pre hM hI hw va_P0 ne0⟩ rfl rfl hl.1 rfl (lv_room (Nat.le_of_ble_eq_true rfl)) dX11_apart_33 ⟨show 0 + 0 + 9 ≤ 1400 by omega, show 0 + 0 + 1222 ≤ 91500 by omega⟩) (fun μA H locs h hw => ?_) (fun qa nn ff μA H locs hqa h hw => ?_)
        · obtain ⟨e7, h⟩ := h
          rw [e7] at hw
          refine lv_astore_nN (lv' := [(3, .null), (0, .ref (ad 0)), (1, .int a1), (2, .int a2)]) hx hb dX11_apart_36 rfl hl (by decide) rfl (fun ls hl => ?_)
          refine lv_aload_n hx hb dX11_apart_37 rfl (lv_at hl 1 rfl) ?_
          refine lv_aload_nN hx hb dX11_apart_38 rfl (lv_at hl 0 rfl) ?_
          refine lv_iconst (v := (2 : Int32)) hx hb dX11_apart_39 (by decide) ?_
          refine M_calli hw (MA.up hw.2.2.1.1) (va_runV (own := "LeastreaderModel") (As := [.null, .int (2 : Int32)]) (rest := []) ⟨hx, hb, hml, hown, ht⟩ (c_X11_isCrowded_n μT H.size (2 : Int32) (ta_isCrowded_n (Qm := fun r μ9 => r = 1 ∧ FA μT μ9) hF.1 (fun μ9 f => ⟨rfl, f⟩))) (cwV 2 ht (G_V q_1520 q_1522 q_42 q_56 q_1523) rfl rfl rfl ⟨rfl, rd_4⟩ ⟨Nat.le_of_ble_eq_true rfl, Nat.le_of_ble_eq_true rfl⟩) ⟨MB.blind, M_recv hM hw, MB.pre hM hI hw va_P0 ne0⟩ rfl rfl hl.1 rfl (lv_room (Nat.le_of_ble_eq_true rfl)) dX11_apart_40 ⟨show 0 + 0 + 9 + 0 ≤ 1400 by omega, show 0 + 0 + 1222 + 0 ≤ 91500 by omega⟩) (fun rC μC H locs hrC hw => ?_)
          obtain ⟨hC0, hFC⟩ := hrC
          have hF2 := hF.trans hFC
          refine lv_if_ne (tgt := 56) hx hb dX11_apart_43 (by decide) (fun c9 => ?_) (fun c9 => absurd c9 (by rw [hC0]; decide))
          obtain ⟨sa5, sa5b, sa5w, sa5h, sa5r, sa5O⟩ := hX _ (List.mem_of_getElem? (i := 0) rfl)
          refine va_ldcS hx hb hown sa5r dX11_apart_56 ?_
          exact hret H locs ls 58 _ _ _ _ _ hw hF2 (show 0 + 0 + 9 + 0 ≤ 1400 by omega) (show 0 + 0 + 1222 + 0 ≤ 91500 by omega) dX11_apart_58
        · obtain ⟨e7, h⟩ := h
          rw [e7] at hw
          obtain ⟨e604, hMP, hap⟩ := h _ _ rfl
          subst e604
          have hw : MW D (MR ad cI μT) [(qa, .inl (cI, 604, .inl ff))] (MA ad s.heap.size) s H locs := hw
          refine lv_astore_n (lv' := [(3, .ref qa), (0, .ref (ad 0)), (1, .int a1), (2, .int a2)]) hx hb dX11_apart_36 rfl hl (by decide) rfl (fun ls hl => ?_)
          refine lv_aload_n hx hb dX11_apart_37 rfl (lv_at hl 1 rfl) ?_
          refine lv_aload_n hx hb dX11_apart_38 rfl (lv_at hl 0 rfl) ?_
          refine lv_iconst (v := (2 : Int32)) hx hb dX11_apart_39 (by decide) ?_
          refine M_calli hw (MA.up hw.2.2.1.1) (va_runV (own := "LeastreaderModel") (As := [.ref qa, .int (2 : Int32)]) (rest := []) ⟨hx, hb, hml, hown, ht⟩ (c_X11_isCrowded qa μT H.size 604 ff (2 : Int32) (ta_isCrowded' (Qm := fun r μ9 => r = 0 ∧ FA μT μ9 ∧ (∀ k : Nat, 1 ≤ k → μ9 k = μT k)) hF.1 (fun μ9 f e => ⟨rfl, f, e⟩))) (cwV 2 ht (G_V q_1520 q_1522 q_42 q_56 q_1523) rfl rfl rfl ⟨rfl, rd_4⟩ ⟨Nat.le_of_ble_eq_true rfl, Nat.le_of_ble_eq_true rfl⟩) ⟨MB.blind, M_recv hM hw, MB.pre hM hI hw (va_Pc2 (hw.n (j := 0) rfl) va_P0) (neC (hw.ne (j := 0) rfl) ne0)⟩ rfl rfl hl.1 rfl (lv_room (Nat.le_of_ble_eq_true rfl)) dX11_apart_40 ⟨show 0 + 0 + 9 + 0 ≤ 1400 by omega, show 0 + 0 + 1222 + 0 ≤ 91500 by omega⟩) (fun rC μC H locs hrC hw => ?_)
          obtain ⟨hC0, hFC, hEC⟩ := hrC
          have hF2 := hF.trans hFC
          refine lv_if_ne (tgt := 56) hx hb dX11_apart_43 (by decide) (fun c9 => absurd c9 (by rw [hC0]; decide)) (fun c9 => ?_)
          refine lv_aload_n hx hb dX11_apart_46 rfl (lv_at hl 1 rfl) ?_
          refine lv_iload_n hx hb dX11_apart_47 rfl (lv_at hl 2 rfl) ?_
          refine lv_iload_n hx hb dX11_apart_48 rfl (lv_at hl 3 rfl) ?_
          refine lv_aload_n hx hb dX11_apart_49 rfl (lv_at hl 0 rfl) ?_
          refine M_calli hw (MA.up hw.2.2.1.1) (va_runV (own := "LeastreaderModel") (As := [.int a1, .int a2, .ref qa]) (rest := []) ⟨hx, hb, hml, hown, ht⟩ (c_X11_isApart qa μC H.size a1 a2 604 ff (Q := isB) (hap μC hEC isB (fun r h => h))) (cwV 3 ht (G_V q_1567 q_1569 q_44 q_56 q_1570) rfl rfl rfl ⟨rfl, rd_12⟩ ⟨Nat.le_of_ble_eq_true rfl, Nat.le_of_ble_eq_true rfl⟩) ⟨MB.blind, M_recv hM hw, MB.pre hM hI hw (va_Pc2 (hw.n (j := 0) rfl) va_P0) (neC (hw.ne (j := 0) rfl) ne0)⟩ rfl rfl hl.1 rfl (lv_room (Nat.le_of_ble_eq_true rfl)) dX11_apart_50 ⟨show 0 + 0 + 9 + 0 + 8 ≤ 1400 by omega, show 0 + 0 + 1222 + 0 + 618 ≤ 91500 by omega⟩) (fun rA μB H locs hrA hw => ?_)
          obtain ⟨eA, bA⟩ := hrA
          rw [eA] at hw
          refine lv_if_ne (tgt := 59) hx hb dX11_apart_53 (by decide) (fun c9 => ?_) (fun c9 => ?_)
          · obtain ⟨z, hz0, hz1, hz2, hMG⟩ := hMP
            have L70 : ∀ (k : Nat) (at_ : Int32) (sq sv9 wn j cv sv : Nat) (fs : Nat → Int32) (H : Heap) (locs : List Loc) (ls : Array Slot), j < k → at_.toInt = (j : Int) → j < z → wn + j ≤ 201 → cv + 6 * j ≤ 1300 → sv + 445 * j ≤ 91000 → FT fs → MW D (MR ad cI μC) [(qa, .inl (cI, 604, .inl ff)), (sq, .inr (12, [.ref sv9, .int 0, .int 0, .int 0])), (sv9, .inl (cB, wn, .inl fs))] (MA ad s.heap.size) s H locs → lv_has ls 6 [(3, .ref qa), (4, .ref sq), (5, .int at_)] → W p l e (RA 6 1400 91500) s mI #[.ref (ad 0), .int a1, .int a2] below meth c H locs cv sv Z (F0 mI 70 ls []) := by
              intro k
              induction k with
              | zero => intro at_ sq sv9 wn j cv sv fs H locs ls hk; exact absurd hk (Nat.not_lt_zero _)
              | succ k ih =>
                intro at_ sq sv9 wn j cv sv fs H locs ls hk hat hjz hwn hcv hsv hfs hw hl
                refine lv_iload hx hb dX11_apart_70 (lv_at hl 2 rfl) ?_
                refine lv_if_le (tgt := 120) hx hb dX11_apart_72 (by decide) (fun c9 => ?_) (fun c9 => ?_)
                · refine lv_aload hx hb dX11_apart_120 (lv_at hl 1 rfl) ?_
                  exact hret H locs ls 122 _ _ _ _ _ hw hF2 (show cv ≤ 1400 by omega) (show sv ≤ 91500 by omega) dX11_apart_122
                · have hj1 : 1 ≤ j := by rw [l_le, ii_0] at c9; omega
                  obtain ⟨⟨hM1, hM2⟩, hM3⟩ := hMG j hj1 hjz
                  have i2 := i3 (c := (2 : Int32)) hat (by omega) (by decide) (by decide)
                  have i33 := i3 (c := (3 : Int32)) hat (by omega) (by decide) (by decide)
                  rw [show (2 : Int32).toInt = 2 from rfl] at i2
                  rw [show (3 : Int32).toInt = 3 from rfl] at i33
                  have i2c : ((3 : Int32) * at_ + (2 : Int32)).toNatClampNeg = 3 * j + 2 := by rw [ii_cl, i2]; omega
                  have i3c : ((3 : Int32) * at_ + (3 : Int32)).toNatClampNeg = 3 * j + 3 := by rw [ii_cl, i33]; omega
                  obtain ⟨g1, g2, g3, g4, g5, g6, g7⟩ := gsb (w := wn)
                  refine n_newO (fs := [.null, .int 0, .int 0, .int 0]) hx hb ht in_11 tyJ4 tyJ4_ok hown (ht _ q_1533) (ht _ q_893) (ht _ q_67) hK hw cl_11 (fun j hj => by rcases (show j = 0 ∨ j = 1 ∨ j = 2 ∨ j = 3 by omega) with rfl | rfl | rfl | rfl <;> rfl) (show cv + 1 ≤ 1400 by omega) (show sv + 4 ≤ 91500 by omega) dX11_apart_75 (fun q6 H hw => ?_)
                  have hw : MW D (MR ad cI μC) [(qa, .inl (cI, 604, .inl ff)), (sq, .inr (12, [.ref sv9, .int 0, .int 0, .int 0])), (sv9, .inl (cB, wn, .inl fs)), (q6, .inr (11, [.null, .int 0, .int 0, .int 0]))] (MA ad s.heap.size) s H locs := hw
                  refine lv_dup hx hb dX11_apart_78 rfl ?_
                  refine J_callv (N0 := [(qa, .inl (cI, 604, .inl ff)), (sq, .inr (12, [.ref sv9, .int 0, .int 0, .int 0])), (sv9, .inl (cB, wn, .inl fs))]) (ws := [(q6, .inr (11, [.null, .int 0, .int 0, .int 0]))]) hw (va_runI (own := "LeastreaderModel") (As := []) (rest := [.ref q6]) ⟨hx, hb, hml, hown, ht⟩ (c_J4_init_da8c8 q6 H.size) (cwI 0 ht (G_ws q_896) rfl rfl rfl (ht _ q_67) (ht _ q_1534) (ht _ q_895) rfl rd_5 ⟨Nat.le_of_ble_eq_true rfl, Nat.le_of_ble_eq_true rfl⟩) ⟨JB.blind, JB.pre (N0 := [(qa, .inl (cI, 604, .inl ff)), (sq, .inr (12, [.ref sv9, .int 0, .int 0, .int 0])), (sv9, .inl (cB, wn, .inl fs))]) (ws := [(q6, .inr (11, [.null, .int 0, .int 0, .int 0]))]) hK hC hZ hw SL0⟩ rfl rfl hl.1 rfl (lv_room (Nat.le_of_ble_eq_true rfl)) dX11_apart_79 ⟨show cv + 1 + 1 ≤ 1400 by omega, show sv + 4 + 16 ≤ 91500 by omega⟩) (fun u7 H locs hp8 hw => ?_)
                  have hw : MW D (MR ad cI μC) [(qa, .inl (cI, 604, .inl ff)), (sq, .inr (12, [.ref sv9, .int 0, .int 0, .int 0])), (sv9, .inl (cB, wn, .inl fs)), (q6, .inr (11, [.ref u7, .int 0, .int 0, .int (nI 0)])), (u7, .inl (cB, 16, .inl (fun _ => 0)))] (MA ad s.heap.size) s H locs := hw
                  refine lv_bipush (v := (97 : Int32)) hx hb dX11_apart_82 (by decide) ?_
                  refine lv_aload_n hx hb dX11_apart_84 rfl (lv_at hl 0 rfl) ?_
                  refine lv_iconst (v := (3 : Int32)) hx hb dX11_apart_85 (by decide) ?_
                  refine lv_iload hx hb dX11_apart_86 (lv_at hl 2 rfl) ?_
                  refine lv_imul hx hb dX11_apart_88 ?_
                  refine lv_iconst (v := (3 : Int32)) hx hb dX11_apart_89 (by decide) ?_
                  refine lv_iadd hx hb dX11_apart_90 ?_
                  refine n_iald hx hb hM (hw.n (j := 0) rfl) (i := (((3 : Int32) * at_) + (3 : Int32))) (vin (by omega)) dX11_apart_91 ?_
                  refine lv_topi (fun y1 ey1 => ?_)
                  rw [i3c] at ey1
                  have hy1 : rng y1 := by rw [ey1]; exact hM3
                  refine lv_iadd hx hb dX11_apart_92 ?_
                  refine lv_i2c hx hb dX11_apart_93 rfl ?_
                  refine J_callr (N0 := [(qa, .inl (cI, 604, .inl ff)), (sq, .inr (12, [.ref sv9, .int 0, .int 0, .int 0])), (sv9, .inl (cB, wn, .inl fs))]) (ws := [(q6, .inr (11, [.ref u7, .int 0, .int 0, .int (nI 0)])), (u7, .inl (cB, 16, .inl (fun _ => 0)))]) hw (va_runV (own := "LeastreaderModel") (As := [.int ((((97 : Int32) + y1).toUInt32 % 65536).toInt32)]) (rest := []) ⟨hx, hb, hml, hown, ht⟩ (c_J4_append_cf468 q6 u7 16 0 (fun _ => 0) ((((97 : Int32) + y1).toUInt32 % 65536).toInt32) H.size (by omega) (by omega) (by omega) FT0 (ch_ok hy1)) (cwV 1 ht (G_V q_1538 q_924 q_925 q_67 q_926) rfl rfl rfl ⟨rfl, rd_9⟩ ⟨Nat.le_of_ble_eq_true rfl, Nat.le_of_ble_eq_true rfl⟩) ⟨JB.blind, J_recv hK hw (j := 3) rfl cl_11, JB.pre (N0 := [(qa, .inl (cI, 604, .inl ff)), (sq, .inr (12, [.ref sv9, .int 0, .int 0, .int 0])), (sv9, .inl (cB, wn, .inl fs))]) (ws := [(q6, .inr (11, [.ref u7, .int 0, .int 0, .int (nI 0)])), (u7, .inl (cB, 16, .inl (fun _ => 0)))]) hK hC hZ hw SL0⟩ rfl rfl hl.1 rfl (lv_room (Nat.le_of_ble_eq_true rfl)) dX11_apart_94 ⟨show cv + 1 + 1 + (gr (0 + 1) 16) ≤ 1400 by omega, show sv + 4 + 16 + (gs (0 + 1) 16) ≤ 91500 by omega⟩) (fun u12 H locs hp13 hw => ?_)
                  obtain ⟨v10, f11⟩ := u12
                  have hw : MW D (MR ad cI μC) [(qa, .inl (cI, 604, .inl ff)), (sq, .inr (12, [.ref sv9, .int 0, .int 0, .int 0])), (sv9, .inl (cB, wn, .inl fs)), (q6, .inr (11, [.ref v10, .int 0, .int 0, .int (nI (0 + 1))])), (v10, .inl (cB, (cap (0 + 1) 16), .inl f11))] (MA ad s.heap.size) s H locs := hw
                  refine lv_aload hx hb dX11_apart_97 (lv_at hl 1 rfl) ?_
                  refine J_callr (N0 := [(qa, .inl (cI, 604, .inl ff)), (sq, .inr (12, [.ref sv9, .int 0, .int 0, .int 0])), (sv9, .inl (cB, wn, .inl fs))]) (ws := [(q6, .inr (11, [.ref v10, .int 0, .int 0, .int (nI (0 + 1))])), (v10, .inl (cB, (cap (0 + 1) 16), .inl f11))]) hw (va_runV (own := "LeastreaderModel") (As := [.ref sq]) (rest := []) ⟨hx, hb, hml, hown, ht⟩ (c_J4_append_15ec4 sq sv9 wn q6 v10 (cap (0 + 1) 16) (0 + 1) f11 H.size (by omega) (by omega) (by omega) (by omega) hp13) (cwV 1 ht (G_V q_1536 q_1095 q_1096 q_67 q_1097) rfl rfl rfl ⟨rfl, rd_7⟩ ⟨Nat.le_of_ble_eq_true rfl, Nat.le_of_ble_eq_true rfl⟩) ⟨JB.blind, J_recv hK hw (j := 3) rfl cl_11, JB.pre (N0 := [(qa, .inl (cI, 604, .inl ff)), (sq, .inr (12, [.ref sv9, .int 0, .int 0, .int 0])), (sv9, .inl (cB, wn, .inl fs))]) (ws := [(q6, .inr (11, [.ref v10, .int 0, .int 0, .int (nI (0 + 1))])), (v10, .inl (cB, (cap (0 + 1) 16), .inl f11))]) hK hC hZ hw (SL1 (SO.ofN (N0 := [(qa, .inl (cI, 604, .inl ff)), (sq, .inr (12, [.ref sv9, .int 0, .int 0, .int 0])), (sv9, .inl (cB, wn, .inl fs))]) (ws := [(q6, .inr (11, [.ref v10, .int 0, .int 0, .int (nI (0 + 1))])), (v10, .inl (cB, (cap (0 + 1) 16), .inl f11))]) ht hK hw (j1 := 1) (j2 := 2) rfl rfl hfs (by omega)))⟩ rfl rfl hl.1 rfl (lv_room (Nat.le_of_ble_eq_true rfl)) dX11_apart_99 ⟨show cv + 1 + 1 + (gr (0 + 1) 16) + (gr (0 + 1 + wn) (cap (0 + 1) 16)) ≤ 1400 by omega, show sv + 4 + 16 + (gs (0 + 1) 16) + (gs (0 + 1 + wn) (cap (0 + 1) 16)) ≤ 91500 by omega⟩) (fun u17 H locs hp18 hw => ?_)
                  obtain ⟨v15, f16⟩ := u17
                  have hw : MW D (MR ad cI μC) [(qa, .inl (cI, 604, .inl ff)), (sq, .inr (12, [.ref sv9, .int 0, .int 0, .int 0])), (sv9, .inl (cB, wn, .inl fs)), (q6, .inr (11, [.ref v15, .int 0, .int 0, .int (nI (0 + 1 + wn))])), (v15, .inl (cB, (cap (0 + 1 + wn) (cap (0 + 1) 16)), .inl f16))] (MA ad s.heap.size) s H locs := hw
                  refine J_callr (N0 := [(qa, .inl (cI, 604, .inl ff)), (sq, .inr (12, [.ref sv9, .int 0, .int 0, .int 0])), (sv9, .inl (cB, wn, .inl fs))]) (ws := [(q6, .inr (11, [.ref v15, .int 0, .int 0, .int (nI (0 + 1 + wn))])), (v15, .inl (cB, (cap (0 + 1 + wn) (cap (0 + 1) 16)), .inl f16))]) hw (va_runV (own := "LeastreaderModel") (As := []) (rest := []) ⟨hx, hb, hml, hown, ht⟩ (c_J4_toString_0e30d q6 v15 (cap (0 + 1 + wn) (cap (0 + 1) 16)) (0 + 1 + wn) f16 H.size (by omega) (by omega) hp18) (cwV 0 ht (G_V q_1540 q_1054 q_1055 q_67 q_1056) rfl rfl rfl ⟨rfl, rd_6⟩ ⟨Nat.le_of_ble_eq_true rfl, Nat.le_of_ble_eq_true rfl⟩) ⟨JB.blind, J_recv hK hw (j := 3) rfl cl_11, JB.pre (N0 := [(qa, .inl (cI, 604, .inl ff)), (sq, .inr (12, [.ref sv9, .int 0, .int 0, .int 0])), (sv9, .inl (cB, wn, .inl fs))]) (ws := [(q6, .inr (11, [.ref v15, .int 0, .int 0, .int (nI (0 + 1 + wn))])), (v15, .inl (cB, (cap (0 + 1 + wn) (cap (0 + 1) 16)), .inl f16))]) hK hC hZ hw SL0⟩ rfl rfl hl.1 rfl (lv_room (Nat.le_of_ble_eq_true rfl)) dX11_apart_102 ⟨show cv + 1 + 1 + (gr (0 + 1) 16) + (gr (0 + 1 + wn) (cap (0 + 1) 16)) + 2 ≤ 1400 by omega, show sv + 4 + 16 + (gs (0 + 1) 16) + (gs (0 + 1 + wn) (cap (0 + 1) 16)) + ((0 + 1 + wn) + 4) ≤ 91500 by omega⟩) (fun u20 H locs hp21 hw => ?_)
                  have hw : MW D (MR ad cI μC) [(qa, .inl (cI, 604, .inl ff)), (sq, .inr (12, [.ref sv9, .int 0, .int 0, .int 0])), (sv9, .inl (cB, wn, .inl fs)), (u20.1, .inr (12, [.ref u20.2.1, .int 0, .int 0, .int 0])), (q6, .inr (11, [.ref v15, .int 0, .int 0, .int (nI (0 + 1 + wn))])), (v15, .inl (cB, (cap (0 + 1 + wn) (cap (0 + 1) 16)), .inl f16)), (u20.2.1, .inl (cB, (0 + 1 + wn), .inl u20.2.2))] (MA ad s.heap.size) s H locs := hw
                  refine lv_astore (lv' := [(4, .ref u20.1), (3, .ref qa), (5, .int at_)]) hx hb dX11_apart_105 hl (by decide) rfl (fun ls hl => ?_)
                  refine lv_aload_n hx hb dX11_apart_107 rfl (lv_at hl 1 rfl) ?_
                  refine lv_iconst (v := (3 : Int32)) hx hb dX11_apart_108 (by decide) ?_
                  refine lv_iload hx hb dX11_apart_109 (lv_at hl 2 rfl) ?_
                  refine lv_imul hx hb dX11_apart_111 ?_
                  refine lv_iconst (v := (2 : Int32)) hx hb dX11_apart_112 (by decide) ?_
                  refine lv_iadd hx hb dX11_apart_113 ?_
                  refine n_iald hx hb hM (hw.n (j := 0) rfl) (i := (((3 : Int32) * at_) + (2 : Int32))) (vin (by omega)) dX11_apart_114 ?_
                  refine lv_topi (fun y2 ey2 => ?_)
                  rw [i2c] at ey2
                  refine lv_istore (lv' := [(5, .int y2), (4, .ref u20.1), (3, .ref qa)]) hx hb dX11_apart_115 hl (by decide) rfl (fun ls hl => ?_)
                  refine lv_goto (tgt := 70) hx hb dX11_apart_117 (by decide) ?_
                  have hw := hw.sub (N' := [(qa, .inl (cI, 604, .inl ff)), (u20.1, .inr (12, [.ref u20.2.1, .int 0, .int 0, .int 0])), (u20.2.1, .inl (cB, (0 + 1 + wn), .inl u20.2.2))]) [0, 3, 6] (by decide) rfl
                  exact ih y2 u20.1 u20.2.1 (0 + 1 + wn) (ff (3 * j + 2)).toInt.toNat (cv + 1 + 1 + (gr (0 + 1) 16) + (gr (0 + 1 + wn) (cap (0 + 1) 16)) + 2) (sv + 4 + 16 + (gs (0 + 1) 16) + (gs (0 + 1 + wn) (cap (0 + 1) 16)) + ((0 + 1 + wn) + 4)) u20.2.2 H locs ls (by omega) (by rw [ey2]; omega) (by omega) (by omega) (by omega) (by omega) hp21 hw (lv_sub hl [2, 1, 0] rfl)
            obtain ⟨sa23, sa23b, sa23w, sa23h, sa23r, sa23O⟩ := hX _ (List.mem_of_getElem? (i := 3) rfl)
            refine va_ldcS hx hb hown sa23r dX11_apart_59 ?_
            refine lv_astore (lv' := [(4, .ref sa23), (3, .ref qa), (0, .ref (ad 0)), (1, .int a1), (2, .int a2)]) hx hb dX11_apart_61 hl (by decide) rfl (fun ls hl => ?_)
            refine lv_aload_n hx hb dX11_apart_63 rfl (lv_at hl 1 rfl) ?_
            refine lv_iconst (v := (0 : Int32)) hx hb dX11_apart_64 (by decide) ?_
            refine n_iald hx hb hM (hw.n (j := 0) rfl) (i := (0 : Int32)) (vin (by rw [ii_0]; omega)) dX11_apart_65 ?_
            refine lv_topi (fun y0 ey0 => ?_)
            refine lv_iconst (v := (1 : Int32)) hx hb dX11_apart_66 (by decide) ?_
            refine lv_isub hx hb dX11_apart_67 ?_
            refine lv_topi (fun at_ eat => ?_)
            have hy0 : y0.toInt = z := by rw [ey0]; exact hz0
            obtain ⟨j, hj⟩ : ∃ j : Nat, j + 1 = z := ⟨z - 1, by omega⟩
            have h11 : (1 : Int32).toInt = 1 := rfl
            have hat : at_.toInt = (j : Int) := by rw [eat]; exact (ii_s hy0 h11 (by omega) (by omega)).trans (by omega)
            have hjz : j < z := by omega
            refine lv_istore (lv' := [(5, .int at_), (4, .ref sa23), (3, .ref qa), (0, .ref (ad 0)), (1, .int a1), (2, .int a2)]) hx hb dX11_apart_68 hl (by decide) rfl (fun ls hl => ?_)
            refine lv_iload hx hb dX11_apart_70 (lv_at hl 0 rfl) ?_
            refine lv_if_le (tgt := 120) hx hb dX11_apart_72 (by decide) (fun c9 => ?_) (fun c9 => ?_)
            · refine lv_aload hx hb dX11_apart_120 (lv_at hl 1 rfl) ?_
              exact hret H locs ls 122 _ _ _ _ _ hw hF2 (show 0 + 0 + 9 + 0 + 8 ≤ 1400 by omega) (show 0 + 0 + 1222 + 0 + 618 ≤ 91500 by omega) dX11_apart_122
            · have hO := sa23O
              have hj1 : 1 ≤ j := by rw [l_le, ii_0] at c9; omega
              obtain ⟨⟨hM1, hM2⟩, hM3⟩ := hMG j hj1 hjz
              have i2 := i3 (c := (2 : Int32)) hat (by omega) (by decide) (by decide)
              have i33 := i3 (c := (3 : Int32)) hat (by omega) (by decide) (by decide)
              rw [show (2 : Int32).toInt = 2 from rfl] at i2
              rw [show (3 : Int32).toInt = 3 from rfl] at i33
              have i2c : ((3 : Int32) * at_ + (2 : Int32)).toNatClampNeg = 3 * j + 2 := by rw [ii_cl, i2]; omega
              have i3c : ((3 : Int32) * at_ + (3 : Int32)).toNatClampNeg = 3 * j + 3 := by rw [ii_cl, i33]; omega
              obtain ⟨g1, g2, g3, g4, g5, g6, g7⟩ := gsb (w := sa23w)
              refine n_newO (fs := [.null, .int 0, .int 0, .int 0]) hx hb ht in_11 tyJ4 tyJ4_ok hown (ht _ q_1533) (ht _ q_893) (ht _ q_67) hK hw cl_11 (fun j hj => by rcases (show j = 0 ∨ j = 1 ∨ j = 2 ∨ j = 3 by omega) with rfl | rfl | rfl | rfl <;> rfl) (show 0 + 0 + 9 + 0 + 8 + 1 ≤ 1400 by omega) (show 0 + 0 + 1222 + 0 + 618 + 4 ≤ 91500 by omega) dX11_apart_75 (fun q24 H hw => ?_)
              have hw : MW D (MR ad cI μC) [(qa, .inl (cI, 604, .inl ff)), (q24, .inr (11, [.null, .int 0, .int 0, .int 0]))] (MA ad s.heap.size) s H locs := hw
              refine lv_dup hx hb dX11_apart_78 rfl ?_
              refine J_callv (N0 := [(qa, .inl (cI, 604, .inl ff))]) (ws := [(q24, .inr (11, [.null, .int 0, .int 0, .int 0]))]) hw (va_runI (own := "LeastreaderModel") (As := []) (rest := [.ref q24]) ⟨hx, hb, hml, hown, ht⟩ (c_J4_init_da8c8 q24 H.size) (cwI 0 ht (G_ws q_896) rfl rfl rfl (ht _ q_67) (ht _ q_1534) (ht _ q_895) rfl rd_5 ⟨Nat.le_of_ble_eq_true rfl, Nat.le_of_ble_eq_true rfl⟩) ⟨JB.blind, JB.pre (N0 := [(qa, .inl (cI, 604, .inl ff))]) (ws := [(q24, .inr (11, [.null, .int 0, .int 0, .int 0]))]) hK hC hZ hw SL0⟩ rfl rfl hl.1 rfl (lv_room (Nat.le_of_ble_eq_true rfl)) dX11_apart_79 ⟨show 0 + 0 + 9 + 0 + 8 + 1 + 1 ≤ 1400 by omega, show 0 + 0 + 1222 + 0 + 618 + 4 + 16 ≤ 91500 by omega⟩) (fun u25 H locs hp26 hw => ?_)
              have hw : MW D (MR ad cI μC) [(qa, .inl (cI, 604, .inl ff)), (q24, .inr (11, [.ref u25, .int 0, .int 0, .int (nI 0)])), (u25, .inl (cB, 16, .inl (fun _ => 0)))] (MA ad s.heap.size) s H locs := hw
              refine lv_bipush (v := (97 : Int32)) hx hb dX11_apart_82 (by decide) ?_
              refine lv_aload_n hx hb dX11_apart_84 rfl (lv_at hl 2 rfl) ?_
              refine lv_iconst (v := (3 : Int32)) hx hb dX11_apart_85 (by decide) ?_
              refine lv_iload hx hb dX11_apart_86 (lv_at hl 0 rfl) ?_
              refine lv_imul hx hb dX11_apart_88 ?_
              refine lv_iconst (v := (3 : Int32)) hx hb dX11_apart_89 (by decide) ?_
              refine lv_iadd hx hb dX11_apart_90 ?_
              refine n_iald hx hb hM (hw.n (j := 0) rfl) (i := (((3 : Int32) * at_) + (3 : Int32))) (vin (by omega)) dX11_apart_91 ?_
              refine lv_topi (fun y1 ey1 => ?_)
              rw [i3c] at ey1
              have hy1 : rng y1 := by rw [ey1]; exact hM3
              refine lv_iadd hx hb dX11_apart_92 ?_
              refine lv_i2c hx hb dX11_apart_93 rfl ?_
              refine J_callr (N0 := [(qa, .inl (cI, 604, .inl ff))]) (ws := [(q24, .inr (11, [.ref u25, .int 0, .int 0, .int (nI 0)])), (u25, .inl (cB, 16, .inl (fun _ => 0)))]) hw (va_runV (own := "LeastreaderModel") (As := [.int ((((97 : Int32) + y1).toUInt32 % 65536).toInt32)]) (rest := []) ⟨hx, hb, hml, hown, ht⟩ (c_J4_append_cf468 q24 u25 16 0 (fun _ => 0) ((((97 : Int32) + y1).toUInt32 % 65536).toInt32) H.size (by omega) (by omega) (by omega) FT0 (ch_ok hy1)) (cwV 1 ht (G_V q_1538 q_924 q_925 q_67 q_926) rfl rfl rfl ⟨rfl, rd_9⟩ ⟨Nat.le_of_ble_eq_true rfl, Nat.le_of_ble_eq_true rfl⟩) ⟨JB.blind, J_recv hK hw (j := 1) rfl cl_11, JB.pre (N0 := [(qa, .inl (cI, 604, .inl ff))]) (ws := [(q24, .inr (11, [.ref u25, .int 0, .int 0, .int (nI 0)])), (u25, .inl (cB, 16, .inl (fun _ => 0)))]) hK hC hZ hw SL0⟩ rfl rfl hl.1 rfl (lv_room (Nat.le_of_ble_eq_true rfl)) dX11_apart_94 ⟨show 0 + 0 + 9 + 0 + 8 + 1 + 1 + (gr (0 + 1) 16) ≤ 1400 by omega, show 0 + 0 + 1222 + 0 + 618 + 4 + 16 + (gs (0 + 1) 16) ≤ 91500 by omega⟩) (fun u30 H locs hp31 hw => ?_)
              obtain ⟨v28, f29⟩ := u30
              have hw : MW D (MR ad cI μC) [(qa, .inl (cI, 604, .inl ff)), (q24, .inr (11, [.ref v28, .int 0, .int 0, .int (nI (0 + 1))])), (v28, .inl (cB, (cap (0 + 1) 16), .inl f29))] (MA ad s.heap.size) s H locs := hw
              refine lv_aload hx hb dX11_apart_97 (lv_at hl 1 rfl) ?_
              refine J_callr (N0 := [(qa, .inl (cI, 604, .inl ff))]) (ws := [(q24, .inr (11, [.ref v28, .int 0, .int 0, .int (nI (0 + 1))])), (v28, .inl (cB, (cap (0 + 1) 16), .inl f29))]) hw (va_runV (own := "LeastreaderModel") (As := [.ref sa23]) (rest := []) ⟨hx, hb, hml, hown, ht⟩ (c_J4_append_15ec4 sa23 sa23b sa23w q24 v28 (cap (0 + 1) 16) (0 + 1) f29 H.size (by omega) (by omega) (by omega) (by omega) hp31) (cwV 1 ht (G_V q_1536 q_1095 q_1096 q_67 q_1097) rfl rfl rfl ⟨rfl, rd_7⟩ ⟨Nat.le_of_ble_eq_true rfl, Nat.le_of_ble_eq_true rfl⟩) ⟨JB.blind, J_recv hK hw (j := 1) rfl cl_11, JB.pre (N0 := [(qa, .inl (cI, 604, .inl ff))]) (ws := [(q24, .inr (11, [.ref v28, .int 0, .int 0, .int (nI (0 + 1))])), (v28, .inl (cB, (cap (0 + 1) 16), .inl f29))]) hK hC hZ hw (SL1 (SO.pass (N0 := [(qa, .inl (cI, 604, .inl ff))]) (ws := [(q24, .inr (11, [.ref v28, .int 0, .int 0, .int (nI (0 + 1))])), (v28, .inl (cB, (cap (0 + 1) 16), .inl f29))]) hO hw))⟩ rfl rfl hl.1 rfl (lv_room (Nat.le_of_ble_eq_true rfl)) dX11_apart_99 ⟨show 0 + 0 + 9 + 0 + 8 + 1 + 1 + (gr (0 + 1) 16) + (gr (0 + 1 + sa23w) (cap (0 + 1) 16)) ≤ 1400 by omega, show 0 + 0 + 1222 + 0 + 618 + 4 + 16 + (gs (0 + 1) 16) + (gs (0 + 1 + sa23w) (cap (0 + 1) 16)) ≤ 91500 by omega⟩) (fun u35 H locs hp36 hw => ?_)
              obtain ⟨v33, f34⟩ := u35
              have hw : MW D (MR ad cI μC) [(qa, .inl (cI, 604, .inl ff)), (q24, .inr (11, [.ref v33, .int 0, .int 0, .int (nI (0 + 1 + sa23w))])), (v33, .inl (cB, (cap (0 + 1 + sa23w) (cap (0 + 1) 16)), .inl f34))] (MA ad s.heap.size) s H locs := hw
              refine J_callr (N0 := [(qa, .inl (cI, 604, .inl ff))]) (ws := [(q24, .inr (11, [.ref v33, .int 0, .int 0, .int (nI (0 + 1 + sa23w))])), (v33, .inl (cB, (cap (0 + 1 + sa23w) (cap (0 + 1) 16)), .inl f34))]) hw (va_runV (own := "LeastreaderModel") (As := []) (rest := []) ⟨hx, hb, hml, hown, ht⟩ (c_J4_toString_0e30d q24 v33 (cap (0 + 1 + sa23w) (cap (0 + 1) 16)) (0 + 1 + sa23w) f34 H.size (by omega) (by omega) hp36) (cwV 0 ht (G_V q_1540 q_1054 q_1055 q_67 q_1056) rfl rfl rfl ⟨rfl, rd_6⟩ ⟨Nat.le_of_ble_eq_true rfl, Nat.le_of_ble_eq_true rfl⟩) ⟨JB.blind, J_recv hK hw (j := 1) rfl cl_11, JB.pre (N0 := [(qa, .inl (cI, 604, .inl ff))]) (ws := [(q24, .inr (11, [.ref v33, .int 0, .int 0, .int (nI (0 + 1 + sa23w))])), (v33, .inl (cB, (cap (0 + 1 + sa23w) (cap (0 + 1) 16)), .inl f34))]) hK hC hZ hw SL0⟩ rfl rfl hl.1 rfl (lv_room (Nat.le_of_ble_eq_true rfl)) dX11_apart_102 ⟨show 0 + 0 + 9 + 0 + 8 + 1 + 1 + (gr (0 + 1) 16) + (gr (0 + 1 + sa23w) (cap (0 + 1) 16)) + 2 ≤ 1400 by omega, show 0 + 0 + 1222 + 0 + 618 + 4 + 16 + (gs (0 + 1) 16) + (gs (0 + 1 + sa23w) (cap (0 + 1) 16)) + ((0 + 1 + sa23w) + 4) ≤ 91500 by omega⟩) (fun u38 H locs hp39 hw => ?_)
              have hw : MW D (MR ad cI μC) [(qa, .inl (cI, 604, .inl ff)), (u38.1, .inr (12, [.ref u38.2.1, .int 0, .int 0, .int 0])), (q24, .inr (11, [.ref v33, .int 0, .int 0, .int (nI (0 + 1 + sa23w))])), (v33, .inl (cB, (cap (0 + 1 + sa23w) (cap (0 + 1) 16)), .inl f34)), (u38.2.1, .inl (cB, (0 + 1 + sa23w), .inl u38.2.2))] (MA ad s.heap.size) s H locs := hw
              refine lv_astore (lv' := [(4, .ref u38.1), (5, .int at_), (3, .ref qa), (0, .ref (ad 0)), (1, .int a1), (2, .int a2)]) hx hb dX11_apart_105 hl (by decide) rfl (fun ls hl => ?_)
              refine lv_aload_n hx hb dX11_apart_107 rfl (lv_at hl 2 rfl) ?_
              refine lv_iconst (v := (3 : Int32)) hx hb dX11_apart_108 (by decide) ?_
              refine lv_iload hx hb dX11_apart_109 (lv_at hl 1 rfl) ?_
              refine lv_imul hx hb dX11_apart_111 ?_
              refine lv_iconst (v := (2 : Int32)) hx hb dX11_apart_112 (by decide) ?_
              refine lv_iadd hx hb dX11_apart_113 ?_
              refine n_iald hx hb hM (hw.n (j := 0) rfl) (i := (((3 : Int32) * at_) + (2 : Int32))) (vin (by omega)) dX11_apart_114 ?_
              refine lv_topi (fun y2 ey2 => ?_)
              rw [i2c] at ey2
              refine lv_istore (lv' := [(5, .int y2), (4, .ref u38.1), (3, .ref qa), (0, .ref (ad 0)), (1, .int a1), (2, .int a2)]) hx hb dX11_apart_115 hl (by decide) rfl (fun ls hl => ?_)
              refine lv_goto (tgt := 70) hx hb dX11_apart_117 (by decide) ?_
              have hw := hw.sub (N' := [(qa, .inl (cI, 604, .inl ff)), (u38.1, .inr (12, [.ref u38.2.1, .int 0, .int 0, .int 0])), (u38.2.1, .inl (cB, (0 + 1 + sa23w), .inl u38.2.2))]) [0, 1, 4] (by decide) rfl
              exact L70 _ y2 u38.1 u38.2.1 (0 + 1 + sa23w) (ff (3 * j + 2)).toInt.toNat (0 + 0 + 9 + 0 + 8 + 1 + 1 + (gr (0 + 1) 16) + (gr (0 + 1 + sa23w) (cap (0 + 1) 16)) + 2) (0 + 0 + 1222 + 0 + 618 + 4 + 16 + (gs (0 + 1) 16) + (gs (0 + 1 + sa23w) (cap (0 + 1) 16)) + ((0 + 1 + sa23w) + 4)) u38.2.2 H locs ls (Nat.lt_succ_self _) (by rw [ey2]; omega) (by omega) (by omega) (by omega) (by omega) hp39 hw (lv_sub hl [2, 1, 0] rfl)
          · obtain ⟨sa41, sa41b, sa41w, sa41h, sa41r, sa41O⟩ := hX _ (List.mem_of_getElem? (i := 0) rfl)
            refine va_ldcS hx hb hown sa41r dX11_apart_56 ?_
            exact hret H locs ls 58 _ _ _ _ _ hw hF2 (show 0 + 0 + 9 + 0 + 8 ≤ 1400 by omega) (show 0 + 0 + 1222 + 0 + 618 ≤ 91500 by omega) dX11_apart_58
      · obtain ⟨sa42, sa42b, sa42w, sa42h, sa42r, sa42O⟩ := hX _ (List.mem_of_getElem? (i := 0) rfl)
        refine va_ldcS hx hb hown sa42r dX11_apart_27 ?_
        exact hret H locs ls 29 _ _ _ _ _ hw hF (show 0 + 0 ≤ 1400 by omega) (show 0 + 0 ≤ 91500 by omega) dX11_apart_29
end
