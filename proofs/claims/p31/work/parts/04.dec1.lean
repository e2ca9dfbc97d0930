abbrev zD := Jvm.ClassFile.Decoder Jvm.ClassFile.Instr
def z0 (i : Jvm.ClassFile.Instr) (_ : List UInt8) : Option (Jvm.ClassFile.Instr × Nat) := some (i, 1)
def z1 (f : Nat → Jvm.ClassFile.Instr) (l : List UInt8) : Option (Jvm.ClassFile.Instr × Nat) := match l with
  | b :: _ => some (f b.toNat, 2)
  | [] => none
def zs1 (f : Int → Jvm.ClassFile.Instr) (l : List UInt8) : Option (Jvm.ClassFile.Instr × Nat) := match l with
  | b :: _ => some (f (Jvm.ClassFile.Reader.signed 8 b.toNat), 2)
  | [] => none
def z2 (f : Nat → Jvm.ClassFile.Instr) (l : List UInt8) : Option (Jvm.ClassFile.Instr × Nat) := match l with
  | b :: b' :: _ => some (f (b.toNat * 256 + b'.toNat), 3)
  | _ => none
def zs2 (f : Int → Jvm.ClassFile.Instr) (l : List UInt8) : Option (Jvm.ClassFile.Instr × Nat) := match l with
  | b :: b' :: _ => some (f (Jvm.ClassFile.Reader.signed 16 (b.toNat * 256 + b'.toNat)), 3)
  | _ => none
def zi (l : List UInt8) : Option (Jvm.ClassFile.Instr × Nat) := match l with
  | b :: b' :: _ => some (Jvm.ClassFile.Instr.iinc b.toNat (Jvm.ClassFile.Reader.signed 8 b'.toNat), 3)
  | _ => none
theorem eb_i {ε α β : Type} {m : Except ε α} {f : α → Except ε β} {a : α} (h : m = .ok a) : Except.bind m f = f a := by
  subst h
  rfl
theorem z_u1 {c : ByteArray} {p : Nat} {b : UInt8} {r : List UInt8} (h : c.data.toList.drop p = b :: r) : (Jvm.ClassFile.Reader.u1 : Jvm.ClassFile.Decoder Nat) c p = .ok (b.toNat, p + 1) ∧ c.data.toList.drop (p + 1) = r := by
  obtain ⟨⟨l⟩⟩ := c
  have h : l.drop p = b :: r := h
  have hl : p < l.length := by
    apply Nat.lt_of_not_le
    intro hle
    rw [List.drop_eq_nil_of_le hle] at h
    cases h
  rw [List.drop_eq_getElem_cons hl] at h
  injection h with h1 h2
  subst h1
  refine ⟨?_, h2⟩
  have hs : p < (ByteArray.mk (Array.mk l)).size := hl
  have e2 : (Jvm.ClassFile.Reader.u1 : Jvm.ClassFile.Decoder Nat) (ByteArray.mk (Array.mk l)) p = (dite (p < (ByteArray.mk (Array.mk l)).size) (fun hh => ((do set (p + 1); pure ((ByteArray.mk (Array.mk l))[p]'hh).toNat) : Jvm.ClassFile.Decoder Nat)) (fun _ => throw (Jvm.ClassFile.HasTruncated.truncated p)) : Jvm.ClassFile.Decoder Nat) (ByteArray.mk (Array.mk l)) p := rfl
  rw [e2, dif_pos hs]
  rfl
theorem z_u2 {c : ByteArray} {p : Nat} {b b' : UInt8} {r : List UInt8} (h : c.data.toList.drop p = b :: b' :: r) : (Jvm.ClassFile.Reader.u2 : Jvm.ClassFile.Decoder Nat) c p = .ok (b.toNat * 256 + b'.toNat, p + 2) := by
  obtain ⟨e1, h1⟩ := z_u1 h
  obtain ⟨e2, -⟩ := z_u1 h1
  have g : (Jvm.ClassFile.Reader.u2 : Jvm.ClassFile.Decoder Nat) c p = Except.bind ((Jvm.ClassFile.Reader.u1 : Jvm.ClassFile.Decoder Nat) c p) (fun z => Except.bind ((Jvm.ClassFile.Reader.u1 : Jvm.ClassFile.Decoder Nat) c z.2) (fun y => .ok (z.1 * 256 + y.1, y.2))) := rfl
  rw [g, e1]
  show Except.bind ((Jvm.ClassFile.Reader.u1 : Jvm.ClassFile.Decoder Nat) c (p + 1)) (fun y => .ok (b.toNat * 256 + y.1, y.2)) = _
  rw [e2]
  rfl
theorem z_s1 {f : Int → Jvm.ClassFile.Instr} {c : ByteArray} {p : Nat} {b : UInt8} {r : List UInt8} (h : c.data.toList.drop p = b :: r) : (Jvm.ClassFile.Reader.s1 >>= fun a => pure (f a) : zD) c p = .ok (f (Jvm.ClassFile.Reader.signed 8 b.toNat), p + 1) := by
  have hU := (z_u1 h).1
  first
    | (have g : (Jvm.ClassFile.Reader.s1 >>= fun a => pure (f a) : zD) c p = Except.bind (Except.bind ((Jvm.ClassFile.Reader.u1 : Jvm.ClassFile.Decoder Nat) c p) (fun z => .ok (Jvm.ClassFile.Reader.signed 8 z.1, z.2))) (fun z => .ok (f z.1, z.2)) := rfl
       rw [g, hU]
       rfl)
    | (have g : (Jvm.ClassFile.Reader.s1 >>= fun a => pure (f a) : zD) c p = Except.bind (Except.map (fun z => (Jvm.ClassFile.Reader.signed 8 z.1, z.2)) ((Jvm.ClassFile.Reader.u1 : Jvm.ClassFile.Decoder Nat) c p)) (fun z => .ok (f z.1, z.2)) := rfl
       rw [g, hU]
       rfl)
    | simp [Jvm.ClassFile.Reader.s1, bind, ReaderT.bind, StateT.bind, Except.bind, Functor.map, StateT.map, Except.map, pure, ReaderT.pure, StateT.pure, Except.pure, hU]
theorem z_s2 {f : Int → Jvm.ClassFile.Instr} {c : ByteArray} {p : Nat} {b b' : UInt8} {r : List UInt8} (h : c.data.toList.drop p = b :: b' :: r) : (Jvm.ClassFile.Reader.s2 >>= fun a => pure (f a) : zD) c p = .ok (f (Jvm.ClassFile.Reader.signed 16 (b.toNat * 256 + b'.toNat)), p + 2) := by
  have hU := z_u2 h
  first
    | (have g : (Jvm.ClassFile.Reader.s2 >>= fun a => pure (f a) : zD) c p = Except.bind (Except.bind ((Jvm.ClassFile.Reader.u2 : Jvm.ClassFile.Decoder Nat) c p) (fun z => .ok (Jvm.ClassFile.Reader.signed 16 z.1, z.2))) (fun z => .ok (f z.1, z.2)) := rfl
       rw [g, hU]
       rfl)
    | (have g : (Jvm.ClassFile.Reader.s2 >>= fun a => pure (f a) : zD) c p = Except.bind (Except.map (fun z => (Jvm.ClassFile.Reader.signed 16 z.1, z.2)) ((Jvm.ClassFile.Reader.u2 : Jvm.ClassFile.Decoder Nat) c p)) (fun z => .ok (f z.1, z.2)) := rfl
       rw [g, hU]
       rfl)
    | simp [Jvm.ClassFile.Reader.s2, bind, ReaderT.bind, StateT.bind, Except.bind, Functor.map, StateT.map, Except.map, pure, ReaderT.pure, StateT.pure, Except.pure, hU]
def zok (h : List UInt8 → Option (Jvm.ClassFile.Instr × Nat)) (D : zD) : Prop := ∀ (c : ByteArray) (p : Nat) (l : List UInt8) (i : Jvm.ClassFile.Instr) (n : Nat), c.data.toList.drop (p + 1) = l → h l = some (i, n) → D c (p + 1) = .ok (i, p + n)
theorem zok_eq {h : List UInt8 → Option (Jvm.ClassFile.Instr × Nat)} {D D' : zD} (e : D' = D) (z : zok h D) : zok h D' := by
  subst e
  exact z
theorem z_no {j : Jvm.ClassFile.Instr × Nat} {P : Prop} (h : (none : Option (Jvm.ClassFile.Instr × Nat)) = some j) : P := by cases h
theorem z0_ok {i : Jvm.ClassFile.Instr} : zok (z0 i) (pure i : zD) := fun c p l j n hd h => by
  have h' : some (i, 1) = some (j, n) := h
  cases h'
  rfl
theorem z1_ok {f : Nat → Jvm.ClassFile.Instr} : zok (z1 f) (Jvm.ClassFile.Reader.u1 >>= fun a => pure (f a) : zD) := fun c p l j n hd h => by
  cases l with
  | nil => exact z_no h
  | cons b r =>
    have h' : some (f b.toNat, 2) = some (j, n) := h
    cases h'
    have g : (Jvm.ClassFile.Reader.u1 >>= fun a => pure (f a) : zD) c (p + 1) = Except.bind ((Jvm.ClassFile.Reader.u1 : Jvm.ClassFile.Decoder Nat) c (p + 1)) (fun z => .ok (f z.1, z.2)) := rfl
    rw [g, (z_u1 hd).1]
    rfl
theorem zs1_ok {f : Int → Jvm.ClassFile.Instr} : zok (zs1 f) (Jvm.ClassFile.Reader.s1 >>= fun a => pure (f a) : zD) := fun c p l j n hd h => by
  cases l with
  | nil => exact z_no h
  | cons b r =>
    have h' : some (f (Jvm.ClassFile.Reader.signed 8 b.toNat), 2) = some (j, n) := h
    cases h'
    exact z_s1 hd
theorem z2_ok {f : Nat → Jvm.ClassFile.Instr} : zok (z2 f) (Jvm.ClassFile.Reader.u2 >>= fun a => pure (f a) : zD) := fun c p l j n hd h => by
  cases l with
  | nil => exact z_no h
  | cons b r =>
    cases r with
    | nil => exact z_no h
    | cons b' r =>
      have h' : some (f (b.toNat * 256 + b'.toNat), 3) = some (j, n) := h
      cases h'
      have g : (Jvm.ClassFile.Reader.u2 >>= fun a => pure (f a) : zD) c (p + 1) = Except.bind ((Jvm.ClassFile.Reader.u2 : Jvm.ClassFile.Decoder Nat) c (p + 1)) (fun z => .ok (f z.1, z.2)) := rfl
      rw [g, z_u2 hd]
      rfl
theorem zs2_ok {f : Int → Jvm.ClassFile.Instr} : zok (zs2 f) (Jvm.ClassFile.Reader.s2 >>= fun a => pure (f a) : zD) := fun c p l j n hd h => by
  cases l with
  | nil => exact z_no h
  | cons b r =>
    cases r with
    | nil => exact z_no h
    | cons b' r =>
      have h' : some (f (Jvm.ClassFile.Reader.signed 16 (b.toNat * 256 + b'.toNat)), 3) = some (j, n) := h
      cases h'
      exact z_s2 hd
theorem zi_ok : zok zi (Jvm.ClassFile.Reader.u1 >>= fun a => Jvm.ClassFile.Reader.s1 >>= fun b => pure (Jvm.ClassFile.Instr.iinc a b) : zD) := fun c p l j n hd h => by
  cases l with
  | nil => exact z_no h
  | cons b r =>
    cases r with
    | nil => exact z_no h
    | cons b' r =>
      have h' : some (Jvm.ClassFile.Instr.iinc b.toNat (Jvm.ClassFile.Reader.signed 8 b'.toNat), 3) = some (j, n) := h
      cases h'
      obtain ⟨e1, h1⟩ := z_u1 hd
      have g : (Jvm.ClassFile.Reader.u1 >>= fun a => Jvm.ClassFile.Reader.s1 >>= fun b => pure (Jvm.ClassFile.Instr.iinc a b) : zD) c (p + 1) = Except.bind ((Jvm.ClassFile.Reader.u1 : Jvm.ClassFile.Decoder Nat) c (p + 1)) (fun z => (Jvm.ClassFile.Reader.s1 >>= fun b => pure (Jvm.ClassFile.Instr.iinc z.1 b) : zD) c z.2) := rfl
      rw [g, e1]
      exact z_s1 (f := Jvm.ClassFile.Instr.iinc b.toNat) h1
noncomputable def zf (b : Nat) (l : List UInt8) (t : List (Nat × (List UInt8 → Option (Jvm.ClassFile.Instr × Nat)))) : Option (Jvm.ClassFile.Instr × Nat) := List.rec none (fun e _ ih => cond (Nat.beq b e.1) (e.2 l) ih) t
theorem zf_ok {T : Nat → zD} {p b n : Nat} {c : ByteArray} {l : List UInt8} {i : Jvm.ClassFile.Instr} (hd : c.data.toList.drop (p + 1) = l) : ∀ {t : List (Nat × (List UInt8 → Option (Jvm.ClassFile.Instr × Nat)))}, (∀ e ∈ t, zok e.2 (T e.1)) → zf b l t = some (i, n) → T b c (p + 1) = .ok (i, p + n) := by
  intro t
  induction t with
  | nil => exact fun _ h => z_no h
  | cons e t ih =>
    intro hc h
    have h : cond (Nat.beq b e.1) (e.2 l) (zf b l t) = some (i, n) := h
    obtain ⟨h1, h2⟩ := List.forall_mem_cons.mp hc
    cases hb : Nat.beq b e.1 with
    | true =>
      rw [hb] at h
      rw [Nat.eq_of_beq_eq_true hb]
      exact h1 c p l i n hd h
    | false =>
      rw [hb] at h
      exact ih h2 h
def zt : List (Nat × (List UInt8 → Option (Jvm.ClassFile.Instr × Nat))) := [(42, z0 (Jvm.ClassFile.Instr.aload_n 0)), (21, z1 Jvm.ClassFile.Instr.iload), (182, z2 Jvm.ClassFile.Instr.invokevirtual), (3, z0 (Jvm.ClassFile.Instr.iconst 0)), (180, z2 Jvm.ClassFile.Instr.getfield), (27, z0 (Jvm.ClassFile.Instr.iload_n 1)), (4, z0 (Jvm.ClassFile.Instr.iconst 1)), (167, zs2 Jvm.ClassFile.Instr.goto), (172, z0 Jvm.ClassFile.Instr.ireturn), (28, z0 (Jvm.ClassFile.Instr.iload_n 2)), (46, z0 Jvm.ClassFile.Instr.iaload), (96, z0 Jvm.ClassFile.Instr.iadd), (29, z0 (Jvm.ClassFile.Instr.iload_n 3)), (184, z2 Jvm.ClassFile.Instr.invokestatic), (54, z1 Jvm.ClassFile.Instr.istore), (153, zs2 (Jvm.ClassFile.Instr.ifCond .eq)), (6, z0 (Jvm.ClassFile.Instr.iconst 3)), (132, zi), (162, zs2 (Jvm.ClassFile.Instr.if_icmp .ge)), (25, z1 Jvm.ClassFile.Instr.aload), (43, z0 (Jvm.ClassFile.Instr.aload_n 1)), (181, z2 Jvm.ClassFile.Instr.putfield), (44, z0 (Jvm.ClassFile.Instr.aload_n 2)), (16, zs1 Jvm.ClassFile.Instr.bipush), (45, z0 (Jvm.ClassFile.Instr.aload_n 3)), (5, z0 (Jvm.ClassFile.Instr.iconst 2)), (58, z1 Jvm.ClassFile.Instr.astore), (104, z0 Jvm.ClassFile.Instr.imul), (7, z0 (Jvm.ClassFile.Instr.iconst 4)), (62, z0 (Jvm.ClassFile.Instr.istore_n 3)), (89, z0 Jvm.ClassFile.Instr.dup), (183, z2 Jvm.ClassFile.Instr.invokespecial), (160, zs2 (Jvm.ClassFile.Instr.if_icmp .ne)), (79, z0 Jvm.ClassFile.Instr.iastore), (176, z0 Jvm.ClassFile.Instr.areturn), (154, zs2 (Jvm.ClassFile.Instr.ifCond .ne)), (61, z0 (Jvm.ClassFile.Instr.istore_n 2)), (177, z0 Jvm.ClassFile.Instr.return_), (26, z0 (Jvm.ClassFile.Instr.iload_n 0)), (187, z2 Jvm.ClassFile.Instr.new), (133, z0 Jvm.ClassFile.Instr.i2l), (100, z0 Jvm.ClassFile.Instr.isub), (190, z0 Jvm.ClassFile.Instr.arraylength), (120, z0 Jvm.ClassFile.Instr.ishl), (18, z1 Jvm.ClassFile.Instr.ldc), (78, z0 (Jvm.ClassFile.Instr.astore_n 3)), (108, z0 Jvm.ClassFile.Instr.idiv), (2, z0 (Jvm.ClassFile.Instr.iconst (-1))), (126, z0 Jvm.ClassFile.Instr.iand), (17, zs2 Jvm.ClassFile.Instr.sipush), (87, z0 Jvm.ClassFile.Instr.pop), (10, z0 (Jvm.ClassFile.Instr.lconst 1)), (20, z2 Jvm.ClassFile.Instr.ldc2_w), (128, z0 Jvm.ClassFile.Instr.ior), (97, z0 Jvm.ClassFile.Instr.ladd), (105, z0 Jvm.ClassFile.Instr.lmul), (112, z0 Jvm.ClassFile.Instr.irem), (159, zs2 (Jvm.ClassFile.Instr.if_icmp .eq)), (60, z0 (Jvm.ClassFile.Instr.istore_n 1)), (77, z0 (Jvm.ClassFile.Instr.astore_n 2)), (155, zs2 (Jvm.ClassFile.Instr.ifCond .lt)), (161, zs2 (Jvm.ClassFile.Instr.if_icmp .lt)), (163, zs2 (Jvm.ClassFile.Instr.if_icmp .gt)), (22, z1 Jvm.ClassFile.Instr.lload), (31, z0 (Jvm.ClassFile.Instr.lload_n 1)), (64, z0 (Jvm.ClassFile.Instr.lstore_n 1)), (158, zs2 (Jvm.ClassFile.Instr.ifCond .le)), (164, zs2 (Jvm.ClassFile.Instr.if_icmp .le)), (178, z2 Jvm.ClassFile.Instr.getstatic), (191, z0 Jvm.ClassFile.Instr.athrow), (1, z0 Jvm.ClassFile.Instr.aconst_null), (19, z2 Jvm.ClassFile.Instr.ldc_w), (59, z0 (Jvm.ClassFile.Instr.istore_n 0)), (84, z0 Jvm.ClassFile.Instr.bastore), (122, z0 Jvm.ClassFile.Instr.ishr), (55, z1 Jvm.ClassFile.Instr.lstore), (92, z0 Jvm.ClassFile.Instr.dup2), (148, z0 Jvm.ClassFile.Instr.lcmp), (199, zs2 Jvm.ClassFile.Instr.ifnonnull), (9, z0 (Jvm.ClassFile.Instr.lconst 0)), (33, z0 (Jvm.ClassFile.Instr.lload_n 3)), (51, z0 Jvm.ClassFile.Instr.baload), (66, z0 (Jvm.ClassFile.Instr.lstore_n 3)), (32, z0 (Jvm.ClassFile.Instr.lload_n 2)), (76, z0 (Jvm.ClassFile.Instr.astore_n 1)), (121, z0 Jvm.ClassFile.Instr.lshl), (124, z0 Jvm.ClassFile.Instr.iushr), (127, z0 Jvm.ClassFile.Instr.land), (130, z0 Jvm.ClassFile.Instr.ixor), (8, z0 (Jvm.ClassFile.Instr.iconst 5)), (47, z0 Jvm.ClassFile.Instr.laload), (80, z0 Jvm.ClassFile.Instr.lastore), (116, z0 Jvm.ClassFile.Instr.ineg), (123, z0 Jvm.ClassFile.Instr.lshr), (156, zs2 (Jvm.ClassFile.Instr.ifCond .ge)), (173, z0 Jvm.ClassFile.Instr.lreturn), (129, z0 Jvm.ClassFile.Instr.lor), (146, z0 Jvm.ClassFile.Instr.i2c), (198, zs2 Jvm.ClassFile.Instr.ifnull), (50, z0 Jvm.ClassFile.Instr.aaload), (65, z0 (Jvm.ClassFile.Instr.lstore_n 2)), (90, z0 Jvm.ClassFile.Instr.dup_x1), (192, z2 Jvm.ClassFile.Instr.checkcast), (30, z0 (Jvm.ClassFile.Instr.lload_n 0)), (83, z0 Jvm.ClassFile.Instr.aastore), (136, z0 Jvm.ClassFile.Instr.l2i), (145, z0 Jvm.ClassFile.Instr.i2b), (189, z2 Jvm.ClassFile.Instr.anewarray)]
set_option maxHeartbeats 4000000 in
set_option maxRecDepth 100000 in
theorem z_T1 (p : Nat) : ∃ T : Nat → zD, Jvm.ClassFile.Decoder.instr p = (Jvm.ClassFile.Reader.u1 >>= T : zD) ∧ T 42 = (pure (Jvm.ClassFile.Instr.aload_n 0) : zD) ∧ T 21 = (Jvm.ClassFile.Reader.u1 >>= fun a => pure (Jvm.ClassFile.Instr.iload a) : zD) ∧ T 182 = (Jvm.ClassFile.Reader.u2 >>= fun a => pure (Jvm.ClassFile.Instr.invokevirtual a) : zD) ∧ T 3 = (pure (Jvm.ClassFile.Instr.iconst 0) : zD) ∧ T 180 = (Jvm.ClassFile.Reader.u2 >>= fun a => pure (Jvm.ClassFile.Instr.getfield a) : zD) ∧ T 27 = (pure (Jvm.ClassFile.Instr.iload_n 1) : zD) ∧ T 4 = (pure (Jvm.ClassFile.Instr.iconst 1) : zD) ∧ T 167 = (Jvm.ClassFile.Reader.s2 >>= fun a => pure (Jvm.ClassFile.Instr.goto a) : zD) ∧ T 172 = (pure Jvm.ClassFile.Instr.ireturn : zD) ∧ T 28 = (pure (Jvm.ClassFile.Instr.iload_n 2) : zD) ∧ T 46 = (pure Jvm.ClassFile.Instr.iaload : zD) ∧ T 96 = (pure Jvm.ClassFile.Instr.iadd : zD) ∧ T 29 = (pure (Jvm.ClassFile.Instr.iload_n 3) : zD) ∧ T 184 = (Jvm.ClassFile.Reader.u2 >>= fun a => pure (Jvm.ClassFile.Instr.invokestatic a) : zD) ∧ T 54 = (Jvm.ClassFile.Reader.u1 >>= fun a => pure (Jvm.ClassFile.Instr.istore a) : zD) ∧ T 153 = (Jvm.ClassFile.Reader.s2 >>= fun a => pure (Jvm.ClassFile.Instr.ifCond .eq a) : zD) ∧ T 6 = (pure (Jvm.ClassFile.Instr.iconst 3) : zD) ∧ T 132 = (Jvm.ClassFile.Reader.u1 >>= fun a => Jvm.ClassFile.Reader.s1 >>= fun b => pure (Jvm.ClassFile.Instr.iinc a b) : zD) ∧ T 162 = (Jvm.ClassFile.Reader.s2 >>= fun a => pure (Jvm.ClassFile.Instr.if_icmp .ge a) : zD) ∧ T 25 = (Jvm.ClassFile.Reader.u1 >>= fun a => pure (Jvm.ClassFile.Instr.aload a) : zD) ∧ T 43 = (pure (Jvm.ClassFile.Instr.aload_n 1) : zD) ∧ T 181 = (Jvm.ClassFile.Reader.u2 >>= fun a => pure (Jvm.ClassFile.Instr.putfield a) : zD) ∧ T 44 = (pure (Jvm.ClassFile.Instr.aload_n 2) : zD) ∧ T 16 = (Jvm.ClassFile.Reader.s1 >>= fun a => pure (Jvm.ClassFile.Instr.bipush a) : zD) ∧ T 45 = (pure (Jvm.ClassFile.Instr.aload_n 3) : zD) ∧ T 5 = (pure (Jvm.ClassFile.Instr.iconst 2) : zD) ∧ T 58 = (Jvm.ClassFile.Reader.u1 >>= fun a => pure (Jvm.ClassFile.Instr.astore a) : zD) ∧ T 104 = (pure Jvm.ClassFile.Instr.imul : zD) ∧ T 7 = (pure (Jvm.ClassFile.Instr.iconst 4) : zD) ∧ T 62 = (pure (Jvm.ClassFile.Instr.istore_n 3) : zD) ∧ T 89 = (pure Jvm.ClassFile.Instr.dup : zD) ∧ T 183 = (Jvm.ClassFile.Reader.u2 >>= fun a => pure (Jvm.ClassFile.Instr.invokespecial a) : zD) ∧ T 160 = (Jvm.ClassFile.Reader.s2 >>= fun a => pure (Jvm.ClassFile.Instr.if_icmp .ne a) : zD) ∧ T 79 = (pure Jvm.ClassFile.Instr.iastore : zD) ∧ T 176 = (pure Jvm.ClassFile.Instr.areturn : zD) ∧ T 154 = (Jvm.ClassFile.Reader.s2 >>= fun a => pure (Jvm.ClassFile.Instr.ifCond .ne a) : zD) ∧ T 61 = (pure (Jvm.ClassFile.Instr.istore_n 2) : zD) ∧ T 177 = (pure Jvm.ClassFile.Instr.return_ : zD) ∧ T 26 = (pure (Jvm.ClassFile.Instr.iload_n 0) : zD) ∧ T 187 = (Jvm.ClassFile.Reader.u2 >>= fun a => pure (Jvm.ClassFile.Instr.new a) : zD) ∧ T 133 = (pure Jvm.ClassFile.Instr.i2l : zD) ∧ T 100 = (pure Jvm.ClassFile.Instr.isub : zD) ∧ T 190 = (pure Jvm.ClassFile.Instr.arraylength : zD) ∧ T 120 = (pure Jvm.ClassFile.Instr.ishl : zD) ∧ T 18 = (Jvm.ClassFile.Reader.u1 >>= fun a => pure (Jvm.ClassFile.Instr.ldc a) : zD) ∧ T 78 = (pure (Jvm.ClassFile.Instr.astore_n 3) : zD) ∧ T 108 = (pure Jvm.ClassFile.Instr.idiv : zD) ∧ T 2 = (pure (Jvm.ClassFile.Instr.iconst (-1)) : zD) ∧ T 126 = (pure Jvm.ClassFile.Instr.iand : zD) ∧ T 17 = (Jvm.ClassFile.Reader.s2 >>= fun a => pure (Jvm.ClassFile.Instr.sipush a) : zD) ∧ T 87 = (pure Jvm.ClassFile.Instr.pop : zD) ∧ T 10 = (pure (Jvm.ClassFile.Instr.lconst 1) : zD) ∧ T 20 = (Jvm.ClassFile.Reader.u2 >>= fun a => pure (Jvm.ClassFile.Instr.ldc2_w a) : zD) ∧ T 128 = (pure Jvm.ClassFile.Instr.ior : zD) ∧ T 97 = (pure Jvm.ClassFile.Instr.ladd : zD) ∧ T 105 = (pure Jvm.ClassFile.Instr.lmul : zD) ∧ T 112 = (pure Jvm.ClassFile.Instr.irem : zD) ∧ T 159 = (Jvm.ClassFile.Reader.s2 >>= fun a => pure (Jvm.ClassFile.Instr.if_icmp .eq a) : zD) ∧ T 60 = (pure (Jvm.ClassFile.Instr.istore_n 1) : zD) ∧ T 77 = (pure (Jvm.ClassFile.Instr.astore_n 2) : zD) ∧ T 155 = (Jvm.ClassFile.Reader.s2 >>= fun a => pure (Jvm.ClassFile.Instr.ifCond .lt a) : zD) ∧ T 161 = (Jvm.ClassFile.Reader.s2 >>= fun a => pure (Jvm.ClassFile.Instr.if_icmp .lt a) : zD) ∧ T 163 = (Jvm.ClassFile.Reader.s2 >>= fun a => pure (Jvm.ClassFile.Instr.if_icmp .gt a) : zD) ∧ T 22 = (Jvm.ClassFile.Reader.u1 >>= fun a => pure (Jvm.ClassFile.Instr.lload a) : zD) ∧ T 31 = (pure (Jvm.ClassFile.Instr.lload_n 1) : zD) ∧ T 64 = (pure (Jvm.ClassFile.Instr.lstore_n 1) : zD) ∧ T 158 = (Jvm.ClassFile.Reader.s2 >>= fun a => pure (Jvm.ClassFile.Instr.ifCond .le a) : zD) ∧ T 164 = (Jvm.ClassFile.Reader.s2 >>= fun a => pure (Jvm.ClassFile.Instr.if_icmp .le a) : zD) ∧ T 178 = (Jvm.ClassFile.Reader.u2 >>= fun a => pure (Jvm.ClassFile.Instr.getstatic a) : zD) ∧ T 191 = (pure Jvm.ClassFile.Instr.athrow : zD) ∧ T 1 = (pure Jvm.ClassFile.Instr.aconst_null : zD) ∧ T 19 = (Jvm.ClassFile.Reader.u2 >>= fun a => pure (Jvm.ClassFile.Instr.ldc_w a) : zD) ∧ T 59 = (pure (Jvm.ClassFile.Instr.istore_n 0) : zD) ∧ T 84 = (pure Jvm.ClassFile.Instr.bastore : zD) ∧ T 122 = (pure Jvm.ClassFile.Instr.ishr : zD) ∧ T 55 = (Jvm.ClassFile.Reader.u1 >>= fun a => pure (Jvm.ClassFile.Instr.lstore a) : zD) ∧ T 92 = (pure Jvm.ClassFile.Instr.dup2 : zD) ∧ T 148 = (pure Jvm.ClassFile.Instr.lcmp : zD) ∧ T 199 = (Jvm.ClassFile.Reader.s2 >>= fun a => pure (Jvm.ClassFile.Instr.ifnonnull a) : zD) ∧ T 9 = (pure (Jvm.ClassFile.Instr.lconst 0) : zD) ∧ T 33 = (pure (Jvm.ClassFile.Instr.lload_n 3) : zD) ∧ T 51 = (pure Jvm.ClassFile.Instr.baload : zD) ∧ T 66 = (pure (Jvm.ClassFile.Instr.lstore_n 3) : zD) ∧ T 32 = (pure (Jvm.ClassFile.Instr.lload_n 2) : zD) ∧ T 76 = (pure (Jvm.ClassFile.Instr.astore_n 1) : zD) ∧ T 121 = (pure Jvm.ClassFile.Instr.lshl : zD) ∧ T 124 = (pure Jvm.ClassFile.Instr.iushr : zD) ∧ T 127 = (pure Jvm.ClassFile.Instr.land : zD) ∧ T 130 = (pure Jvm.ClassFile.Instr.ixor : zD) ∧ T 8 = (pure (Jvm.ClassFile.Instr.iconst 5) : zD) ∧ T 47 = (pure Jvm.ClassFile.Instr.laload : zD) ∧ T 80 = (pure Jvm.ClassFile.Instr.lastore : zD) ∧ T 116 = (pure Jvm.ClassFile.Instr.ineg : zD) ∧ T 123 = (pure Jvm.ClassFile.Instr.lshr : zD) ∧ T 156 = (Jvm.ClassFile.Reader.s2 >>= fun a => pure (Jvm.ClassFile.Instr.ifCond .ge a) : zD) ∧ T 173 = (pure Jvm.ClassFile.Instr.lreturn : zD) ∧ T 129 = (pure Jvm.ClassFile.Instr.lor : zD) ∧ T 146 = (pure Jvm.ClassFile.Instr.i2c : zD) ∧ T 198 = (Jvm.ClassFile.Reader.s2 >>= fun a => pure (Jvm.ClassFile.Instr.ifnull a) : zD) ∧ T 50 = (pure Jvm.ClassFile.Instr.aaload : zD) ∧ T 65 = (pure (Jvm.ClassFile.Instr.lstore_n 2) : zD) ∧ T 90 = (pure Jvm.ClassFile.Instr.dup_x1 : zD) ∧ T 192 = (Jvm.ClassFile.Reader.u2 >>= fun a => pure (Jvm.ClassFile.Instr.checkcast a) : zD) ∧ T 30 = (pure (Jvm.ClassFile.Instr.lload_n 0) : zD) ∧ T 83 = (pure Jvm.ClassFile.Instr.aastore : zD) ∧ T 136 = (pure Jvm.ClassFile.Instr.l2i : zD) ∧ T 145 = (pure Jvm.ClassFile.Instr.i2b : zD) ∧ T 189 = (Jvm.ClassFile.Reader.u2 >>= fun a => pure (Jvm.ClassFile.Instr.anewarray a) : zD) := ⟨_, rfl, rfl, rfl, rfl, rfl, rfl, rfl, rfl, rfl, rfl, rfl, rfl, rfl, rfl, rfl, rfl, rfl, rfl, rfl, rfl, rfl, rfl, rfl, rfl, rfl, rfl, rfl, rfl, rfl, rfl, rfl, rfl, rfl, rfl, rfl, rfl, rfl, rfl, rfl, rfl, rfl, rfl, rfl, rfl, rfl, rfl, rfl, rfl, rfl, rfl, rfl, rfl, rfl, rfl, rfl, rfl, rfl, rfl, rfl, rfl, rfl, rfl, rfl, rfl, rfl, rfl, rfl, rfl, rfl, rfl, rfl, rfl, rfl, rfl, rfl, rfl, rfl, rfl, rfl, rfl, rfl, rfl, rfl, rfl, rfl, rfl, rfl, rfl, rfl, rfl, rfl, rfl, rfl, rfl, rfl, rfl, rfl, rfl, rfl, rfl, rfl, rfl, rfl, rfl, rfl, rfl, rfl, rfl, rfl⟩
set_option maxHeartbeats 4000000 in
set_option maxRecDepth 100000 in
theorem z_T (p : Nat) : ∃ T : Nat → zD, Jvm.ClassFile.Decoder.instr p = (Jvm.ClassFile.Reader.u1 >>= T : zD) ∧ ∀ e ∈ zt, zok e.2 (T e.1) := by
  obtain ⟨T, hT, h42, h21, h182, h3, h180, h27, h4, h167, h172, h28, h46, h96, h29, h184, h54, h153, h6, h132, h162, h25, h43, h181, h44, h16, h45, h5, h58, h104, h7, h62, h89, h183, h160, h79, h176, h154, h61, h177, h26, h187, h133, h100, h190, h120, h18, h78, h108, h2, h126, h17, h87, h10, h20, h128, h97, h105, h112, h159, h60, h77, h155, h161, h163, h22, h31, h64, h158, h164, h178, h191, h1, h19, h59, h84, h122, h55, h92, h148, h199, h9, h33, h51, h66, h32, h76, h121, h124, h127, h130, h8, h47, h80, h116, h123, h156, h173, h129, h146, h198, h50, h65, h90, h192, h30, h83, h136, h145, h189⟩ := z_T1 p
  exact ⟨T, hT, List.forall_mem_cons.mpr ⟨zok_eq h42 z0_ok, List.forall_mem_cons.mpr ⟨zok_eq h21 z1_ok, List.forall_mem_cons.mpr ⟨zok_eq h182 z2_ok, List.forall_mem_cons.mpr ⟨zok_eq h3 z0_ok, List.forall_mem_cons.mpr ⟨zok_eq h180 z2_ok, List.forall_mem_cons.mpr ⟨zok_eq h27 z0_ok, List.forall_mem_cons.mpr ⟨zok_eq h4 z0_ok, List.forall_mem_cons.mpr ⟨zok_eq h167 zs2_ok, List.forall_mem_cons.mpr ⟨zok_eq h172 z0_ok, List.forall_mem_cons.mpr ⟨zok_eq h28 z0_ok, List.forall_mem_cons.mpr ⟨zok_eq h46 z0_ok, List.forall_mem_cons.mpr ⟨zok_eq h96 z0_ok, List.forall_mem_cons.mpr ⟨zok_eq h29 z0_ok, List.forall_mem_cons.mpr ⟨zok_eq h184 z2_ok, List.forall_mem_cons.mpr ⟨zok_eq h54 z1_ok, List.forall_mem_cons.mpr ⟨zok_eq h153 zs2_ok, List.forall_mem_cons.mpr ⟨zok_eq h6 z0_ok, List.forall_mem_cons.mpr ⟨zok_eq h132 zi_ok, List.forall_mem_cons.mpr ⟨zok_eq h162 zs2_ok, List.forall_mem_cons.mpr ⟨zok_eq h25 z1_ok, List.forall_mem_cons.mpr ⟨zok_eq h43 z0_ok, List.forall_mem_cons.mpr ⟨zok_eq h181 z2_ok, List.forall_mem_cons.mpr ⟨zok_eq h44 z0_ok, List.forall_mem_cons.mpr ⟨zok_eq h16 zs1_ok, List.forall_mem_cons.mpr ⟨zok_eq h45 z0_ok, List.forall_mem_cons.mpr ⟨zok_eq h5 z0_ok, List.forall_mem_cons.mpr ⟨zok_eq h58 z1_ok, List.forall_mem_cons.mpr ⟨zok_eq h104 z0_ok, List.forall_mem_cons.mpr ⟨zok_eq h7 z0_ok, List.forall_mem_cons.mpr ⟨zok_eq h62 z0_ok, List.forall_mem_cons.mpr ⟨zok_eq h89 z0_ok, List.forall_mem_cons.mpr ⟨zok_eq h183 z2_ok, List.forall_mem_cons.mpr ⟨zok_eq h160 zs2_ok, List.forall_mem_cons.mpr ⟨zok_eq h79 z0_ok, List.forall_mem_cons.mpr ⟨zok_eq h176 z0_ok, List.forall_mem_cons.mpr ⟨zok_eq h154 zs2_ok, List.forall_mem_cons.mpr ⟨zok_eq h61 z0_ok, List.forall_mem_cons.mpr ⟨zok_eq h177 z0_ok, List.forall_mem_cons.mpr ⟨zok_eq h26 z0_ok, List.forall_mem_cons.mpr ⟨zok_eq h187 z2_ok, List.forall_mem_cons.mpr ⟨zok_eq h133 z0_ok, List.forall_mem_cons.mpr ⟨zok_eq h100 z0_ok, List.forall_mem_cons.mpr ⟨zok_eq h190 z0_ok, List.forall_mem_cons.mpr ⟨zok_eq h120 z0_ok, List.forall_mem_cons.mpr ⟨zok_eq h18 z1_ok, List.forall_mem_cons.mpr ⟨zok_eq h78 z0_ok, List.forall_mem_cons.mpr ⟨zok_eq h108 z0_ok, List.forall_mem_cons.mpr ⟨zok_eq h2 z0_ok, List.forall_mem_cons.mpr ⟨zok_eq h126 z0_ok, List.forall_mem_cons.mpr ⟨zok_eq h17 zs2_ok, List.forall_mem_cons.mpr ⟨zok_eq h87 z0_ok, List.forall_mem_cons.mpr ⟨zok_eq h10 z0_ok, List.forall_mem_cons.mpr ⟨zok_eq h20 z2_ok, List.forall_mem_cons.mpr ⟨zok_eq h128 z0_ok, List.forall_mem_cons.mpr ⟨zok_eq h97 z0_ok, List.forall_mem_cons.mpr ⟨zok_eq h105 z0_ok, List.forall_mem_cons.mpr ⟨zok_eq h112 z0_ok, List.forall_mem_cons.mpr ⟨zok_eq h159 zs2_ok, List.forall_mem_cons.mpr ⟨zok_eq h60 z0_ok, List.forall_mem_cons.mpr ⟨zok_eq h77 z0_ok, List.forall_mem_cons.mpr ⟨zok_eq h155 zs2_ok, List.forall_mem_cons.mpr ⟨zok_eq h161 zs2_ok, List.forall_mem_cons.mpr ⟨zok_eq h163 zs2_ok, List.forall_mem_cons.mpr ⟨zok_eq h22 z1_ok, List.forall_mem_cons.mpr ⟨zok_eq h31 z0_ok, List.forall_mem_cons.mpr ⟨zok_eq h64 z0_ok, List.forall_mem_cons.mpr ⟨zok_eq h158 zs2_ok, List.forall_mem_cons.mpr ⟨zok_eq h164 zs2_ok, List.forall_mem_cons.mpr ⟨zok_eq h178 z2_ok, List.forall_mem_cons.mpr ⟨zok_eq h191 z0_ok, List.forall_mem_cons.mpr ⟨zok_eq h1 z0_ok, List.forall_mem_cons.mpr ⟨zok_eq h19 z2_ok, List.forall_mem_cons.mpr ⟨zok_eq h59 z0_ok, List.forall_mem_cons.mpr ⟨zok_eq h84 z0_ok, List.forall_mem_cons.mpr ⟨zok_eq h122 z0_ok, List.forall_mem_cons.mpr ⟨zok_eq h55 z1_ok, List.forall_mem_cons.mpr ⟨zok_eq h92 z0_ok, List.forall_mem_cons.mpr ⟨zok_eq h148 z0_ok, List.forall_mem_cons.mpr ⟨zok_eq h199 zs2_ok, List.forall_mem_cons.mpr ⟨zok_eq h9 z0_ok, List.forall_mem_cons.mpr ⟨zok_eq h33 z0_ok, List.forall_mem_cons.mpr ⟨zok_eq h51 z0_ok, List.forall_mem_cons.mpr ⟨zok_eq h66 z0_ok, List.forall_mem_cons.mpr ⟨zok_eq h32 z0_ok, List.forall_mem_cons.mpr ⟨zok_eq h76 z0_ok, List.forall_mem_cons.mpr ⟨zok_eq h121 z0_ok, List.forall_mem_cons.mpr ⟨zok_eq h124 z0_ok, List.forall_mem_cons.mpr ⟨zok_eq h127 z0_ok, List.forall_mem_cons.mpr ⟨zok_eq h130 z0_ok, List.forall_mem_cons.mpr ⟨zok_eq h8 z0_ok, List.forall_mem_cons.mpr ⟨zok_eq h47 z0_ok, List.forall_mem_cons.mpr ⟨zok_eq h80 z0_ok, List.forall_mem_cons.mpr ⟨zok_eq h116 z0_ok, List.forall_mem_cons.mpr ⟨zok_eq h123 z0_ok, List.forall_mem_cons.mpr ⟨zok_eq h156 zs2_ok, List.forall_mem_cons.mpr ⟨zok_eq h173 z0_ok, List.forall_mem_cons.mpr ⟨zok_eq h129 z0_ok, List.forall_mem_cons.mpr ⟨zok_eq h146 z0_ok, List.forall_mem_cons.mpr ⟨zok_eq h198 zs2_ok, List.forall_mem_cons.mpr ⟨zok_eq h50 z0_ok, List.forall_mem_cons.mpr ⟨zok_eq h65 z0_ok, List.forall_mem_cons.mpr ⟨zok_eq h90 z0_ok, List.forall_mem_cons.mpr ⟨zok_eq h192 z2_ok, List.forall_mem_cons.mpr ⟨zok_eq h30 z0_ok, List.forall_mem_cons.mpr ⟨zok_eq h83 z0_ok, List.forall_mem_cons.mpr ⟨zok_eq h136 z0_ok, List.forall_mem_cons.mpr ⟨zok_eq h145 z0_ok, List.forall_mem_cons.mpr ⟨zok_eq h189 z2_ok, fun _ h => nomatch h⟩⟩⟩⟩⟩⟩⟩⟩⟩⟩⟩⟩⟩⟩⟩⟩⟩⟩⟩⟩⟩⟩⟩⟩⟩⟩⟩⟩⟩⟩⟩⟩⟩⟩⟩⟩⟩⟩⟩⟩⟩⟩⟩⟩⟩⟩⟩⟩⟩⟩⟩⟩⟩⟩⟩⟩⟩⟩⟩⟩⟩⟩⟩⟩⟩⟩⟩⟩⟩⟩⟩⟩⟩⟩⟩⟩⟩⟩⟩⟩⟩⟩⟩⟩⟩⟩⟩⟩⟩⟩⟩⟩⟩⟩⟩⟩⟩⟩⟩⟩⟩⟩⟩⟩⟩⟩⟩⟩⟩
noncomputable def zd (l : List UInt8) : Option (Jvm.ClassFile.Instr × Nat) := match l with
  | [] => none
  | b :: r => zf b.toNat r zt
theorem zd_ok {c : ByteArray} {p : Nat} {x : Jvm.ClassFile.Instr × Nat} (h : zd (c.data.toList.drop p) = some x) : decode c p = .ok x := by
  obtain ⟨T, hT, hc⟩ := z_T p
  obtain ⟨i, n⟩ := x
  cases hl : c.data.toList.drop p with
  | nil =>
    rw [hl] at h
    exact z_no h
  | cons b r =>
    rw [hl] at h
    obtain ⟨e1, hd⟩ := z_u1 hl
    have ht : T b.toNat c (p + 1) = .ok (i, p + n) := zf_ok hd hc h
    have g : (Jvm.ClassFile.Reader.u1 >>= T : zD) c p = Except.bind ((Jvm.ClassFile.Reader.u1 : Jvm.ClassFile.Decoder Nat) c p) (fun z => T z.1 c z.2) := rfl
    have hi : (Jvm.ClassFile.Decoder.instr p) c p = .ok (i, p + n) := by
      rw [hT, g, e1]
      exact ht
    have hd2 : decode c p = Except.bind ((Jvm.ClassFile.Decoder.instr p) c p) (fun z => .ok (z.1, z.2 - p)) := rfl
    rw [hd2, hi]
    show Except.ok (i, p + n - p) = _
    rw [Nat.add_sub_cancel_left]
def zq (o : Option (Jvm.ClassFile.Instr × Nat)) (x : Jvm.ClassFile.Instr × Nat) : Bool := match o with
  | some y => decide (y = x)
  | none => false
theorem zq_ok {o : Option (Jvm.ClassFile.Instr × Nat)} {x : Jvm.ClassFile.Instr × Nat} (h : zq o x = true) : o = some x := by
  cases o with
  | none => exact False.elim (Bool.false_ne_true h)
  | some y => exact congrArg some (of_decide_eq_true h)
noncomputable def zw : List (Nat × Jvm.ClassFile.Instr × Nat) → List UInt8 → Nat → Bool
  | [], _, _ => true
  | e :: t, l, p => (Nat.beq e.1 p && zq (zd l) e.2) && zw t (l.drop e.2.2) (p + e.2.2)
theorem zw_h {c : ByteArray} {p q : Nat} {x : Jvm.ClassFile.Instr × Nat} {t : List (Nat × Jvm.ClassFile.Instr × Nat)} (h : zw ((q, x) :: t) (c.data.toList.drop p) p = true) : decode c q = .ok x ∧ zw t (c.data.toList.drop (p + x.2)) (p + x.2) = true := by
  have h1 : ((Nat.beq q p && zq (zd (c.data.toList.drop p)) x) && zw t ((c.data.toList.drop p).drop x.2) (p + x.2)) = true := h
  rw [Bool.and_eq_true, Bool.and_eq_true, List.drop_drop] at h1
  have e : q = p := Nat.eq_of_beq_eq_true h1.1.1
  rw [e]
  exact ⟨zd_ok (zq_ok h1.1.2), h1.2⟩
theorem zw_1 {c : ByteArray} {p p0 : Nat} {x0 : Jvm.ClassFile.Instr × Nat} (h : zw [(p0, x0)] (c.data.toList.drop p) p = true) : decode c p0 = .ok x0 := by
  have h0 := (zw_h h).1
  exact h0
theorem zw_2 {c : ByteArray} {p p0 p1 : Nat} {x0 x1 : Jvm.ClassFile.Instr × Nat} (h : zw [(p0, x0), (p1, x1)] (c.data.toList.drop p) p = true) : decode c p0 = .ok x0 ∧ decode c p1 = .ok x1 := by
  have h0 := (zw_h h).1
  replace h := (zw_h h).2
  have h1 := (zw_h h).1
  exact ⟨h0, h1⟩
theorem zw_3 {c : ByteArray} {p p0 p1 p2 : Nat} {x0 x1 x2 : Jvm.ClassFile.Instr × Nat} (h : zw [(p0, x0), (p1, x1), (p2, x2)] (c.data.toList.drop p) p = true) : decode c p0 = .ok x0 ∧ decode c p1 = .ok x1 ∧ decode c p2 = .ok x2 := by
  have h0 := (zw_h h).1
  replace h := (zw_h h).2
  have h1 := (zw_h h).1
  replace h := (zw_h h).2
  have h2 := (zw_h h).1
  exact ⟨h0, h1, h2⟩
theorem zw_4 {c : ByteArray} {p p0 p1 p2 p3 : Nat} {x0 x1 x2 x3 : Jvm.ClassFile.Instr × Nat} (h : zw [(p0, x0), (p1, x1), (p2, x2), (p3, x3)] (c.data.toList.drop p) p = true) : decode c p0 = .ok x0 ∧ decode c p1 = .ok x1 ∧ decode c p2 = .ok x2 ∧ decode c p3 = .ok x3 := by
  have h0 := (zw_h h).1
  replace h := (zw_h h).2
  have h1 := (zw_h h).1
  replace h := (zw_h h).2
  have h2 := (zw_h h).1
  replace h := (zw_h h).2
  have h3 := (zw_h h).1
  exact ⟨h0, h1, h2, h3⟩
theorem zw_5 {c : ByteArray} {p p0 p1 p2 p3 p4 : Nat} {x0 x1 x2 x3 x4 : Jvm.ClassFile.Instr × Nat} (h : zw [(p0, x0), (p1, x1), (p2, x2), (p3, x3), (p4, x4)] (c.data.toList.drop p) p = true) : decode c p0 = .ok x0 ∧ decode c p1 = .ok x1 ∧ decode c p2 = .ok x2 ∧ decode c p3 = .ok x3 ∧ decode c p4 = .ok x4 := by
  have h0 := (zw_h h).1
  replace h := (zw_h h).2
  have h1 := (zw_h h).1
  replace h := (zw_h h).2
  have h2 := (zw_h h).1
  replace h := (zw_h h).2
  have h3 := (zw_h h).1
  replace h := (zw_h h).2
  have h4 := (zw_h h).1
  exact ⟨h0, h1, h2, h3, h4⟩
theorem zw_6 {c : ByteArray} {p p0 p1 p2 p3 p4 p5 : Nat} {x0 x1 x2 x3 x4 x5 : Jvm.ClassFile.Instr × Nat} (h : zw [(p0, x0), (p1, x1), (p2, x2), (p3, x3), (p4, x4), (p5, x5)] (c.data.toList.drop p) p = true) : decode c p0 = .ok x0 ∧ decode c p1 = .ok x1 ∧ decode c p2 = .ok x2 ∧ decode c p3 = .ok x3 ∧ decode c p4 = .ok x4 ∧ decode c p5 = .ok x5 := by
  have h0 := (zw_h h).1
  replace h := (zw_h h).2
  have h1 := (zw_h h).1
  replace h := (zw_h h).2
  have h2 := (zw_h h).1
  replace h := (zw_h h).2
  have h3 := (zw_h h).1
  replace h := (zw_h h).2
  have h4 := (zw_h h).1
  replace h := (zw_h h).2
  have h5 := (zw_h h).1
  exact ⟨h0, h1, h2, h3, h4, h5⟩
theorem zw_7 {c : ByteArray} {p p0 p1 p2 p3 p4 p5 p6 : Nat} {x0 x1 x2 x3 x4 x5 x6 : Jvm.ClassFile.Instr × Nat} (h : zw [(p0, x0), (p1, x1), (p2, x2), (p3, x3), (p4, x4), (p5, x5), (p6, x6)] (c.data.toList.drop p) p = true) : decode c p0 = .ok x0 ∧ decode c p1 = .ok x1 ∧ decode c p2 = .ok x2 ∧ decode c p3 = .ok x3 ∧ decode c p4 = .ok x4 ∧ decode c p5 = .ok x5 ∧ decode c p6 = .ok x6 := by
  have h0 := (zw_h h).1
  replace h := (zw_h h).2
  have h1 := (zw_h h).1
  replace h := (zw_h h).2
  have h2 := (zw_h h).1
  replace h := (zw_h h).2
  have h3 := (zw_h h).1
  replace h := (zw_h h).2
  have h4 := (zw_h h).1
  replace h := (zw_h h).2
  have h5 := (zw_h h).1
  replace h := (zw_h h).2
  have h6 := (zw_h h).1
  exact ⟨h0, h1, h2, h3, h4, h5, h6⟩
theorem zw_8 {c : ByteArray} {p p0 p1 p2 p3 p4 p5 p6 p7 : Nat} {x0 x1 x2 x3 x4 x5 x6 x7 : Jvm.ClassFile.Instr × Nat} (h : zw [(p0, x0), (p1, x1), (p2, x2), (p3, x3), (p4, x4), (p5, x5), (p6, x6), (p7, x7)] (c.data.toList.drop p) p = true) : decode c p0 = .ok x0 ∧ decode c p1 = .ok x1 ∧ decode c p2 = .ok x2 ∧ decode c p3 = .ok x3 ∧ decode c p4 = .ok x4 ∧ decode c p5 = .ok x5 ∧ decode c p6 = .ok x6 ∧ decode c p7 = .ok x7 := by
  have h0 := (zw_h h).1
  replace h := (zw_h h).2
  have h1 := (zw_h h).1
  replace h := (zw_h h).2
  have h2 := (zw_h h).1
  replace h := (zw_h h).2
  have h3 := (zw_h h).1
  replace h := (zw_h h).2
  have h4 := (zw_h h).1
  replace h := (zw_h h).2
  have h5 := (zw_h h).1
  replace h := (zw_h h).2
  have h6 := (zw_h h).1
  replace h := (zw_h h).2
  have h7 := (zw_h h).1
  exact ⟨h0, h1, h2, h3, h4, h5, h6, h7⟩
theorem zw_9 {c : ByteArray} {p p0 p1 p2 p3 p4 p5 p6 p7 p8 : Nat} {x0 x1 x2 x3 x4 x5 x6 x7 x8 : Jvm.ClassFile.Instr × Nat} (h : zw [(p0, x0), (p1, x1), (p2, x2), (p3, x3), (p4, x4), (p5, x5), (p6, x6), (p7, x7), (p8, x8)] (c.data.toList.drop p) p = true) : decode c p0 = .ok x0 ∧ decode c p1 = .ok x1 ∧ decode c p2 = .ok x2 ∧ decode c p3 = .ok x3 ∧ decode c p4 = .ok x4 ∧ decode c p5 = .ok x5 ∧ decode c p6 = .ok x6 ∧ decode c p7 = .ok x7 ∧ decode c p8 = .ok x8 := by
  have h0 := (zw_h h).1
  replace h := (zw_h h).2
  have h1 := (zw_h h).1
  replace h := (zw_h h).2
  have h2 := (zw_h h).1
  replace h := (zw_h h).2
  have h3 := (zw_h h).1
  replace h := (zw_h h).2
  have h4 := (zw_h h).1
  replace h := (zw_h h).2
  have h5 := (zw_h h).1
  replace h := (zw_h h).2
  have h6 := (zw_h h).1
  replace h := (zw_h h).2
  have h7 := (zw_h h).1
  replace h := (zw_h h).2
  have h8 := (zw_h h).1
  exact ⟨h0, h1, h2, h3, h4, h5, h6, h7, h8⟩
theorem zw_10 {c : ByteArray} {p p0 p1 p2 p3 p4 p5 p6 p7 p8 p9 : Nat} {x0 x1 x2 x3 x4 x5 x6 x7 x8 x9 : Jvm.ClassFile.Instr × Nat} (h : zw [(p0, x0), (p1, x1), (p2, x2), (p3, x3), (p4, x4), (p5, x5), (p6, x6), (p7, x7), (p8, x8), (p9, x9)] (c.data.toList.drop p) p = true) : decode c p0 = .ok x0 ∧ decode c p1 = .ok x1 ∧ decode c p2 = .ok x2 ∧ decode c p3 = .ok x3 ∧ decode c p4 = .ok x4 ∧ decode c p5 = .ok x5 ∧ decode c p6 = .ok x6 ∧ decode c p7 = .ok x7 ∧ decode c p8 = .ok x8 ∧ decode c p9 = .ok x9 := by
  have h0 := (zw_h h).1
  replace h := (zw_h h).2
  have h1 := (zw_h h).1
  replace h := (zw_h h).2
  have h2 := (zw_h h).1
  replace h := (zw_h h).2
  have h3 := (zw_h h).1
  replace h := (zw_h h).2
  have h4 := (zw_h h).1
  replace h := (zw_h h).2
  have h5 := (zw_h h).1
  replace h := (zw_h h).2
  have h6 := (zw_h h).1
  replace h := (zw_h h).2
  have h7 := (zw_h h).1
  replace h := (zw_h h).2
  have h8 := (zw_h h).1
  replace h := (zw_h h).2
  have h9 := (zw_h h).1
  exact ⟨h0, h1, h2, h3, h4, h5, h6, h7, h8, h9⟩
theorem zw_11 {c : ByteArray} {p p0 p1 p2 p3 p4 p5 p6 p7 p8 p9 p10 : Nat} {x0 x1 x2 x3 x4 x5 x6 x7 x8 x9 x10 : Jvm.ClassFile.Instr × Nat} (h : zw [(p0, x0), (p1, x1), (p2, x2), (p3, x3), (p4, x4), (p5, x5), (p6, x6), (p7, x7), (p8, x8), (p9, x9), (p10, x10)] (c.data.toList.drop p) p = true) : decode c p0 = .ok x0 ∧ decode c p1 = .ok x1 ∧ decode c p2 = .ok x2 ∧ decode c p3 = .ok x3 ∧ decode c p4 = .ok x4 ∧ decode c p5 = .ok x5 ∧ decode c p6 = .ok x6 ∧ decode c p7 = .ok x7 ∧ decode c p8 = .ok x8 ∧ decode c p9 = .ok x9 ∧ decode c p10 = .ok x10 := by
  have h0 := (zw_h h).1
  replace h := (zw_h h).2
  have h1 := (zw_h h).1
  replace h := (zw_h h).2
  have h2 := (zw_h h).1
  replace h := (zw_h h).2
  have h3 := (zw_h h).1
  replace h := (zw_h h).2
  have h4 := (zw_h h).1
  replace h := (zw_h h).2
  have h5 := (zw_h h).1
  replace h := (zw_h h).2
  have h6 := (zw_h h).1
  replace h := (zw_h h).2
  have h7 := (zw_h h).1
  replace h := (zw_h h).2
  have h8 := (zw_h h).1
  replace h := (zw_h h).2
  have h9 := (zw_h h).1
  replace h := (zw_h h).2
  have h10 := (zw_h h).1
  exact ⟨h0, h1, h2, h3, h4, h5, h6, h7, h8, h9, h10⟩
theorem zw_12 {c : ByteArray} {p p0 p1 p2 p3 p4 p5 p6 p7 p8 p9 p10 p11 : Nat} {x0 x1 x2 x3 x4 x5 x6 x7 x8 x9 x10 x11 : Jvm.ClassFile.Instr × Nat} (h : zw [(p0, x0), (p1, x1), (p2, x2), (p3, x3), (p4, x4), (p5, x5), (p6, x6), (p7, x7), (p8, x8), (p9, x9), (p10, x10), (p11, x11)] (c.data.toList.drop p) p = true) : decode c p0 = .ok x0 ∧ decode c p1 = .ok x1 ∧ decode c p2 = .ok x2 ∧ decode c p3 = .ok x3 ∧ decode c p4 = .ok x4 ∧ decode c p5 = .ok x5 ∧ decode c p6 = .ok x6 ∧ decode c p7 = .ok x7 ∧ decode c p8 = .ok x8 ∧ decode c p9 = .ok x9 ∧ decode c p10 = .ok x10 ∧ decode c p11 = .ok x11 := by
  have h0 := (zw_h h).1
  replace h := (zw_h h).2
  have h1 := (zw_h h).1
  replace h := (zw_h h).2
  have h2 := (zw_h h).1
  replace h := (zw_h h).2
  have h3 := (zw_h h).1
  replace h := (zw_h h).2
  have h4 := (zw_h h).1
  replace h := (zw_h h).2
  have h5 := (zw_h h).1
  replace h := (zw_h h).2
  have h6 := (zw_h h).1
  replace h := (zw_h h).2
  have h7 := (zw_h h).1
  replace h := (zw_h h).2
  have h8 := (zw_h h).1
  replace h := (zw_h h).2
  have h9 := (zw_h h).1
  replace h := (zw_h h).2
  have h10 := (zw_h h).1
  replace h := (zw_h h).2
  have h11 := (zw_h h).1
  exact ⟨h0, h1, h2, h3, h4, h5, h6, h7, h8, h9, h10, h11⟩
theorem zw_13 {c : ByteArray} {p p0 p1 p2 p3 p4 p5 p6 p7 p8 p9 p10 p11 p12 : Nat} {x0 x1 x2 x3 x4 x5 x6 x7 x8 x9 x10 x11 x12 : Jvm.ClassFile.Instr × Nat} (h : zw [(p0, x0), (p1, x1), (p2, x2), (p3, x3), (p4, x4), (p5, x5), (p6, x6), (p7, x7), (p8, x8), (p9, x9), (p10, x10), (p11, x11), (p12, x12)] (c.data.toList.drop p) p = true) : decode c p0 = .ok x0 ∧ decode c p1 = .ok x1 ∧ decode c p2 = .ok x2 ∧ decode c p3 = .ok x3 ∧ decode c p4 = .ok x4 ∧ decode c p5 = .ok x5 ∧ decode c p6 = .ok x6 ∧ decode c p7 = .ok x7 ∧ decode c p8 = .ok x8 ∧ decode c p9 = .ok x9 ∧ decode c p10 = .ok x10 ∧ decode c p11 = .ok x11 ∧ decode c p12 = .ok x12 := by
  have h0 := (zw_h h).1
  replace h := (zw_h h).2
  have h1 := (zw_h h).1
  replace h := (zw_h h).2
  have h2 := (zw_h h).1
  replace h := (zw_h h).2
  have h3 := (zw_h h).1
  replace h := (zw_h h).2
  have h4 := (zw_h h).1
  replace h := (zw_h h).2
  have h5 := (zw_h h).1
  replace h := (zw_h h).2
  have h6 := (zw_h h).1
  replace h := (zw_h h).2
  have h7 := (zw_h h).1
  replace h := (zw_h h).2
  have h8 := (zw_h h).1
  replace h := (zw_h h).2
  have h9 := (zw_h h).1
  replace h := (zw_h h).2
  have h10 := (zw_h h).1
  replace h := (zw_h h).2
  have h11 := (zw_h h).1
  replace h := (zw_h h).2
  have h12 := (zw_h h).1
  exact ⟨h0, h1, h2, h3, h4, h5, h6, h7, h8, h9, h10, h11, h12⟩
theorem zw_14 {c : ByteArray} {p p0 p1 p2 p3 p4 p5 p6 p7 p8 p9 p10 p11 p12 p13 : Nat} {x0 x1 x2 x3 x4 x5 x6 x7 x8 x9 x10 x11 x12 x13 : Jvm.ClassFile.Instr × Nat} (h : zw [(p0, x0), (p1, x1), (p2, x2), (p3, x3), (p4, x4), (p5, x5), (p6, x6), (p7, x7), (p8, x8), (p9, x9), (p10, x10), (p11, x11), (p12, x12), (p13, x13)] (c.data.toList.drop p) p = true) : decode c p0 = .ok x0 ∧ decode c p1 = .ok x1 ∧ decode c p2 = .ok x2 ∧ decode c p3 = .ok x3 ∧ decode c p4 = .ok x4 ∧ decode c p5 = .ok x5 ∧ decode c p6 = .ok x6 ∧ decode c p7 = .ok x7 ∧ decode c p8 = .ok x8 ∧ decode c p9 = .ok x9 ∧ decode c p10 = .ok x10 ∧ decode c p11 = .ok x11 ∧ decode c p12 = .ok x12 ∧ decode c p13 = .ok x13 := by
  have h0 := (zw_h h).1
  replace h := (zw_h h).2
  have h1 := (zw_h h).1
  replace h := (zw_h h).2
  have h2 := (zw_h h).1
  replace h := (zw_h h).2
  have h3 := (zw_h h).1
  replace h := (zw_h h).2
  have h4 := (zw_h h).1
  replace h := (zw_h h).2
  have h5 := (zw_h h).1
  replace h := (zw_h h).2
  have h6 := (zw_h h).1
  replace h := (zw_h h).2
  have h7 := (zw_h h).1
  replace h := (zw_h h).2
  have h8 := (zw_h h).1
  replace h := (zw_h h).2
  have h9 := (zw_h h).1
  replace h := (zw_h h).2
  have h10 := (zw_h h).1
  replace h := (zw_h h).2
  have h11 := (zw_h h).1
  replace h := (zw_h h).2
  have h12 := (zw_h h).1
  replace h := (zw_h h).2
  have h13 := (zw_h h).1
  exact ⟨h0, h1, h2, h3, h4, h5, h6, h7, h8, h9, h10, h11, h12, h13⟩
theorem zw_15 {c : ByteArray} {p p0 p1 p2 p3 p4 p5 p6 p7 p8 p9 p10 p11 p12 p13 p14 : Nat} {x0 x1 x2 x3 x4 x5 x6 x7 x8 x9 x10 x11 x12 x13 x14 : Jvm.ClassFile.Instr × Nat} (h : zw [(p0, x0), (p1, x1), (p2, x2), (p3, x3), (p4, x4), (p5, x5), (p6, x6), (p7, x7), (p8, x8), (p9, x9), (p10, x10), (p11, x11), (p12, x12), (p13, x13), (p14, x14)] (c.data.toList.drop p) p = true) : decode c p0 = .ok x0 ∧ decode c p1 = .ok x1 ∧ decode c p2 = .ok x2 ∧ decode c p3 = .ok x3 ∧ decode c p4 = .ok x4 ∧ decode c p5 = .ok x5 ∧ decode c p6 = .ok x6 ∧ decode c p7 = .ok x7 ∧ decode c p8 = .ok x8 ∧ decode c p9 = .ok x9 ∧ decode c p10 = .ok x10 ∧ decode c p11 = .ok x11 ∧ decode c p12 = .ok x12 ∧ decode c p13 = .ok x13 ∧ decode c p14 = .ok x14 := by
  have h0 := (zw_h h).1
  replace h := (zw_h h).2
  have h1 := (zw_h h).1
  replace h := (zw_h h).2
  have h2 := (zw_h h).1
  replace h := (zw_h h).2
  have h3 := (zw_h h).1
  replace h := (zw_h h).2
  have h4 := (zw_h h).1
  replace h := (zw_h h).2
  have h5 := (zw_h h).1
  replace h := (zw_h h).2
  have h6 := (zw_h h).1
  replace h := (zw_h h).2
  have h7 := (zw_h h).1
  replace h := (zw_h h).2
  have h8 := (zw_h h).1
  replace h := (zw_h h).2
  have h9 := (zw_h h).1
  replace h := (zw_h h).2
  have h10 := (zw_h h).1
  replace h := (zw_h h).2
  have h11 := (zw_h h).1
  replace h := (zw_h h).2
  have h12 := (zw_h h).1
  replace h := (zw_h h).2
  have h13 := (zw_h h).1
  replace h := (zw_h h).2
  have h14 := (zw_h h).1
  exact ⟨h0, h1, h2, h3, h4, h5, h6, h7, h8, h9, h10, h11, h12, h13, h14⟩
theorem zw_16 {c : ByteArray} {p p0 p1 p2 p3 p4 p5 p6 p7 p8 p9 p10 p11 p12 p13 p14 p15 : Nat} {x0 x1 x2 x3 x4 x5 x6 x7 x8 x9 x10 x11 x12 x13 x14 x15 : Jvm.ClassFile.Instr × Nat} (h : zw [(p0, x0), (p1, x1), (p2, x2), (p3, x3), (p4, x4), (p5, x5), (p6, x6), (p7, x7), (p8, x8), (p9, x9), (p10, x10), (p11, x11), (p12, x12), (p13, x13), (p14, x14), (p15, x15)] (c.data.toList.drop p) p = true) : decode c p0 = .ok x0 ∧ decode c p1 = .ok x1 ∧ decode c p2 = .ok x2 ∧ decode c p3 = .ok x3 ∧ decode c p4 = .ok x4 ∧ decode c p5 = .ok x5 ∧ decode c p6 = .ok x6 ∧ decode c p7 = .ok x7 ∧ decode c p8 = .ok x8 ∧ decode c p9 = .ok x9 ∧ decode c p10 = .ok x10 ∧ decode c p11 = .ok x11 ∧ decode c p12 = .ok x12 ∧ decode c p13 = .ok x13 ∧ decode c p14 = .ok x14 ∧ decode c p15 = .ok x15 := by
  have h0 := (zw_h h).1
  replace h := (zw_h h).2
  have h1 := (zw_h h).1
  replace h := (zw_h h).2
  have h2 := (zw_h h).1
  replace h := (zw_h h).2
  have h3 := (zw_h h).1
  replace h := (zw_h h).2
  have h4 := (zw_h h).1
  replace h := (zw_h h).2
  have h5 := (zw_h h).1
  replace h := (zw_h h).2
  have h6 := (zw_h h).1
  replace h := (zw_h h).2
  have h7 := (zw_h h).1
  replace h := (zw_h h).2
  have h8 := (zw_h h).1
  replace h := (zw_h h).2
  have h9 := (zw_h h).1
  replace h := (zw_h h).2
  have h10 := (zw_h h).1
  replace h := (zw_h h).2
  have h11 := (zw_h h).1
  replace h := (zw_h h).2
  have h12 := (zw_h h).1
  replace h := (zw_h h).2
  have h13 := (zw_h h).1
  replace h := (zw_h h).2
  have h14 := (zw_h h).1
  replace h := (zw_h h).2
  have h15 := (zw_h h).1
  exact ⟨h0, h1, h2, h3, h4, h5, h6, h7, h8, h9, h10, h11, h12, h13, h14, h15⟩
set_option maxRecDepth 100000 in
theorem db_cX9_knock_dX9_knock_0_0 : zw [(0, .aload_n 0, 1), (1, .dup, 1), (2, .getfield 252, 3), (5, .iconst 1, 1), (6, .iadd, 1), (7, .putfield 252, 3), (10, .aload_n 0, 1), (11, .getfield 252, 3), (14, .ireturn, 1)] (cX9_knock.data.toList.drop 0) 0 = true := by decide +kernel
def dc_cX9_knock_dX9_knock_0_0 := zw_9 db_cX9_knock_dX9_knock_0_0
def dX9_knock_0 := dc_cX9_knock_dX9_knock_0_0.1
def dX9_knock_1 := dc_cX9_knock_dX9_knock_0_0.2.1
def dX9_knock_2 := dc_cX9_knock_dX9_knock_0_0.2.2.1
def dX9_knock_5 := dc_cX9_knock_dX9_knock_0_0.2.2.2.1
def dX9_knock_6 := dc_cX9_knock_dX9_knock_0_0.2.2.2.2.1
def dX9_knock_7 := dc_cX9_knock_dX9_knock_0_0.2.2.2.2.2.1
def dX9_knock_10 := dc_cX9_knock_dX9_knock_0_0.2.2.2.2.2.2.1
def dX9_knock_11 := dc_cX9_knock_dX9_knock_0_0.2.2.2.2.2.2.2.1
def dX9_knock_14 := dc_cX9_knock_dX9_knock_0_0.2.2.2.2.2.2.2.2
set_option maxRecDepth 100000 in
theorem db_cX9_countCodes_dX9_countCodes_0_0 : zw [(0, .iconst 1, 1), (1, .istore_n 1, 1), (2, .iconst 0, 1), (3, .istore_n 2, 1), (4, .iload_n 2, 1), (5, .iload_n 0, 1), (6, .if_icmp .ge 13, 3), (9, .iload_n 1, 1), (10, .iconst 3, 1), (11, .imul, 1), (12, .istore_n 1, 1), (13, .iinc 2 1, 3), (16, .goto (-12), 3), (19, .iload_n 1, 1), (20, .ireturn, 1)] (cX9_countCodes.data.toList.drop 0) 0 = true := by decide +kernel
def dc_cX9_countCodes_dX9_countCodes_0_0 := zw_15 db_cX9_countCodes_dX9_countCodes_0_0
def dX9_countCodes_0 := dc_cX9_countCodes_dX9_countCodes_0_0.1
def dX9_countCodes_1 := dc_cX9_countCodes_dX9_countCodes_0_0.2.1
def dX9_countCodes_2 := dc_cX9_countCodes_dX9_countCodes_0_0.2.2.1
def dX9_countCodes_3 := dc_cX9_countCodes_dX9_countCodes_0_0.2.2.2.1
def dX9_countCodes_4 := dc_cX9_countCodes_dX9_countCodes_0_0.2.2.2.2.1
def dX9_countCodes_5 := dc_cX9_countCodes_dX9_countCodes_0_0.2.2.2.2.2.1
def dX9_countCodes_6 := dc_cX9_countCodes_dX9_countCodes_0_0.2.2.2.2.2.2.1
def dX9_countCodes_9 := dc_cX9_countCodes_dX9_countCodes_0_0.2.2.2.2.2.2.2.1
def dX9_countCodes_10 := dc_cX9_countCodes_dX9_countCodes_0_0.2.2.2.2.2.2.2.2.1
def dX9_countCodes_11 := dc_cX9_countCodes_dX9_countCodes_0_0.2.2.2.2.2.2.2.2.2.1
def dX9_countCodes_12 := dc_cX9_countCodes_dX9_countCodes_0_0.2.2.2.2.2.2.2.2.2.2.1
def dX9_countCodes_13 := dc_cX9_countCodes_dX9_countCodes_0_0.2.2.2.2.2.2.2.2.2.2.2.1
def dX9_countCodes_16 := dc_cX9_countCodes_dX9_countCodes_0_0.2.2.2.2.2.2.2.2.2.2.2.2.1
def dX9_countCodes_19 := dc_cX9_countCodes_dX9_countCodes_0_0.2.2.2.2.2.2.2.2.2.2.2.2.2.1
def dX9_countCodes_20 := dc_cX9_countCodes_dX9_countCodes_0_0.2.2.2.2.2.2.2.2.2.2.2.2.2.2
set_option maxRecDepth 100000 in
theorem db_cX9_isIn_dX9_isIn_0_0 : zw [(0, .iload_n 0, 1), (1, .iload_n 1, 1), (2, .ishr, 1), (3, .iconst 1, 1), (4, .iand, 1), (5, .ifCond .eq 7, 3), (8, .iconst 1, 1), (9, .goto 4, 3), (12, .iconst 0, 1), (13, .ireturn, 1)] (cX9_isIn.data.toList.drop 0) 0 = true := by decide +kernel
def dc_cX9_isIn_dX9_isIn_0_0 := zw_10 db_cX9_isIn_dX9_isIn_0_0
def dX9_isIn_0 := dc_cX9_isIn_dX9_isIn_0_0.1
def dX9_isIn_1 := dc_cX9_isIn_dX9_isIn_0_0.2.1
def dX9_isIn_2 := dc_cX9_isIn_dX9_isIn_0_0.2.2.1
def dX9_isIn_3 := dc_cX9_isIn_dX9_isIn_0_0.2.2.2.1
def dX9_isIn_4 := dc_cX9_isIn_dX9_isIn_0_0.2.2.2.2.1
def dX9_isIn_5 := dc_cX9_isIn_dX9_isIn_0_0.2.2.2.2.2.1
def dX9_isIn_8 := dc_cX9_isIn_dX9_isIn_0_0.2.2.2.2.2.2.1
def dX9_isIn_9 := dc_cX9_isIn_dX9_isIn_0_0.2.2.2.2.2.2.2.1
def dX9_isIn_12 := dc_cX9_isIn_dX9_isIn_0_0.2.2.2.2.2.2.2.2.1
def dX9_isIn_13 := dc_cX9_isIn_dX9_isIn_0_0.2.2.2.2.2.2.2.2.2
set_option maxRecDepth 100000 in
theorem db_cX9_withOrWithout_dX9_withOrWithout_0_0 : zw [(0, .iload_n 2, 1), (1, .ifCond .eq 11, 3), (4, .iload_n 0, 1), (5, .iconst 1, 1), (6, .iload_n 1, 1), (7, .ishl, 1), (8, .ior, 1), (9, .goto 10, 3), (12, .iload_n 0, 1), (13, .iconst 1, 1), (14, .iload_n 1, 1), (15, .ishl, 1), (16, .iconst (-1), 1), (17, .ixor, 1), (18, .iand, 1), (19, .ireturn, 1)] (cX9_withOrWithout.data.toList.drop 0) 0 = true := by decide +kernel
def dc_cX9_withOrWithout_dX9_withOrWithout_0_0 := zw_16 db_cX9_withOrWithout_dX9_withOrWithout_0_0
def dX9_withOrWithout_0 := dc_cX9_withOrWithout_dX9_withOrWithout_0_0.1
def dX9_withOrWithout_1 := dc_cX9_withOrWithout_dX9_withOrWithout_0_0.2.1
def dX9_withOrWithout_4 := dc_cX9_withOrWithout_dX9_withOrWithout_0_0.2.2.1
def dX9_withOrWithout_5 := dc_cX9_withOrWithout_dX9_withOrWithout_0_0.2.2.2.1
def dX9_withOrWithout_6 := dc_cX9_withOrWithout_dX9_withOrWithout_0_0.2.2.2.2.1
def dX9_withOrWithout_7 := dc_cX9_withOrWithout_dX9_withOrWithout_0_0.2.2.2.2.2.1
def dX9_withOrWithout_8 := dc_cX9_withOrWithout_dX9_withOrWithout_0_0.2.2.2.2.2.2.1
def dX9_withOrWithout_9 := dc_cX9_withOrWithout_dX9_withOrWithout_0_0.2.2.2.2.2.2.2.1
def dX9_withOrWithout_12 := dc_cX9_withOrWithout_dX9_withOrWithout_0_0.2.2.2.2.2.2.2.2.1
def dX9_withOrWithout_13 := dc_cX9_withOrWithout_dX9_withOrWithout_0_0.2.2.2.2.2.2.2.2.2.1
def dX9_withOrWithout_14 := dc_cX9_withOrWithout_dX9_withOrWithout_0_0.2.2.2.2.2.2.2.2.2.2.1
def dX9_withOrWithout_15 := dc_cX9_withOrWithout_dX9_withOrWithout_0_0.2.2.2.2.2.2.2.2.2.2.2.1
def dX9_withOrWithout_16 := dc_cX9_withOrWithout_dX9_withOrWithout_0_0.2.2.2.2.2.2.2.2.2.2.2.2.1
def dX9_withOrWithout_17 := dc_cX9_withOrWithout_dX9_withOrWithout_0_0.2.2.2.2.2.2.2.2.2.2.2.2.2.1
def dX9_withOrWithout_18 := dc_cX9_withOrWithout_dX9_withOrWithout_0_0.2.2.2.2.2.2.2.2.2.2.2.2.2.2.1
def dX9_withOrWithout_19 := dc_cX9_withOrWithout_dX9_withOrWithout_0_0.2.2.2.2.2.2.2.2.2.2.2.2.2.2.2
set_option maxRecDepth 100000 in
theorem db_cX9_letterOf_dX9_letterOf_0_0 : zw [(0, .bipush 97, 2), (2, .iload_n 0, 1), (3, .iadd, 1), (4, .i2c, 1), (5, .ireturn, 1)] (cX9_letterOf.data.toList.drop 0) 0 = true := by decide +kernel
def dc_cX9_letterOf_dX9_letterOf_0_0 := zw_5 db_cX9_letterOf_dX9_letterOf_0_0
def dX9_letterOf_0 := dc_cX9_letterOf_dX9_letterOf_0_0.1
def dX9_letterOf_2 := dc_cX9_letterOf_dX9_letterOf_0_0.2.1
def dX9_letterOf_3 := dc_cX9_letterOf_dX9_letterOf_0_0.2.2.1
def dX9_letterOf_4 := dc_cX9_letterOf_dX9_letterOf_0_0.2.2.2.1
def dX9_letterOf_5 := dc_cX9_letterOf_dX9_letterOf_0_0.2.2.2.2
set_option maxRecDepth 100000 in
theorem db_cX9_acted_dX9_acted_0_0 : zw [(0, .aload_n 0, 1), (1, .dup, 1), (2, .getfield 246, 3), (5, .iconst 1, 1), (6, .iadd, 1), (7, .putfield 246, 3), (10, .iload_n 1, 1), (11, .ireturn, 1)] (cX9_acted.data.toList.drop 0) 0 = true := by decide +kernel
def dc_cX9_acted_dX9_acted_0_0 := zw_8 db_cX9_acted_dX9_acted_0_0
def dX9_acted_0 := dc_cX9_acted_dX9_acted_0_0.1
def dX9_acted_1 := dc_cX9_acted_dX9_acted_0_0.2.1
def dX9_acted_2 := dc_cX9_acted_dX9_acted_0_0.2.2.1
def dX9_acted_5 := dc_cX9_acted_dX9_acted_0_0.2.2.2.1
def dX9_acted_6 := dc_cX9_acted_dX9_acted_0_0.2.2.2.2.1
def dX9_acted_7 := dc_cX9_acted_dX9_acted_0_0.2.2.2.2.2.1
def dX9_acted_10 := dc_cX9_acted_dX9_acted_0_0.2.2.2.2.2.2.1
def dX9_acted_11 := dc_cX9_acted_dX9_acted_0_0.2.2.2.2.2.2.2
set_option maxRecDepth 100000 in
theorem db_cX9_refuse_dX9_refuse_0_0 : zw [(0, .aload_n 0, 1), (1, .dup, 1), (2, .getfield 249, 3), (5, .iconst 1, 1), (6, .iadd, 1), (7, .putfield 249, 3), (10, .bipush (-9), 2), (12, .ireturn, 1)] (cX9_refuse.data.toList.drop 0) 0 = true := by decide +kernel
def dc_cX9_refuse_dX9_refuse_0_0 := zw_8 db_cX9_refuse_dX9_refuse_0_0
def dX9_refuse_0 := dc_cX9_refuse_dX9_refuse_0_0.1
def dX9_refuse_1 := dc_cX9_refuse_dX9_refuse_0_0.2.1
def dX9_refuse_2 := dc_cX9_refuse_dX9_refuse_0_0.2.2.1
def dX9_refuse_5 := dc_cX9_refuse_dX9_refuse_0_0.2.2.2.1
def dX9_refuse_6 := dc_cX9_refuse_dX9_refuse_0_0.2.2.2.2.1
def dX9_refuse_7 := dc_cX9_refuse_dX9_refuse_0_0.2.2.2.2.2.1
def dX9_refuse_10 := dc_cX9_refuse_dX9_refuse_0_0.2.2.2.2.2.2.1
def dX9_refuse_12 := dc_cX9_refuse_dX9_refuse_0_0.2.2.2.2.2.2.2
set_option maxRecDepth 100000 in
theorem db_cX7_at_dX7_at_0_0 : zw [(0, .iload_n 1, 1), (1, .iconst 3, 1), (2, .imul, 1), (3, .iload_n 2, 1), (4, .iadd, 1), (5, .istore_n 3, 1), (6, .iload_n 3, 1), (7, .ifCond .lt 21, 3), (10, .iload_n 3, 1), (11, .aload_n 0, 1), (12, .getfield 15, 3), (15, .arraylength, 1), (16, .if_icmp .ge 12, 3), (19, .aload_n 0, 1), (20, .getfield 15, 3), (23, .iload_n 3, 1)] (cX7_at.data.toList.drop 0) 0 = true := by decide +kernel
def dc_cX7_at_dX7_at_0_0 := zw_16 db_cX7_at_dX7_at_0_0
def dX7_at_0 := dc_cX7_at_dX7_at_0_0.1
def dX7_at_1 := dc_cX7_at_dX7_at_0_0.2.1
def dX7_at_2 := dc_cX7_at_dX7_at_0_0.2.2.1
def dX7_at_3 := dc_cX7_at_dX7_at_0_0.2.2.2.1
def dX7_at_4 := dc_cX7_at_dX7_at_0_0.2.2.2.2.1
def dX7_at_5 := dc_cX7_at_dX7_at_0_0.2.2.2.2.2.1
def dX7_at_6 := dc_cX7_at_dX7_at_0_0.2.2.2.2.2.2.1
def dX7_at_7 := dc_cX7_at_dX7_at_0_0.2.2.2.2.2.2.2.1
def dX7_at_10 := dc_cX7_at_dX7_at_0_0.2.2.2.2.2.2.2.2.1
def dX7_at_11 := dc_cX7_at_dX7_at_0_0.2.2.2.2.2.2.2.2.2.1
def dX7_at_12 := dc_cX7_at_dX7_at_0_0.2.2.2.2.2.2.2.2.2.2.1
def dX7_at_15 := dc_cX7_at_dX7_at_0_0.2.2.2.2.2.2.2.2.2.2.2.1
def dX7_at_16 := dc_cX7_at_dX7_at_0_0.2.2.2.2.2.2.2.2.2.2.2.2.1
def dX7_at_19 := dc_cX7_at_dX7_at_0_0.2.2.2.2.2.2.2.2.2.2.2.2.2.1
def dX7_at_20 := dc_cX7_at_dX7_at_0_0.2.2.2.2.2.2.2.2.2.2.2.2.2.2.1
def dX7_at_23 := dc_cX7_at_dX7_at_0_0.2.2.2.2.2.2.2.2.2.2.2.2.2.2.2
set_option maxRecDepth 100000 in
theorem db_cX7_at_dX7_at_24_1 : zw [(24, .iaload, 1), (25, .goto 4, 3), (28, .iconst 0, 1), (29, .ireturn, 1)] (cX7_at.data.toList.drop 24) 24 = true := by decide +kernel
def dc_cX7_at_dX7_at_24_1 := zw_4 db_cX7_at_dX7_at_24_1
def dX7_at_24 := dc_cX7_at_dX7_at_24_1.1
def dX7_at_25 := dc_cX7_at_dX7_at_24_1.2.1
def dX7_at_28 := dc_cX7_at_dX7_at_24_1.2.2.1
def dX7_at_29 := dc_cX7_at_dX7_at_24_1.2.2.2
set_option maxRecDepth 100000 in
theorem db_cX7_put_dX7_put_0_0 : zw [(0, .iload_n 1, 1), (1, .iconst 3, 1), (2, .imul, 1), (3, .iload_n 2, 1), (4, .iadd, 1), (5, .istore 4, 2), (7, .iload 4, 2), (9, .ifCond .lt 21, 3), (12, .iload 4, 2), (14, .aload_n 0, 1), (15, .getfield 15, 3), (18, .arraylength, 1), (19, .if_icmp .ge 11, 3), (22, .aload_n 0, 1), (23, .getfield 15, 3), (26, .iload 4, 2)] (cX7_put.data.toList.drop 0) 0 = true := by decide +kernel
def dc_cX7_put_dX7_put_0_0 := zw_16 db_cX7_put_dX7_put_0_0
def dX7_put_0 := dc_cX7_put_dX7_put_0_0.1
def dX7_put_1 := dc_cX7_put_dX7_put_0_0.2.1
def dX7_put_2 := dc_cX7_put_dX7_put_0_0.2.2.1
def dX7_put_3 := dc_cX7_put_dX7_put_0_0.2.2.2.1
def dX7_put_4 := dc_cX7_put_dX7_put_0_0.2.2.2.2.1
def dX7_put_5 := dc_cX7_put_dX7_put_0_0.2.2.2.2.2.1
def dX7_put_7 := dc_cX7_put_dX7_put_0_0.2.2.2.2.2.2.1
def dX7_put_9 := dc_cX7_put_dX7_put_0_0.2.2.2.2.2.2.2.1
def dX7_put_12 := dc_cX7_put_dX7_put_0_0.2.2.2.2.2.2.2.2.1
def dX7_put_14 := dc_cX7_put_dX7_put_0_0.2.2.2.2.2.2.2.2.2.1
def dX7_put_15 := dc_cX7_put_dX7_put_0_0.2.2.2.2.2.2.2.2.2.2.1
def dX7_put_18 := dc_cX7_put_dX7_put_0_0.2.2.2.2.2.2.2.2.2.2.2.1
def dX7_put_19 := dc_cX7_put_dX7_put_0_0.2.2.2.2.2.2.2.2.2.2.2.2.1
def dX7_put_22 := dc_cX7_put_dX7_put_0_0.2.2.2.2.2.2.2.2.2.2.2.2.2.1
def dX7_put_23 := dc_cX7_put_dX7_put_0_0.2.2.2.2.2.2.2.2.2.2.2.2.2.2.1
def dX7_put_26 := dc_cX7_put_dX7_put_0_0.2.2.2.2.2.2.2.2.2.2.2.2.2.2.2
set_option maxRecDepth 100000 in
theorem db_cX7_put_dX7_put_28_1 : zw [(28, .iload_n 3, 1), (29, .iastore, 1), (30, .return_, 1)] (cX7_put.data.toList.drop 28) 28 = true := by decide +kernel
def dc_cX7_put_dX7_put_28_1 := zw_3 db_cX7_put_dX7_put_28_1
def dX7_put_28 := dc_cX7_put_dX7_put_28_1.1
def dX7_put_29 := dc_cX7_put_dX7_put_28_1.2.1
def dX7_put_30 := dc_cX7_put_dX7_put_28_1.2.2
set_option maxRecDepth 100000 in
theorem db_cX2_becomePlain_dX2_becomePlain_0_0 : zw [(0, .aload_n 0, 1), (1, .aload_n 1, 1), (2, .getfield 57, 3), (5, .putfield 15, 3), (8, .aload_n 0, 1), (9, .iconst 1, 1), (10, .putfield 9, 3), (13, .aload_n 0, 1), (14, .aload_n 1, 1), (15, .getfield 60, 3), (18, .putfield 18, 3), (21, .iconst 0, 1), (22, .istore_n 2, 1), (23, .iload_n 2, 1), (24, .aload_n 0, 1), (25, .getfield 15, 3)] (cX2_becomePlain.data.toList.drop 0) 0 = true := by decide +kernel
def dc_cX2_becomePlain_dX2_becomePlain_0_0 := zw_16 db_cX2_becomePlain_dX2_becomePlain_0_0
def dX2_becomePlain_0 := dc_cX2_becomePlain_dX2_becomePlain_0_0.1
def dX2_becomePlain_1 := dc_cX2_becomePlain_dX2_becomePlain_0_0.2.1
def dX2_becomePlain_2 := dc_cX2_becomePlain_dX2_becomePlain_0_0.2.2.1
def dX2_becomePlain_5 := dc_cX2_becomePlain_dX2_becomePlain_0_0.2.2.2.1
def dX2_becomePlain_8 := dc_cX2_becomePlain_dX2_becomePlain_0_0.2.2.2.2.1
def dX2_becomePlain_9 := dc_cX2_becomePlain_dX2_becomePlain_0_0.2.2.2.2.2.1
def dX2_becomePlain_10 := dc_cX2_becomePlain_dX2_becomePlain_0_0.2.2.2.2.2.2.1
def dX2_becomePlain_13 := dc_cX2_becomePlain_dX2_becomePlain_0_0.2.2.2.2.2.2.2.1
def dX2_becomePlain_14 := dc_cX2_becomePlain_dX2_becomePlain_0_0.2.2.2.2.2.2.2.2.1
def dX2_becomePlain_15 := dc_cX2_becomePlain_dX2_becomePlain_0_0.2.2.2.2.2.2.2.2.2.1
def dX2_becomePlain_18 := dc_cX2_becomePlain_dX2_becomePlain_0_0.2.2.2.2.2.2.2.2.2.2.1
def dX2_becomePlain_21 := dc_cX2_becomePlain_dX2_becomePlain_0_0.2.2.2.2.2.2.2.2.2.2.2.1
def dX2_becomePlain_22 := dc_cX2_becomePlain_dX2_becomePlain_0_0.2.2.2.2.2.2.2.2.2.2.2.2.1
def dX2_becomePlain_23 := dc_cX2_becomePlain_dX2_becomePlain_0_0.2.2.2.2.2.2.2.2.2.2.2.2.2.1
def dX2_becomePlain_24 := dc_cX2_becomePlain_dX2_becomePlain_0_0.2.2.2.2.2.2.2.2.2.2.2.2.2.2.1
def dX2_becomePlain_25 := dc_cX2_becomePlain_dX2_becomePlain_0_0.2.2.2.2.2.2.2.2.2.2.2.2.2.2.2
set_option maxRecDepth 100000 in
theorem db_cX2_becomePlain_dX2_becomePlain_28_1 : zw [(28, .if_icmp .ge 36, 3), (31, .iconst 0, 1), (32, .istore_n 3, 1), (33, .iload_n 3, 1), (34, .iconst 3, 1), (35, .if_icmp .ge 23, 3), (38, .aload_n 0, 1), (39, .iload_n 2, 1), (40, .iload_n 3, 1), (41, .iconst 1, 1), (42, .aload_n 1, 1), (43, .iload_n 2, 1), (44, .iload_n 3, 1), (45, .invokevirtual 61, 3), (48, .ishl, 1), (49, .invokevirtual 43, 3)] (cX2_becomePlain.data.toList.drop 28) 28 = true := by decide +kernel
def dc_cX2_becomePlain_dX2_becomePlain_28_1 := zw_16 db_cX2_becomePlain_dX2_becomePlain_28_1
def dX2_becomePlain_28 := dc_cX2_becomePlain_dX2_becomePlain_28_1.1
def dX2_becomePlain_31 := dc_cX2_becomePlain_dX2_becomePlain_28_1.2.1
def dX2_becomePlain_32 := dc_cX2_becomePlain_dX2_becomePlain_28_1.2.2.1
def dX2_becomePlain_33 := dc_cX2_becomePlain_dX2_becomePlain_28_1.2.2.2.1
def dX2_becomePlain_34 := dc_cX2_becomePlain_dX2_becomePlain_28_1.2.2.2.2.1
def dX2_becomePlain_35 := dc_cX2_becomePlain_dX2_becomePlain_28_1.2.2.2.2.2.1
def dX2_becomePlain_38 := dc_cX2_becomePlain_dX2_becomePlain_28_1.2.2.2.2.2.2.1
def dX2_becomePlain_39 := dc_cX2_becomePlain_dX2_becomePlain_28_1.2.2.2.2.2.2.2.1
def dX2_becomePlain_40 := dc_cX2_becomePlain_dX2_becomePlain_28_1.2.2.2.2.2.2.2.2.1
def dX2_becomePlain_41 := dc_cX2_becomePlain_dX2_becomePlain_28_1.2.2.2.2.2.2.2.2.2.1
def dX2_becomePlain_42 := dc_cX2_becomePlain_dX2_becomePlain_28_1.2.2.2.2.2.2.2.2.2.2.1
def dX2_becomePlain_43 := dc_cX2_becomePlain_dX2_becomePlain_28_1.2.2.2.2.2.2.2.2.2.2.2.1
def dX2_becomePlain_44 := dc_cX2_becomePlain_dX2_becomePlain_28_1.2.2.2.2.2.2.2.2.2.2.2.2.1
def dX2_becomePlain_45 := dc_cX2_becomePlain_dX2_becomePlain_28_1.2.2.2.2.2.2.2.2.2.2.2.2.2.1
def dX2_becomePlain_48 := dc_cX2_becomePlain_dX2_becomePlain_28_1.2.2.2.2.2.2.2.2.2.2.2.2.2.2.1
def dX2_becomePlain_49 := dc_cX2_becomePlain_dX2_becomePlain_28_1.2.2.2.2.2.2.2.2.2.2.2.2.2.2.2
set_option maxRecDepth 100000 in
theorem db_cX2_becomePlain_dX2_becomePlain_52_2 : zw [(52, .iinc 3 1, 3), (55, .goto (-22), 3), (58, .iinc 2 1, 3), (61, .goto (-38), 3), (64, .return_, 1)] (cX2_becomePlain.data.toList.drop 52) 52 = true := by decide +kernel
def dc_cX2_becomePlain_dX2_becomePlain_52_2 := zw_5 db_cX2_becomePlain_dX2_becomePlain_52_2
def dX2_becomePlain_52 := dc_cX2_becomePlain_dX2_becomePlain_52_2.1
def dX2_becomePlain_55 := dc_cX2_becomePlain_dX2_becomePlain_52_2.2.1
def dX2_becomePlain_58 := dc_cX2_becomePlain_dX2_becomePlain_52_2.2.2.1
def dX2_becomePlain_61 := dc_cX2_becomePlain_dX2_becomePlain_52_2.2.2.2.1
def dX2_becomePlain_64 := dc_cX2_becomePlain_dX2_becomePlain_52_2.2.2.2.2
set_option maxRecDepth 100000 in
theorem db_cX9_becomeMade_dX9_becomeMade_0_0 : zw [(0, .aload_n 0, 1), (1, .getfield 66, 3), (4, .getfield 190, 3), (7, .bipush 7, 2), (9, .if_icmp .le 8, 3), (12, .aload_n 0, 1), (13, .invokevirtual 145, 3), (16, .ireturn, 1), (17, .aload_n 1, 1), (18, .aload_n 0, 1), (19, .getfield 66, 3), (22, .invokevirtual 255, 3), (25, .aload_n 0, 1), (26, .aload_n 0, 1), (27, .getfield 66, 3), (30, .getfield 190, 3)] (cX9_becomeMade.data.toList.drop 0) 0 = true := by decide +kernel
def dc_cX9_becomeMade_dX9_becomeMade_0_0 := zw_16 db_cX9_becomeMade_dX9_becomeMade_0_0
def dX9_becomeMade_0 := dc_cX9_becomeMade_dX9_becomeMade_0_0.1
def dX9_becomeMade_1 := dc_cX9_becomeMade_dX9_becomeMade_0_0.2.1
def dX9_becomeMade_4 := dc_cX9_becomeMade_dX9_becomeMade_0_0.2.2.1
def dX9_becomeMade_7 := dc_cX9_becomeMade_dX9_becomeMade_0_0.2.2.2.1
def dX9_becomeMade_9 := dc_cX9_becomeMade_dX9_becomeMade_0_0.2.2.2.2.1
def dX9_becomeMade_12 := dc_cX9_becomeMade_dX9_becomeMade_0_0.2.2.2.2.2.1
def dX9_becomeMade_13 := dc_cX9_becomeMade_dX9_becomeMade_0_0.2.2.2.2.2.2.1
def dX9_becomeMade_16 := dc_cX9_becomeMade_dX9_becomeMade_0_0.2.2.2.2.2.2.2.1
def dX9_becomeMade_17 := dc_cX9_becomeMade_dX9_becomeMade_0_0.2.2.2.2.2.2.2.2.1
def dX9_becomeMade_18 := dc_cX9_becomeMade_dX9_becomeMade_0_0.2.2.2.2.2.2.2.2.2.1
def dX9_becomeMade_19 := dc_cX9_becomeMade_dX9_becomeMade_0_0.2.2.2.2.2.2.2.2.2.2.1
def dX9_becomeMade_22 := dc_cX9_becomeMade_dX9_becomeMade_0_0.2.2.2.2.2.2.2.2.2.2.2.1
def dX9_becomeMade_25 := dc_cX9_becomeMade_dX9_becomeMade_0_0.2.2.2.2.2.2.2.2.2.2.2.2.1
def dX9_becomeMade_26 := dc_cX9_becomeMade_dX9_becomeMade_0_0.2.2.2.2.2.2.2.2.2.2.2.2.2.1
def dX9_becomeMade_27 := dc_cX9_becomeMade_dX9_becomeMade_0_0.2.2.2.2.2.2.2.2.2.2.2.2.2.2.1
def dX9_becomeMade_30 := dc_cX9_becomeMade_dX9_becomeMade_0_0.2.2.2.2.2.2.2.2.2.2.2.2.2.2.2
set_option maxRecDepth 100000 in
theorem db_cX9_becomeMade_dX9_becomeMade_33_1 : zw [(33, .invokevirtual 84, 3), (36, .ireturn, 1)] (cX9_becomeMade.data.toList.drop 33) 33 = true := by decide +kernel
def dc_cX9_becomeMade_dX9_becomeMade_33_1 := zw_2 db_cX9_becomeMade_dX9_becomeMade_33_1
def dX9_becomeMade_33 := dc_cX9_becomeMade_dX9_becomeMade_33_1.1
def dX9_becomeMade_36 := dc_cX9_becomeMade_dX9_becomeMade_33_1.2
set_option maxRecDepth 100000 in
theorem db_cX6_put_dX6_put_0_0 : zw [(0, .iload_n 1, 1), (1, .ifCond .lt 19, 3), (4, .iload_n 1, 1), (5, .aload_n 0, 1), (6, .getfield 9, 3), (9, .arraylength, 1), (10, .if_icmp .ge 10, 3), (13, .aload_n 0, 1), (14, .getfield 9, 3), (17, .iload_n 1, 1), (18, .iload_n 2, 1), (19, .iastore, 1), (20, .return_, 1)] (cX6_put.data.toList.drop 0) 0 = true := by decide +kernel
def dc_cX6_put_dX6_put_0_0 := zw_13 db_cX6_put_dX6_put_0_0
def dX6_put_0 := dc_cX6_put_dX6_put_0_0.1
def dX6_put_1 := dc_cX6_put_dX6_put_0_0.2.1
def dX6_put_4 := dc_cX6_put_dX6_put_0_0.2.2.1
def dX6_put_5 := dc_cX6_put_dX6_put_0_0.2.2.2.1
def dX6_put_6 := dc_cX6_put_dX6_put_0_0.2.2.2.2.1
def dX6_put_9 := dc_cX6_put_dX6_put_0_0.2.2.2.2.2.1
def dX6_put_10 := dc_cX6_put_dX6_put_0_0.2.2.2.2.2.2.1
def dX6_put_13 := dc_cX6_put_dX6_put_0_0.2.2.2.2.2.2.2.1
def dX6_put_14 := dc_cX6_put_dX6_put_0_0.2.2.2.2.2.2.2.2.1
def dX6_put_17 := dc_cX6_put_dX6_put_0_0.2.2.2.2.2.2.2.2.2.1
def dX6_put_18 := dc_cX6_put_dX6_put_0_0.2.2.2.2.2.2.2.2.2.2.1
def dX6_put_19 := dc_cX6_put_dX6_put_0_0.2.2.2.2.2.2.2.2.2.2.2.1
def dX6_put_20 := dc_cX6_put_dX6_put_0_0.2.2.2.2.2.2.2.2.2.2.2.2
set_option maxRecDepth 100000 in
theorem db_cX6_at_dX6_at_0_0 : zw [(0, .iload_n 1, 1), (1, .ifCond .lt 21, 3), (4, .iload_n 1, 1), (5, .aload_n 0, 1), (6, .getfield 9, 3), (9, .arraylength, 1), (10, .if_icmp .ge 12, 3), (13, .aload_n 0, 1), (14, .getfield 9, 3), (17, .iload_n 1, 1), (18, .iaload, 1), (19, .goto 4, 3), (22, .iconst 0, 1), (23, .ireturn, 1)] (cX6_at.data.toList.drop 0) 0 = true := by decide +kernel
def dc_cX6_at_dX6_at_0_0 := zw_14 db_cX6_at_dX6_at_0_0
def dX6_at_0 := dc_cX6_at_dX6_at_0_0.1
def dX6_at_1 := dc_cX6_at_dX6_at_0_0.2.1
def dX6_at_4 := dc_cX6_at_dX6_at_0_0.2.2.1
def dX6_at_5 := dc_cX6_at_dX6_at_0_0.2.2.2.1
def dX6_at_6 := dc_cX6_at_dX6_at_0_0.2.2.2.2.1
def dX6_at_9 := dc_cX6_at_dX6_at_0_0.2.2.2.2.2.1
def dX6_at_10 := dc_cX6_at_dX6_at_0_0.2.2.2.2.2.2.1
def dX6_at_13 := dc_cX6_at_dX6_at_0_0.2.2.2.2.2.2.2.1
def dX6_at_14 := dc_cX6_at_dX6_at_0_0.2.2.2.2.2.2.2.2.1
def dX6_at_17 := dc_cX6_at_dX6_at_0_0.2.2.2.2.2.2.2.2.2.1
def dX6_at_18 := dc_cX6_at_dX6_at_0_0.2.2.2.2.2.2.2.2.2.2.1
def dX6_at_19 := dc_cX6_at_dX6_at_0_0.2.2.2.2.2.2.2.2.2.2.2.1
def dX6_at_22 := dc_cX6_at_dX6_at_0_0.2.2.2.2.2.2.2.2.2.2.2.2.1
def dX6_at_23 := dc_cX6_at_dX6_at_0_0.2.2.2.2.2.2.2.2.2.2.2.2.2
set_option maxRecDepth 100000 in
theorem db_cX2_reach_dX2_reach_0_0 : zw [(0, .iconst 0, 1), (1, .istore_n 3, 1), (2, .iconst 0, 1), (3, .istore 4, 2), (5, .iload 4, 2), (7, .aload_n 0, 1), (8, .getfield 15, 3), (11, .if_icmp .ge 28, 3), (14, .iload_n 1, 1), (15, .iload 4, 2), (17, .invokestatic 65, 3), (20, .ifCond .eq 13, 3), (23, .iload_n 3, 1), (24, .aload_n 0, 1), (25, .iload 4, 2), (27, .iload_n 2, 1)] (cX2_reach.data.toList.drop 0) 0 = true := by decide +kernel
def dc_cX2_reach_dX2_reach_0_0 := zw_16 db_cX2_reach_dX2_reach_0_0
def dX2_reach_0 := dc_cX2_reach_dX2_reach_0_0.1
def dX2_reach_1 := dc_cX2_reach_dX2_reach_0_0.2.1
def dX2_reach_2 := dc_cX2_reach_dX2_reach_0_0.2.2.1
def dX2_reach_3 := dc_cX2_reach_dX2_reach_0_0.2.2.2.1
def dX2_reach_5 := dc_cX2_reach_dX2_reach_0_0.2.2.2.2.1
def dX2_reach_7 := dc_cX2_reach_dX2_reach_0_0.2.2.2.2.2.1
def dX2_reach_8 := dc_cX2_reach_dX2_reach_0_0.2.2.2.2.2.2.1
def dX2_reach_11 := dc_cX2_reach_dX2_reach_0_0.2.2.2.2.2.2.2.1
def dX2_reach_14 := dc_cX2_reach_dX2_reach_0_0.2.2.2.2.2.2.2.2.1
def dX2_reach_15 := dc_cX2_reach_dX2_reach_0_0.2.2.2.2.2.2.2.2.2.1
def dX2_reach_17 := dc_cX2_reach_dX2_reach_0_0.2.2.2.2.2.2.2.2.2.2.1
def dX2_reach_20 := dc_cX2_reach_dX2_reach_0_0.2.2.2.2.2.2.2.2.2.2.2.1
def dX2_reach_23 := dc_cX2_reach_dX2_reach_0_0.2.2.2.2.2.2.2.2.2.2.2.2.1
def dX2_reach_24 := dc_cX2_reach_dX2_reach_0_0.2.2.2.2.2.2.2.2.2.2.2.2.2.1
def dX2_reach_25 := dc_cX2_reach_dX2_reach_0_0.2.2.2.2.2.2.2.2.2.2.2.2.2.2.1
def dX2_reach_27 := dc_cX2_reach_dX2_reach_0_0.2.2.2.2.2.2.2.2.2.2.2.2.2.2.2
set_option maxRecDepth 100000 in
theorem db_cX2_reach_dX2_reach_28_1 : zw [(28, .invokevirtual 25, 3), (31, .ior, 1), (32, .istore_n 3, 1), (33, .iinc 4 1, 3), (36, .goto (-31), 3), (39, .iload_n 3, 1), (40, .ireturn, 1)] (cX2_reach.data.toList.drop 28) 28 = true := by decide +kernel
def dc_cX2_reach_dX2_reach_28_1 := zw_7 db_cX2_reach_dX2_reach_28_1
def dX2_reach_28 := dc_cX2_reach_dX2_reach_28_1.1
def dX2_reach_31 := dc_cX2_reach_dX2_reach_28_1.2.1
def dX2_reach_32 := dc_cX2_reach_dX2_reach_28_1.2.2.1
def dX2_reach_33 := dc_cX2_reach_dX2_reach_28_1.2.2.2.1
def dX2_reach_36 := dc_cX2_reach_dX2_reach_28_1.2.2.2.2.1
def dX2_reach_39 := dc_cX2_reach_dX2_reach_28_1.2.2.2.2.2.1
def dX2_reach_40 := dc_cX2_reach_dX2_reach_28_1.2.2.2.2.2.2
set_option maxRecDepth 100000 in
theorem db_cX6_find_dX6_find_0_0 : zw [(0, .iconst 0, 1), (1, .istore_n 3, 1), (2, .iload_n 3, 1), (3, .iload_n 2, 1), (4, .if_icmp .ge 30, 3), (7, .iload_n 3, 1), (8, .aload_n 0, 1), (9, .getfield 9, 3), (12, .arraylength, 1), (13, .if_icmp .ge 21, 3), (16, .aload_n 0, 1), (17, .getfield 9, 3), (20, .iload_n 3, 1), (21, .iaload, 1), (22, .iload_n 1, 1), (23, .if_icmp .ne 5, 3)] (cX6_find.data.toList.drop 0) 0 = true := by decide +kernel
def dc_cX6_find_dX6_find_0_0 := zw_16 db_cX6_find_dX6_find_0_0
def dX6_find_0 := dc_cX6_find_dX6_find_0_0.1
def dX6_find_1 := dc_cX6_find_dX6_find_0_0.2.1
def dX6_find_2 := dc_cX6_find_dX6_find_0_0.2.2.1
def dX6_find_3 := dc_cX6_find_dX6_find_0_0.2.2.2.1
def dX6_find_4 := dc_cX6_find_dX6_find_0_0.2.2.2.2.1
def dX6_find_7 := dc_cX6_find_dX6_find_0_0.2.2.2.2.2.1
def dX6_find_8 := dc_cX6_find_dX6_find_0_0.2.2.2.2.2.2.1
def dX6_find_9 := dc_cX6_find_dX6_find_0_0.2.2.2.2.2.2.2.1
def dX6_find_12 := dc_cX6_find_dX6_find_0_0.2.2.2.2.2.2.2.2.1
def dX6_find_13 := dc_cX6_find_dX6_find_0_0.2.2.2.2.2.2.2.2.2.1
def dX6_find_16 := dc_cX6_find_dX6_find_0_0.2.2.2.2.2.2.2.2.2.2.1
def dX6_find_17 := dc_cX6_find_dX6_find_0_0.2.2.2.2.2.2.2.2.2.2.2.1
def dX6_find_20 := dc_cX6_find_dX6_find_0_0.2.2.2.2.2.2.2.2.2.2.2.2.1
def dX6_find_21 := dc_cX6_find_dX6_find_0_0.2.2.2.2.2.2.2.2.2.2.2.2.2.1
def dX6_find_22 := dc_cX6_find_dX6_find_0_0.2.2.2.2.2.2.2.2.2.2.2.2.2.2.1
def dX6_find_23 := dc_cX6_find_dX6_find_0_0.2.2.2.2.2.2.2.2.2.2.2.2.2.2.2
set_option maxRecDepth 100000 in
theorem db_cX6_find_dX6_find_26_1 : zw [(26, .iload_n 3, 1), (27, .ireturn, 1), (28, .iinc 3 1, 3), (31, .goto (-29), 3), (34, .iconst (-1), 1), (35, .ireturn, 1)] (cX6_find.data.toList.drop 26) 26 = true := by decide +kernel
def dc_cX6_find_dX6_find_26_1 := zw_6 db_cX6_find_dX6_find_26_1
def dX6_find_26 := dc_cX6_find_dX6_find_26_1.1
def dX6_find_27 := dc_cX6_find_dX6_find_26_1.2.1
def dX6_find_28 := dc_cX6_find_dX6_find_26_1.2.2.1
def dX6_find_31 := dc_cX6_find_dX6_find_26_1.2.2.2.1
def dX6_find_34 := dc_cX6_find_dX6_find_26_1.2.2.2.2.1
def dX6_find_35 := dc_cX6_find_dX6_find_26_1.2.2.2.2.2
set_option maxRecDepth 100000 in
theorem db_cX3_numberOf_dX3_numberOf_0_0 : zw [(0, .aload_n 0, 1), (1, .getfield 14, 3), (4, .iload_n 1, 1), (5, .aload_n 2, 1), (6, .getfield 83, 3), (9, .invokevirtual 109, 3), (12, .istore_n 3, 1), (13, .iload_n 3, 1), (14, .iconst (-1), 1), (15, .if_icmp .ne 12, 3), (18, .aload_n 2, 1), (19, .getfield 83, 3), (22, .bipush 32, 2), (24, .if_icmp .lt 5, 3), (27, .iload_n 3, 1), (28, .ireturn, 1)] (cX3_numberOf.data.toList.drop 0) 0 = true := by decide +kernel
def dc_cX3_numberOf_dX3_numberOf_0_0 := zw_16 db_cX3_numberOf_dX3_numberOf_0_0
def dX3_numberOf_0 := dc_cX3_numberOf_dX3_numberOf_0_0.1
def dX3_numberOf_1 := dc_cX3_numberOf_dX3_numberOf_0_0.2.1
def dX3_numberOf_4 := dc_cX3_numberOf_dX3_numberOf_0_0.2.2.1
def dX3_numberOf_5 := dc_cX3_numberOf_dX3_numberOf_0_0.2.2.2.1
def dX3_numberOf_6 := dc_cX3_numberOf_dX3_numberOf_0_0.2.2.2.2.1
def dX3_numberOf_9 := dc_cX3_numberOf_dX3_numberOf_0_0.2.2.2.2.2.1
def dX3_numberOf_12 := dc_cX3_numberOf_dX3_numberOf_0_0.2.2.2.2.2.2.1
def dX3_numberOf_13 := dc_cX3_numberOf_dX3_numberOf_0_0.2.2.2.2.2.2.2.1
def dX3_numberOf_14 := dc_cX3_numberOf_dX3_numberOf_0_0.2.2.2.2.2.2.2.2.1
def dX3_numberOf_15 := dc_cX3_numberOf_dX3_numberOf_0_0.2.2.2.2.2.2.2.2.2.1
def dX3_numberOf_18 := dc_cX3_numberOf_dX3_numberOf_0_0.2.2.2.2.2.2.2.2.2.2.1
def dX3_numberOf_19 := dc_cX3_numberOf_dX3_numberOf_0_0.2.2.2.2.2.2.2.2.2.2.2.1
def dX3_numberOf_22 := dc_cX3_numberOf_dX3_numberOf_0_0.2.2.2.2.2.2.2.2.2.2.2.2.1
def dX3_numberOf_24 := dc_cX3_numberOf_dX3_numberOf_0_0.2.2.2.2.2.2.2.2.2.2.2.2.2.1
def dX3_numberOf_27 := dc_cX3_numberOf_dX3_numberOf_0_0.2.2.2.2.2.2.2.2.2.2.2.2.2.2.1
def dX3_numberOf_28 := dc_cX3_numberOf_dX3_numberOf_0_0.2.2.2.2.2.2.2.2.2.2.2.2.2.2.2
set_option maxRecDepth 100000 in
theorem db_cX3_numberOf_dX3_numberOf_29_1 : zw [(29, .aload_n 0, 1), (30, .getfield 14, 3), (33, .aload_n 2, 1), (34, .getfield 83, 3), (37, .iload_n 1, 1), (38, .invokevirtual 79, 3), (41, .aload_n 2, 1), (42, .dup, 1), (43, .getfield 83, 3), (46, .iconst 1, 1), (47, .iadd, 1), (48, .putfield 83, 3), (51, .aload_n 2, 1), (52, .getfield 83, 3), (55, .iconst 1, 1), (56, .isub, 1)] (cX3_numberOf.data.toList.drop 29) 29 = true := by decide +kernel
def dc_cX3_numberOf_dX3_numberOf_29_1 := zw_16 db_cX3_numberOf_dX3_numberOf_29_1
def dX3_numberOf_29 := dc_cX3_numberOf_dX3_numberOf_29_1.1
def dX3_numberOf_30 := dc_cX3_numberOf_dX3_numberOf_29_1.2.1
def dX3_numberOf_33 := dc_cX3_numberOf_dX3_numberOf_29_1.2.2.1
def dX3_numberOf_34 := dc_cX3_numberOf_dX3_numberOf_29_1.2.2.2.1
def dX3_numberOf_37 := dc_cX3_numberOf_dX3_numberOf_29_1.2.2.2.2.1
def dX3_numberOf_38 := dc_cX3_numberOf_dX3_numberOf_29_1.2.2.2.2.2.1
def dX3_numberOf_41 := dc_cX3_numberOf_dX3_numberOf_29_1.2.2.2.2.2.2.1
def dX3_numberOf_42 := dc_cX3_numberOf_dX3_numberOf_29_1.2.2.2.2.2.2.2.1
def dX3_numberOf_43 := dc_cX3_numberOf_dX3_numberOf_29_1.2.2.2.2.2.2.2.2.1
def dX3_numberOf_46 := dc_cX3_numberOf_dX3_numberOf_29_1.2.2.2.2.2.2.2.2.2.1
def dX3_numberOf_47 := dc_cX3_numberOf_dX3_numberOf_29_1.2.2.2.2.2.2.2.2.2.2.1
def dX3_numberOf_48 := dc_cX3_numberOf_dX3_numberOf_29_1.2.2.2.2.2.2.2.2.2.2.2.1
def dX3_numberOf_51 := dc_cX3_numberOf_dX3_numberOf_29_1.2.2.2.2.2.2.2.2.2.2.2.2.1
def dX3_numberOf_52 := dc_cX3_numberOf_dX3_numberOf_29_1.2.2.2.2.2.2.2.2.2.2.2.2.2.1
def dX3_numberOf_55 := dc_cX3_numberOf_dX3_numberOf_29_1.2.2.2.2.2.2.2.2.2.2.2.2.2.2.1
def dX3_numberOf_56 := dc_cX3_numberOf_dX3_numberOf_29_1.2.2.2.2.2.2.2.2.2.2.2.2.2.2.2
set_option maxRecDepth 100000 in
theorem db_cX3_numberOf_dX3_numberOf_57_2 : zw [(57, .ireturn, 1)] (cX3_numberOf.data.toList.drop 57) 57 = true := by decide +kernel
def dX3_numberOf_57 := zw_1 db_cX3_numberOf_dX3_numberOf_57_2
set_option maxRecDepth 100000 in
theorem db_cX3_makeOneWay_dX3_makeOneWay_0_0 : zw [(0, .aload_n 0, 1), (1, .getfield 14, 3), (4, .iconst 0, 1), (5, .aload_n 1, 1), (6, .getfield 75, 3), (9, .invokevirtual 79, 3), (12, .aload_n 2, 1), (13, .iconst 1, 1), (14, .putfield 83, 3), (17, .aload_n 2, 1), (18, .iconst 0, 1), (19, .putfield 86, 3), (22, .iconst 0, 1), (23, .istore_n 3, 1), (24, .iload_n 3, 1), (25, .bipush 32, 2)] (cX3_makeOneWay.data.toList.drop 0) 0 = true := by decide +kernel
def dc_cX3_makeOneWay_dX3_makeOneWay_0_0 := zw_16 db_cX3_makeOneWay_dX3_makeOneWay_0_0
def dX3_makeOneWay_0 := dc_cX3_makeOneWay_dX3_makeOneWay_0_0.1
def dX3_makeOneWay_1 := dc_cX3_makeOneWay_dX3_makeOneWay_0_0.2.1
def dX3_makeOneWay_4 := dc_cX3_makeOneWay_dX3_makeOneWay_0_0.2.2.1
def dX3_makeOneWay_5 := dc_cX3_makeOneWay_dX3_makeOneWay_0_0.2.2.2.1
def dX3_makeOneWay_6 := dc_cX3_makeOneWay_dX3_makeOneWay_0_0.2.2.2.2.1
def dX3_makeOneWay_9 := dc_cX3_makeOneWay_dX3_makeOneWay_0_0.2.2.2.2.2.1
def dX3_makeOneWay_12 := dc_cX3_makeOneWay_dX3_makeOneWay_0_0.2.2.2.2.2.2.1
def dX3_makeOneWay_13 := dc_cX3_makeOneWay_dX3_makeOneWay_0_0.2.2.2.2.2.2.2.1
def dX3_makeOneWay_14 := dc_cX3_makeOneWay_dX3_makeOneWay_0_0.2.2.2.2.2.2.2.2.1
def dX3_makeOneWay_17 := dc_cX3_makeOneWay_dX3_makeOneWay_0_0.2.2.2.2.2.2.2.2.2.1
def dX3_makeOneWay_18 := dc_cX3_makeOneWay_dX3_makeOneWay_0_0.2.2.2.2.2.2.2.2.2.2.1
def dX3_makeOneWay_19 := dc_cX3_makeOneWay_dX3_makeOneWay_0_0.2.2.2.2.2.2.2.2.2.2.2.1
def dX3_makeOneWay_22 := dc_cX3_makeOneWay_dX3_makeOneWay_0_0.2.2.2.2.2.2.2.2.2.2.2.2.1
def dX3_makeOneWay_23 := dc_cX3_makeOneWay_dX3_makeOneWay_0_0.2.2.2.2.2.2.2.2.2.2.2.2.2.1
def dX3_makeOneWay_24 := dc_cX3_makeOneWay_dX3_makeOneWay_0_0.2.2.2.2.2.2.2.2.2.2.2.2.2.2.1
def dX3_makeOneWay_25 := dc_cX3_makeOneWay_dX3_makeOneWay_0_0.2.2.2.2.2.2.2.2.2.2.2.2.2.2.2
set_option maxRecDepth 100000 in
theorem db_cX3_makeOneWay_dX3_makeOneWay_27_1 : zw [(27, .if_icmp .ge 101, 3), (30, .iload_n 3, 1), (31, .aload_n 2, 1), (32, .getfield 83, 3), (35, .if_icmp .ge 93, 3), (38, .aload_n 0, 1), (39, .getfield 14, 3), (42, .iload_n 3, 1), (43, .invokevirtual 89, 3), (46, .istore 4, 2), (48, .aload_n 2, 1), (49, .aload_n 2, 1), (50, .getfield 86, 3), (53, .iload_n 3, 1), (54, .iload 4, 2), (56, .aload_n 1, 1)] (cX3_makeOneWay.data.toList.drop 27) 27 = true := by decide +kernel
def dc_cX3_makeOneWay_dX3_makeOneWay_27_1 := zw_16 db_cX3_makeOneWay_dX3_makeOneWay_27_1
def dX3_makeOneWay_27 := dc_cX3_makeOneWay_dX3_makeOneWay_27_1.1
def dX3_makeOneWay_30 := dc_cX3_makeOneWay_dX3_makeOneWay_27_1.2.1
def dX3_makeOneWay_31 := dc_cX3_makeOneWay_dX3_makeOneWay_27_1.2.2.1
def dX3_makeOneWay_32 := dc_cX3_makeOneWay_dX3_makeOneWay_27_1.2.2.2.1
def dX3_makeOneWay_35 := dc_cX3_makeOneWay_dX3_makeOneWay_27_1.2.2.2.2.1
def dX3_makeOneWay_38 := dc_cX3_makeOneWay_dX3_makeOneWay_27_1.2.2.2.2.2.1
def dX3_makeOneWay_39 := dc_cX3_makeOneWay_dX3_makeOneWay_27_1.2.2.2.2.2.2.1
def dX3_makeOneWay_42 := dc_cX3_makeOneWay_dX3_makeOneWay_27_1.2.2.2.2.2.2.2.1
def dX3_makeOneWay_43 := dc_cX3_makeOneWay_dX3_makeOneWay_27_1.2.2.2.2.2.2.2.2.1
def dX3_makeOneWay_46 := dc_cX3_makeOneWay_dX3_makeOneWay_27_1.2.2.2.2.2.2.2.2.2.1
def dX3_makeOneWay_48 := dc_cX3_makeOneWay_dX3_makeOneWay_27_1.2.2.2.2.2.2.2.2.2.2.1
def dX3_makeOneWay_49 := dc_cX3_makeOneWay_dX3_makeOneWay_27_1.2.2.2.2.2.2.2.2.2.2.2.1
def dX3_makeOneWay_50 := dc_cX3_makeOneWay_dX3_makeOneWay_27_1.2.2.2.2.2.2.2.2.2.2.2.2.1
def dX3_makeOneWay_53 := dc_cX3_makeOneWay_dX3_makeOneWay_27_1.2.2.2.2.2.2.2.2.2.2.2.2.2.1
def dX3_makeOneWay_54 := dc_cX3_makeOneWay_dX3_makeOneWay_27_1.2.2.2.2.2.2.2.2.2.2.2.2.2.2.1
def dX3_makeOneWay_56 := dc_cX3_makeOneWay_dX3_makeOneWay_27_1.2.2.2.2.2.2.2.2.2.2.2.2.2.2.2
set_option maxRecDepth 100000 in
theorem db_cX3_makeOneWay_dX3_makeOneWay_57_2 : zw [(57, .getfield 93, 3), (60, .iand, 1), (61, .ifCond .eq 7, 3), (64, .iconst 1, 1), (65, .goto 4, 3), (68, .iconst 0, 1), (69, .invokestatic 94, 3), (72, .putfield 86, 3), (75, .iconst 0, 1), (76, .istore 5, 2), (78, .iload 5, 2), (80, .iconst 3, 1), (81, .if_icmp .ge 41, 3), (84, .aload_n 0, 1), (85, .aload_n 1, 1), (86, .iload 4, 2)] (cX3_makeOneWay.data.toList.drop 57) 57 = true := by decide +kernel
def dc_cX3_makeOneWay_dX3_makeOneWay_57_2 := zw_16 db_cX3_makeOneWay_dX3_makeOneWay_57_2
def dX3_makeOneWay_57 := dc_cX3_makeOneWay_dX3_makeOneWay_57_2.1
def dX3_makeOneWay_60 := dc_cX3_makeOneWay_dX3_makeOneWay_57_2.2.1
def dX3_makeOneWay_61 := dc_cX3_makeOneWay_dX3_makeOneWay_57_2.2.2.1
def dX3_makeOneWay_64 := dc_cX3_makeOneWay_dX3_makeOneWay_57_2.2.2.2.1
def dX3_makeOneWay_65 := dc_cX3_makeOneWay_dX3_makeOneWay_57_2.2.2.2.2.1
def dX3_makeOneWay_68 := dc_cX3_makeOneWay_dX3_makeOneWay_57_2.2.2.2.2.2.1
def dX3_makeOneWay_69 := dc_cX3_makeOneWay_dX3_makeOneWay_57_2.2.2.2.2.2.2.1
def dX3_makeOneWay_72 := dc_cX3_makeOneWay_dX3_makeOneWay_57_2.2.2.2.2.2.2.2.1
def dX3_makeOneWay_75 := dc_cX3_makeOneWay_dX3_makeOneWay_57_2.2.2.2.2.2.2.2.2.1
def dX3_makeOneWay_76 := dc_cX3_makeOneWay_dX3_makeOneWay_57_2.2.2.2.2.2.2.2.2.2.1
def dX3_makeOneWay_78 := dc_cX3_makeOneWay_dX3_makeOneWay_57_2.2.2.2.2.2.2.2.2.2.2.1
def dX3_makeOneWay_80 := dc_cX3_makeOneWay_dX3_makeOneWay_57_2.2.2.2.2.2.2.2.2.2.2.2.1
def dX3_makeOneWay_81 := dc_cX3_makeOneWay_dX3_makeOneWay_57_2.2.2.2.2.2.2.2.2.2.2.2.2.1
def dX3_makeOneWay_84 := dc_cX3_makeOneWay_dX3_makeOneWay_57_2.2.2.2.2.2.2.2.2.2.2.2.2.2.1
def dX3_makeOneWay_85 := dc_cX3_makeOneWay_dX3_makeOneWay_57_2.2.2.2.2.2.2.2.2.2.2.2.2.2.2.1
def dX3_makeOneWay_86 := dc_cX3_makeOneWay_dX3_makeOneWay_57_2.2.2.2.2.2.2.2.2.2.2.2.2.2.2.2
set_option maxRecDepth 100000 in
theorem db_cX3_makeOneWay_dX3_makeOneWay_88_3 : zw [(88, .iload 5, 2), (90, .invokevirtual 98, 3), (93, .aload_n 2, 1), (94, .invokevirtual 102, 3), (97, .istore 6, 2), (99, .iload 6, 2), (101, .iconst (-1), 1), (102, .if_icmp .ne 5, 3), (105, .iconst 0, 1), (106, .ireturn, 1), (107, .aload_n 2, 1), (108, .iload_n 3, 1), (109, .iload 5, 2), (111, .iload 6, 2), (113, .invokevirtual 106, 3), (116, .iinc 5 1, 3)] (cX3_makeOneWay.data.toList.drop 88) 88 = true := by decide +kernel
def dc_cX3_makeOneWay_dX3_makeOneWay_88_3 := zw_16 db_cX3_makeOneWay_dX3_makeOneWay_88_3
def dX3_makeOneWay_88 := dc_cX3_makeOneWay_dX3_makeOneWay_88_3.1
def dX3_makeOneWay_90 := dc_cX3_makeOneWay_dX3_makeOneWay_88_3.2.1
def dX3_makeOneWay_93 := dc_cX3_makeOneWay_dX3_makeOneWay_88_3.2.2.1
def dX3_makeOneWay_94 := dc_cX3_makeOneWay_dX3_makeOneWay_88_3.2.2.2.1
def dX3_makeOneWay_97 := dc_cX3_makeOneWay_dX3_makeOneWay_88_3.2.2.2.2.1
def dX3_makeOneWay_99 := dc_cX3_makeOneWay_dX3_makeOneWay_88_3.2.2.2.2.2.1
def dX3_makeOneWay_101 := dc_cX3_makeOneWay_dX3_makeOneWay_88_3.2.2.2.2.2.2.1
def dX3_makeOneWay_102 := dc_cX3_makeOneWay_dX3_makeOneWay_88_3.2.2.2.2.2.2.2.1
def dX3_makeOneWay_105 := dc_cX3_makeOneWay_dX3_makeOneWay_88_3.2.2.2.2.2.2.2.2.1
def dX3_makeOneWay_106 := dc_cX3_makeOneWay_dX3_makeOneWay_88_3.2.2.2.2.2.2.2.2.2.1
def dX3_makeOneWay_107 := dc_cX3_makeOneWay_dX3_makeOneWay_88_3.2.2.2.2.2.2.2.2.2.2.1
def dX3_makeOneWay_108 := dc_cX3_makeOneWay_dX3_makeOneWay_88_3.2.2.2.2.2.2.2.2.2.2.2.1
def dX3_makeOneWay_109 := dc_cX3_makeOneWay_dX3_makeOneWay_88_3.2.2.2.2.2.2.2.2.2.2.2.2.1
def dX3_makeOneWay_111 := dc_cX3_makeOneWay_dX3_makeOneWay_88_3.2.2.2.2.2.2.2.2.2.2.2.2.2.1
def dX3_makeOneWay_113 := dc_cX3_makeOneWay_dX3_makeOneWay_88_3.2.2.2.2.2.2.2.2.2.2.2.2.2.2.1
def dX3_makeOneWay_116 := dc_cX3_makeOneWay_dX3_makeOneWay_88_3.2.2.2.2.2.2.2.2.2.2.2.2.2.2.2
set_option maxRecDepth 100000 in
theorem db_cX3_makeOneWay_dX3_makeOneWay_119_4 : zw [(119, .goto (-41), 3), (122, .iinc 3 1, 3), (125, .goto (-101), 3), (128, .iconst 1, 1), (129, .ireturn, 1)] (cX3_makeOneWay.data.toList.drop 119) 119 = true := by decide +kernel
def dc_cX3_makeOneWay_dX3_makeOneWay_119_4 := zw_5 db_cX3_makeOneWay_dX3_makeOneWay_119_4
def dX3_makeOneWay_119 := dc_cX3_makeOneWay_dX3_makeOneWay_119_4.1
def dX3_makeOneWay_122 := dc_cX3_makeOneWay_dX3_makeOneWay_119_4.2.1
def dX3_makeOneWay_125 := dc_cX3_makeOneWay_dX3_makeOneWay_119_4.2.2.1
def dX3_makeOneWay_128 := dc_cX3_makeOneWay_dX3_makeOneWay_119_4.2.2.2.1
def dX3_makeOneWay_129 := dc_cX3_makeOneWay_dX3_makeOneWay_119_4.2.2.2.2
set_option maxRecDepth 100000 in
theorem db_cX6_fill_dX6_fill_0_0 : zw [(0, .iconst 0, 1), (1, .istore_n 2, 1), (2, .iload_n 2, 1), (3, .aload_n 0, 1), (4, .getfield 9, 3), (7, .arraylength, 1), (8, .if_icmp .ge 16, 3), (11, .aload_n 0, 1), (12, .getfield 9, 3), (15, .iload_n 2, 1), (16, .iload_n 1, 1), (17, .iastore, 1), (18, .iinc 2 1, 3), (21, .goto (-19), 3), (24, .return_, 1)] (cX6_fill.data.toList.drop 0) 0 = true := by decide +kernel
def dc_cX6_fill_dX6_fill_0_0 := zw_15 db_cX6_fill_dX6_fill_0_0
def dX6_fill_0 := dc_cX6_fill_dX6_fill_0_0.1
def dX6_fill_1 := dc_cX6_fill_dX6_fill_0_0.2.1
def dX6_fill_2 := dc_cX6_fill_dX6_fill_0_0.2.2.1
def dX6_fill_3 := dc_cX6_fill_dX6_fill_0_0.2.2.2.1
def dX6_fill_4 := dc_cX6_fill_dX6_fill_0_0.2.2.2.2.1
def dX6_fill_7 := dc_cX6_fill_dX6_fill_0_0.2.2.2.2.2.1
def dX6_fill_8 := dc_cX6_fill_dX6_fill_0_0.2.2.2.2.2.2.1
def dX6_fill_11 := dc_cX6_fill_dX6_fill_0_0.2.2.2.2.2.2.2.1
def dX6_fill_12 := dc_cX6_fill_dX6_fill_0_0.2.2.2.2.2.2.2.2.1
def dX6_fill_15 := dc_cX6_fill_dX6_fill_0_0.2.2.2.2.2.2.2.2.2.1
def dX6_fill_16 := dc_cX6_fill_dX6_fill_0_0.2.2.2.2.2.2.2.2.2.2.1
def dX6_fill_17 := dc_cX6_fill_dX6_fill_0_0.2.2.2.2.2.2.2.2.2.2.2.1
def dX6_fill_18 := dc_cX6_fill_dX6_fill_0_0.2.2.2.2.2.2.2.2.2.2.2.2.1
def dX6_fill_21 := dc_cX6_fill_dX6_fill_0_0.2.2.2.2.2.2.2.2.2.2.2.2.2.1
def dX6_fill_24 := dc_cX6_fill_dX6_fill_0_0.2.2.2.2.2.2.2.2.2.2.2.2.2.2
set_option maxRecDepth 100000 in
theorem db_cX4_isGoal_dX4_isGoal_0_0 : zw [(0, .aload_n 0, 1), (1, .getfield 44, 3), (4, .aload_n 0, 1), (5, .getfield 14, 3), (8, .iload_n 1, 1), (9, .invokevirtual 60, 3), (12, .invokestatic 75, 3), (15, .istore_n 3, 1), (16, .aload_n 0, 1), (17, .getfield 47, 3), (20, .aload_n 0, 1), (21, .getfield 20, 3), (24, .iload_n 1, 1), (25, .invokevirtual 60, 3), (28, .invokestatic 75, 3), (31, .istore 4, 2)] (cX4_isGoal.data.toList.drop 0) 0 = true := by decide +kernel
def dc_cX4_isGoal_dX4_isGoal_0_0 := zw_16 db_cX4_isGoal_dX4_isGoal_0_0
def dX4_isGoal_0 := dc_cX4_isGoal_dX4_isGoal_0_0.1
def dX4_isGoal_1 := dc_cX4_isGoal_dX4_isGoal_0_0.2.1
def dX4_isGoal_4 := dc_cX4_isGoal_dX4_isGoal_0_0.2.2.1
def dX4_isGoal_5 := dc_cX4_isGoal_dX4_isGoal_0_0.2.2.2.1
def dX4_isGoal_8 := dc_cX4_isGoal_dX4_isGoal_0_0.2.2.2.2.1
def dX4_isGoal_9 := dc_cX4_isGoal_dX4_isGoal_0_0.2.2.2.2.2.1
def dX4_isGoal_12 := dc_cX4_isGoal_dX4_isGoal_0_0.2.2.2.2.2.2.1
def dX4_isGoal_15 := dc_cX4_isGoal_dX4_isGoal_0_0.2.2.2.2.2.2.2.1
def dX4_isGoal_16 := dc_cX4_isGoal_dX4_isGoal_0_0.2.2.2.2.2.2.2.2.1
def dX4_isGoal_17 := dc_cX4_isGoal_dX4_isGoal_0_0.2.2.2.2.2.2.2.2.2.1
def dX4_isGoal_20 := dc_cX4_isGoal_dX4_isGoal_0_0.2.2.2.2.2.2.2.2.2.2.1
def dX4_isGoal_21 := dc_cX4_isGoal_dX4_isGoal_0_0.2.2.2.2.2.2.2.2.2.2.2.1
def dX4_isGoal_24 := dc_cX4_isGoal_dX4_isGoal_0_0.2.2.2.2.2.2.2.2.2.2.2.2.1
def dX4_isGoal_25 := dc_cX4_isGoal_dX4_isGoal_0_0.2.2.2.2.2.2.2.2.2.2.2.2.2.1
def dX4_isGoal_28 := dc_cX4_isGoal_dX4_isGoal_0_0.2.2.2.2.2.2.2.2.2.2.2.2.2.2.1
def dX4_isGoal_31 := dc_cX4_isGoal_dX4_isGoal_0_0.2.2.2.2.2.2.2.2.2.2.2.2.2.2.2
set_option maxRecDepth 100000 in
theorem db_cX4_isGoal_dX4_isGoal_33_1 : zw [(33, .iload_n 2, 1)] (cX4_isGoal.data.toList.drop 33) 33 = true := by decide +kernel
def dX4_isGoal_33 := zw_1 db_cX4_isGoal_dX4_isGoal_33_1
theorem dX4_isGoal_34 : decode cX4_isGoal 34 = .ok (.tableswitch 71 0 2 #[26, 41, 56], 26) := by decide +kernel
set_option maxRecDepth 100000 in
theorem db_cX4_isGoal_dX4_isGoal_60_2 : zw [(60, .iload_n 3, 1), (61, .ifCond .ne 8, 3), (64, .iload 4, 2), (66, .ifCond .eq 7, 3), (69, .iconst 1, 1), (70, .goto 4, 3), (73, .iconst 0, 1), (74, .ireturn, 1), (75, .iload_n 3, 1), (76, .ifCond .eq 12, 3), (79, .iload 4, 2), (81, .ifCond .eq 7, 3), (84, .iconst 1, 1), (85, .goto 4, 3), (88, .iconst 0, 1), (89, .ireturn, 1)] (cX4_isGoal.data.toList.drop 60) 60 = true := by decide +kernel
def dc_cX4_isGoal_dX4_isGoal_60_2 := zw_16 db_cX4_isGoal_dX4_isGoal_60_2
def dX4_isGoal_60 := dc_cX4_isGoal_dX4_isGoal_60_2.1
def dX4_isGoal_61 := dc_cX4_isGoal_dX4_isGoal_60_2.2.1
def dX4_isGoal_64 := dc_cX4_isGoal_dX4_isGoal_60_2.2.2.1
def dX4_isGoal_66 := dc_cX4_isGoal_dX4_isGoal_60_2.2.2.2.1
def dX4_isGoal_69 := dc_cX4_isGoal_dX4_isGoal_60_2.2.2.2.2.1
def dX4_isGoal_70 := dc_cX4_isGoal_dX4_isGoal_60_2.2.2.2.2.2.1
def dX4_isGoal_73 := dc_cX4_isGoal_dX4_isGoal_60_2.2.2.2.2.2.2.1
def dX4_isGoal_74 := dc_cX4_isGoal_dX4_isGoal_60_2.2.2.2.2.2.2.2.1
def dX4_isGoal_75 := dc_cX4_isGoal_dX4_isGoal_60_2.2.2.2.2.2.2.2.2.1
def dX4_isGoal_76 := dc_cX4_isGoal_dX4_isGoal_60_2.2.2.2.2.2.2.2.2.2.1
def dX4_isGoal_79 := dc_cX4_isGoal_dX4_isGoal_60_2.2.2.2.2.2.2.2.2.2.2.1
def dX4_isGoal_81 := dc_cX4_isGoal_dX4_isGoal_60_2.2.2.2.2.2.2.2.2.2.2.2.1
def dX4_isGoal_84 := dc_cX4_isGoal_dX4_isGoal_60_2.2.2.2.2.2.2.2.2.2.2.2.2.1
def dX4_isGoal_85 := dc_cX4_isGoal_dX4_isGoal_60_2.2.2.2.2.2.2.2.2.2.2.2.2.2.1
def dX4_isGoal_88 := dc_cX4_isGoal_dX4_isGoal_60_2.2.2.2.2.2.2.2.2.2.2.2.2.2.2.1
def dX4_isGoal_89 := dc_cX4_isGoal_dX4_isGoal_60_2.2.2.2.2.2.2.2.2.2.2.2.2.2.2.2
set_option maxRecDepth 100000 in
theorem db_cX4_isGoal_dX4_isGoal_90_3 : zw [(90, .iload_n 3, 1), (91, .ifCond .eq 12, 3), (94, .iload 4, 2), (96, .ifCond .ne 7, 3), (99, .iconst 1, 1), (100, .goto 4, 3), (103, .iconst 0, 1), (104, .ireturn, 1), (105, .iload_n 3, 1), (106, .iload 4, 2), (108, .if_icmp .eq 7, 3), (111, .iconst 1, 1), (112, .goto 4, 3), (115, .iconst 0, 1), (116, .ireturn, 1)] (cX4_isGoal.data.toList.drop 90) 90 = true := by decide +kernel
def dc_cX4_isGoal_dX4_isGoal_90_3 := zw_15 db_cX4_isGoal_dX4_isGoal_90_3
def dX4_isGoal_90 := dc_cX4_isGoal_dX4_isGoal_90_3.1
def dX4_isGoal_91 := dc_cX4_isGoal_dX4_isGoal_90_3.2.1
def dX4_isGoal_94 := dc_cX4_isGoal_dX4_isGoal_90_3.2.2.1
def dX4_isGoal_96 := dc_cX4_isGoal_dX4_isGoal_90_3.2.2.2.1
def dX4_isGoal_99 := dc_cX4_isGoal_dX4_isGoal_90_3.2.2.2.2.1
def dX4_isGoal_100 := dc_cX4_isGoal_dX4_isGoal_90_3.2.2.2.2.2.1
def dX4_isGoal_103 := dc_cX4_isGoal_dX4_isGoal_90_3.2.2.2.2.2.2.1
def dX4_isGoal_104 := dc_cX4_isGoal_dX4_isGoal_90_3.2.2.2.2.2.2.2.1
def dX4_isGoal_105 := dc_cX4_isGoal_dX4_isGoal_90_3.2.2.2.2.2.2.2.2.1
def dX4_isGoal_106 := dc_cX4_isGoal_dX4_isGoal_90_3.2.2.2.2.2.2.2.2.2.1
def dX4_isGoal_108 := dc_cX4_isGoal_dX4_isGoal_90_3.2.2.2.2.2.2.2.2.2.2.1
def dX4_isGoal_111 := dc_cX4_isGoal_dX4_isGoal_90_3.2.2.2.2.2.2.2.2.2.2.2.1
def dX4_isGoal_112 := dc_cX4_isGoal_dX4_isGoal_90_3.2.2.2.2.2.2.2.2.2.2.2.2.1
def dX4_isGoal_115 := dc_cX4_isGoal_dX4_isGoal_90_3.2.2.2.2.2.2.2.2.2.2.2.2.2.1
def dX4_isGoal_116 := dc_cX4_isGoal_dX4_isGoal_90_3.2.2.2.2.2.2.2.2.2.2.2.2.2.2
set_option maxRecDepth 100000 in
theorem db_cX4_add_dX4_add_0_0 : zw [(0, .aload_n 0, 1), (1, .getfield 14, 3), (4, .aload_n 0, 1), (5, .getfield 50, 3), (8, .iload_n 1, 1), (9, .invokevirtual 67, 3), (12, .aload_n 0, 1), (13, .getfield 20, 3), (16, .aload_n 0, 1), (17, .getfield 50, 3), (20, .iload_n 2, 1), (21, .invokevirtual 67, 3), (24, .aload_n 0, 1), (25, .getfield 23, 3), (28, .aload_n 0, 1), (29, .getfield 50, 3)] (cX4_add.data.toList.drop 0) 0 = true := by decide +kernel
def dc_cX4_add_dX4_add_0_0 := zw_16 db_cX4_add_dX4_add_0_0
def dX4_add_0 := dc_cX4_add_dX4_add_0_0.1
def dX4_add_1 := dc_cX4_add_dX4_add_0_0.2.1
def dX4_add_4 := dc_cX4_add_dX4_add_0_0.2.2.1
def dX4_add_5 := dc_cX4_add_dX4_add_0_0.2.2.2.1
def dX4_add_8 := dc_cX4_add_dX4_add_0_0.2.2.2.2.1
def dX4_add_9 := dc_cX4_add_dX4_add_0_0.2.2.2.2.2.1
def dX4_add_12 := dc_cX4_add_dX4_add_0_0.2.2.2.2.2.2.1
def dX4_add_13 := dc_cX4_add_dX4_add_0_0.2.2.2.2.2.2.2.1
def dX4_add_16 := dc_cX4_add_dX4_add_0_0.2.2.2.2.2.2.2.2.1
def dX4_add_17 := dc_cX4_add_dX4_add_0_0.2.2.2.2.2.2.2.2.2.1
def dX4_add_20 := dc_cX4_add_dX4_add_0_0.2.2.2.2.2.2.2.2.2.2.1
def dX4_add_21 := dc_cX4_add_dX4_add_0_0.2.2.2.2.2.2.2.2.2.2.2.1
def dX4_add_24 := dc_cX4_add_dX4_add_0_0.2.2.2.2.2.2.2.2.2.2.2.2.1
def dX4_add_25 := dc_cX4_add_dX4_add_0_0.2.2.2.2.2.2.2.2.2.2.2.2.2.1
def dX4_add_28 := dc_cX4_add_dX4_add_0_0.2.2.2.2.2.2.2.2.2.2.2.2.2.2.1
def dX4_add_29 := dc_cX4_add_dX4_add_0_0.2.2.2.2.2.2.2.2.2.2.2.2.2.2.2
set_option maxRecDepth 100000 in
theorem db_cX4_add_dX4_add_32_1 : zw [(32, .iload_n 3, 1), (33, .invokevirtual 67, 3), (36, .aload_n 0, 1), (37, .getfield 26, 3), (40, .aload_n 0, 1), (41, .getfield 50, 3), (44, .iload 4, 2), (46, .invokevirtual 67, 3), (49, .aload_n 0, 1), (50, .getfield 32, 3), (53, .iload_n 1, 1), (54, .bipush 32, 2), (56, .imul, 1), (57, .iload_n 2, 1), (58, .iadd, 1), (59, .aload_n 0, 1)] (cX4_add.data.toList.drop 32) 32 = true := by decide +kernel
def dc_cX4_add_dX4_add_32_1 := zw_16 db_cX4_add_dX4_add_32_1
def dX4_add_32 := dc_cX4_add_dX4_add_32_1.1
def dX4_add_33 := dc_cX4_add_dX4_add_32_1.2.1
def dX4_add_36 := dc_cX4_add_dX4_add_32_1.2.2.1
def dX4_add_37 := dc_cX4_add_dX4_add_32_1.2.2.2.1
def dX4_add_40 := dc_cX4_add_dX4_add_32_1.2.2.2.2.1
def dX4_add_41 := dc_cX4_add_dX4_add_32_1.2.2.2.2.2.1
def dX4_add_44 := dc_cX4_add_dX4_add_32_1.2.2.2.2.2.2.1
def dX4_add_46 := dc_cX4_add_dX4_add_32_1.2.2.2.2.2.2.2.1
def dX4_add_49 := dc_cX4_add_dX4_add_32_1.2.2.2.2.2.2.2.2.1
def dX4_add_50 := dc_cX4_add_dX4_add_32_1.2.2.2.2.2.2.2.2.2.1
def dX4_add_53 := dc_cX4_add_dX4_add_32_1.2.2.2.2.2.2.2.2.2.2.1
def dX4_add_54 := dc_cX4_add_dX4_add_32_1.2.2.2.2.2.2.2.2.2.2.2.1
def dX4_add_56 := dc_cX4_add_dX4_add_32_1.2.2.2.2.2.2.2.2.2.2.2.2.1
def dX4_add_57 := dc_cX4_add_dX4_add_32_1.2.2.2.2.2.2.2.2.2.2.2.2.2.1
def dX4_add_58 := dc_cX4_add_dX4_add_32_1.2.2.2.2.2.2.2.2.2.2.2.2.2.2.1
def dX4_add_59 := dc_cX4_add_dX4_add_32_1.2.2.2.2.2.2.2.2.2.2.2.2.2.2.2
set_option maxRecDepth 100000 in
theorem db_cX4_add_dX4_add_60_2 : zw [(60, .getfield 50, 3), (63, .invokevirtual 67, 3), (66, .aload_n 0, 1), (67, .getfield 53, 3), (70, .iconst (-1), 1), (71, .if_icmp .ne 23, 3), (74, .aload_n 0, 1), (75, .aload_n 0, 1), (76, .getfield 50, 3), (79, .iconst 3, 1), (80, .invokevirtual 71, 3), (83, .ifCond .eq 11, 3), (86, .aload_n 0, 1), (87, .aload_n 0, 1), (88, .getfield 50, 3), (91, .putfield 53, 3)] (cX4_add.data.toList.drop 60) 60 = true := by decide +kernel
def dc_cX4_add_dX4_add_60_2 := zw_16 db_cX4_add_dX4_add_60_2
def dX4_add_60 := dc_cX4_add_dX4_add_60_2.1
def dX4_add_63 := dc_cX4_add_dX4_add_60_2.2.1
def dX4_add_66 := dc_cX4_add_dX4_add_60_2.2.2.1
def dX4_add_67 := dc_cX4_add_dX4_add_60_2.2.2.2.1
def dX4_add_70 := dc_cX4_add_dX4_add_60_2.2.2.2.2.1
def dX4_add_71 := dc_cX4_add_dX4_add_60_2.2.2.2.2.2.1
def dX4_add_74 := dc_cX4_add_dX4_add_60_2.2.2.2.2.2.2.1
def dX4_add_75 := dc_cX4_add_dX4_add_60_2.2.2.2.2.2.2.2.1
def dX4_add_76 := dc_cX4_add_dX4_add_60_2.2.2.2.2.2.2.2.2.1
def dX4_add_79 := dc_cX4_add_dX4_add_60_2.2.2.2.2.2.2.2.2.2.1
def dX4_add_80 := dc_cX4_add_dX4_add_60_2.2.2.2.2.2.2.2.2.2.2.1
def dX4_add_83 := dc_cX4_add_dX4_add_60_2.2.2.2.2.2.2.2.2.2.2.2.1
def dX4_add_86 := dc_cX4_add_dX4_add_60_2.2.2.2.2.2.2.2.2.2.2.2.2.1
def dX4_add_87 := dc_cX4_add_dX4_add_60_2.2.2.2.2.2.2.2.2.2.2.2.2.2.1
def dX4_add_88 := dc_cX4_add_dX4_add_60_2.2.2.2.2.2.2.2.2.2.2.2.2.2.2.1
def dX4_add_91 := dc_cX4_add_dX4_add_60_2.2.2.2.2.2.2.2.2.2.2.2.2.2.2.2
set_option maxRecDepth 100000 in
theorem db_cX4_add_dX4_add_94_3 : zw [(94, .aload_n 0, 1), (95, .dup, 1), (96, .getfield 50, 3), (99, .iconst 1, 1), (100, .iadd, 1), (101, .putfield 50, 3), (104, .return_, 1)] (cX4_add.data.toList.drop 94) 94 = true := by decide +kernel
def dc_cX4_add_dX4_add_94_3 := zw_7 db_cX4_add_dX4_add_94_3
def dX4_add_94 := dc_cX4_add_dX4_add_94_3.1
def dX4_add_95 := dc_cX4_add_dX4_add_94_3.2.1
def dX4_add_96 := dc_cX4_add_dX4_add_94_3.2.2.1
def dX4_add_99 := dc_cX4_add_dX4_add_94_3.2.2.2.1
def dX4_add_100 := dc_cX4_add_dX4_add_94_3.2.2.2.2.1
def dX4_add_101 := dc_cX4_add_dX4_add_94_3.2.2.2.2.2.1
def dX4_add_104 := dc_cX4_add_dX4_add_94_3.2.2.2.2.2.2
set_option maxRecDepth 100000 in
theorem db_cX4_meet_dX4_meet_0_0 : zw [(0, .aload_n 0, 1), (1, .getfield 32, 3), (4, .iconst (-1), 1), (5, .invokevirtual 35, 3), (8, .aload_n 0, 1), (9, .aload_n 1, 1), (10, .getfield 38, 3), (13, .putfield 44, 3), (16, .aload_n 0, 1), (17, .aload_n 2, 1), (18, .getfield 38, 3), (21, .putfield 47, 3), (24, .aload_n 0, 1), (25, .iconst 0, 1), (26, .putfield 50, 3), (29, .aload_n 0, 1)] (cX4_meet.data.toList.drop 0) 0 = true := by decide +kernel
def dc_cX4_meet_dX4_meet_0_0 := zw_16 db_cX4_meet_dX4_meet_0_0
def dX4_meet_0 := dc_cX4_meet_dX4_meet_0_0.1
def dX4_meet_1 := dc_cX4_meet_dX4_meet_0_0.2.1
def dX4_meet_4 := dc_cX4_meet_dX4_meet_0_0.2.2.1
def dX4_meet_5 := dc_cX4_meet_dX4_meet_0_0.2.2.2.1
def dX4_meet_8 := dc_cX4_meet_dX4_meet_0_0.2.2.2.2.1
def dX4_meet_9 := dc_cX4_meet_dX4_meet_0_0.2.2.2.2.2.1
def dX4_meet_10 := dc_cX4_meet_dX4_meet_0_0.2.2.2.2.2.2.1
def dX4_meet_13 := dc_cX4_meet_dX4_meet_0_0.2.2.2.2.2.2.2.1
def dX4_meet_16 := dc_cX4_meet_dX4_meet_0_0.2.2.2.2.2.2.2.2.1
def dX4_meet_17 := dc_cX4_meet_dX4_meet_0_0.2.2.2.2.2.2.2.2.2.1
def dX4_meet_18 := dc_cX4_meet_dX4_meet_0_0.2.2.2.2.2.2.2.2.2.2.1
def dX4_meet_21 := dc_cX4_meet_dX4_meet_0_0.2.2.2.2.2.2.2.2.2.2.2.1
def dX4_meet_24 := dc_cX4_meet_dX4_meet_0_0.2.2.2.2.2.2.2.2.2.2.2.2.1
def dX4_meet_25 := dc_cX4_meet_dX4_meet_0_0.2.2.2.2.2.2.2.2.2.2.2.2.2.1
def dX4_meet_26 := dc_cX4_meet_dX4_meet_0_0.2.2.2.2.2.2.2.2.2.2.2.2.2.2.1
def dX4_meet_29 := dc_cX4_meet_dX4_meet_0_0.2.2.2.2.2.2.2.2.2.2.2.2.2.2.2
set_option maxRecDepth 100000 in
theorem db_cX4_meet_dX4_meet_30_1 : zw [(30, .iconst (-1), 1), (31, .putfield 53, 3), (34, .aload_n 0, 1), (35, .iconst 0, 1), (36, .iconst 0, 1), (37, .iconst (-1), 1), (38, .iconst (-1), 1), (39, .invokevirtual 56, 3), (42, .iconst 0, 1), (43, .istore 5, 2), (45, .iload 5, 2), (47, .iload_n 3, 1), (48, .if_icmp .ge 152, 3), (51, .iload 5, 2), (53, .aload_n 0, 1), (54, .getfield 50, 3)] (cX4_meet.data.toList.drop 30) 30 = true := by decide +kernel
def dc_cX4_meet_dX4_meet_30_1 := zw_16 db_cX4_meet_dX4_meet_30_1
def dX4_meet_30 := dc_cX4_meet_dX4_meet_30_1.1
def dX4_meet_31 := dc_cX4_meet_dX4_meet_30_1.2.1
def dX4_meet_34 := dc_cX4_meet_dX4_meet_30_1.2.2.1
def dX4_meet_35 := dc_cX4_meet_dX4_meet_30_1.2.2.2.1
def dX4_meet_36 := dc_cX4_meet_dX4_meet_30_1.2.2.2.2.1
def dX4_meet_37 := dc_cX4_meet_dX4_meet_30_1.2.2.2.2.2.1
def dX4_meet_38 := dc_cX4_meet_dX4_meet_30_1.2.2.2.2.2.2.1
def dX4_meet_39 := dc_cX4_meet_dX4_meet_30_1.2.2.2.2.2.2.2.1
def dX4_meet_42 := dc_cX4_meet_dX4_meet_30_1.2.2.2.2.2.2.2.2.1
def dX4_meet_43 := dc_cX4_meet_dX4_meet_30_1.2.2.2.2.2.2.2.2.2.1
def dX4_meet_45 := dc_cX4_meet_dX4_meet_30_1.2.2.2.2.2.2.2.2.2.2.1
def dX4_meet_47 := dc_cX4_meet_dX4_meet_30_1.2.2.2.2.2.2.2.2.2.2.2.1
def dX4_meet_48 := dc_cX4_meet_dX4_meet_30_1.2.2.2.2.2.2.2.2.2.2.2.2.1
def dX4_meet_51 := dc_cX4_meet_dX4_meet_30_1.2.2.2.2.2.2.2.2.2.2.2.2.2.1
def dX4_meet_53 := dc_cX4_meet_dX4_meet_30_1.2.2.2.2.2.2.2.2.2.2.2.2.2.2.1
def dX4_meet_54 := dc_cX4_meet_dX4_meet_30_1.2.2.2.2.2.2.2.2.2.2.2.2.2.2.2
set_option maxRecDepth 100000 in
theorem db_cX4_meet_dX4_meet_57_2 : zw [(57, .if_icmp .ge 143, 3), (60, .iconst 0, 1), (61, .istore 6, 2), (63, .iload 6, 2), (65, .iconst 3, 1), (66, .if_icmp .ge 128, 3), (69, .aload_n 0, 1), (70, .getfield 53, 3), (73, .iconst (-1), 1), (74, .if_icmp .eq 10, 3), (77, .iload 4, 2), (79, .ifCond .ne 5, 3), (82, .iconst 1, 1), (83, .ireturn, 1), (84, .aload_n 1, 1), (85, .aload_n 0, 1)] (cX4_meet.data.toList.drop 57) 57 = true := by decide +kernel
def dc_cX4_meet_dX4_meet_57_2 := zw_16 db_cX4_meet_dX4_meet_57_2
def dX4_meet_57 := dc_cX4_meet_dX4_meet_57_2.1
def dX4_meet_60 := dc_cX4_meet_dX4_meet_57_2.2.1
def dX4_meet_61 := dc_cX4_meet_dX4_meet_57_2.2.2.1
def dX4_meet_63 := dc_cX4_meet_dX4_meet_57_2.2.2.2.1
def dX4_meet_65 := dc_cX4_meet_dX4_meet_57_2.2.2.2.2.1
def dX4_meet_66 := dc_cX4_meet_dX4_meet_57_2.2.2.2.2.2.1
def dX4_meet_69 := dc_cX4_meet_dX4_meet_57_2.2.2.2.2.2.2.1
def dX4_meet_70 := dc_cX4_meet_dX4_meet_57_2.2.2.2.2.2.2.2.1
def dX4_meet_73 := dc_cX4_meet_dX4_meet_57_2.2.2.2.2.2.2.2.2.1
def dX4_meet_74 := dc_cX4_meet_dX4_meet_57_2.2.2.2.2.2.2.2.2.2.1
def dX4_meet_77 := dc_cX4_meet_dX4_meet_57_2.2.2.2.2.2.2.2.2.2.2.1
def dX4_meet_79 := dc_cX4_meet_dX4_meet_57_2.2.2.2.2.2.2.2.2.2.2.2.1
def dX4_meet_82 := dc_cX4_meet_dX4_meet_57_2.2.2.2.2.2.2.2.2.2.2.2.2.1
def dX4_meet_83 := dc_cX4_meet_dX4_meet_57_2.2.2.2.2.2.2.2.2.2.2.2.2.2.1
def dX4_meet_84 := dc_cX4_meet_dX4_meet_57_2.2.2.2.2.2.2.2.2.2.2.2.2.2.2.1
def dX4_meet_85 := dc_cX4_meet_dX4_meet_57_2.2.2.2.2.2.2.2.2.2.2.2.2.2.2.2
set_option maxRecDepth 100000 in
theorem db_cX4_meet_dX4_meet_86_3 : zw [(86, .getfield 14, 3), (89, .iload 5, 2), (91, .invokevirtual 60, 3), (94, .iload 6, 2), (96, .invokevirtual 64, 3), (99, .istore 7, 2), (101, .aload_n 2, 1), (102, .aload_n 0, 1), (103, .getfield 20, 3), (106, .iload 5, 2), (108, .invokevirtual 60, 3), (111, .iload 6, 2), (113, .invokevirtual 64, 3), (116, .istore 8, 2), (118, .aload_n 0, 1), (119, .getfield 32, 3)] (cX4_meet.data.toList.drop 86) 86 = true := by decide +kernel
def dc_cX4_meet_dX4_meet_86_3 := zw_16 db_cX4_meet_dX4_meet_86_3
def dX4_meet_86 := dc_cX4_meet_dX4_meet_86_3.1
def dX4_meet_89 := dc_cX4_meet_dX4_meet_86_3.2.1
def dX4_meet_91 := dc_cX4_meet_dX4_meet_86_3.2.2.1
def dX4_meet_94 := dc_cX4_meet_dX4_meet_86_3.2.2.2.1
def dX4_meet_96 := dc_cX4_meet_dX4_meet_86_3.2.2.2.2.1
def dX4_meet_99 := dc_cX4_meet_dX4_meet_86_3.2.2.2.2.2.1
def dX4_meet_101 := dc_cX4_meet_dX4_meet_86_3.2.2.2.2.2.2.1
def dX4_meet_102 := dc_cX4_meet_dX4_meet_86_3.2.2.2.2.2.2.2.1
def dX4_meet_103 := dc_cX4_meet_dX4_meet_86_3.2.2.2.2.2.2.2.2.1
def dX4_meet_106 := dc_cX4_meet_dX4_meet_86_3.2.2.2.2.2.2.2.2.2.1
def dX4_meet_108 := dc_cX4_meet_dX4_meet_86_3.2.2.2.2.2.2.2.2.2.2.1
def dX4_meet_111 := dc_cX4_meet_dX4_meet_86_3.2.2.2.2.2.2.2.2.2.2.2.1
def dX4_meet_113 := dc_cX4_meet_dX4_meet_86_3.2.2.2.2.2.2.2.2.2.2.2.2.1
def dX4_meet_116 := dc_cX4_meet_dX4_meet_86_3.2.2.2.2.2.2.2.2.2.2.2.2.2.1
def dX4_meet_118 := dc_cX4_meet_dX4_meet_86_3.2.2.2.2.2.2.2.2.2.2.2.2.2.2.1
def dX4_meet_119 := dc_cX4_meet_dX4_meet_86_3.2.2.2.2.2.2.2.2.2.2.2.2.2.2.2
set_option maxRecDepth 100000 in
theorem db_cX4_meet_dX4_meet_122_4 : zw [(122, .iload 7, 2), (124, .bipush 32, 2), (126, .imul, 1), (127, .iload 8, 2), (129, .iadd, 1), (130, .invokevirtual 60, 3), (133, .iconst (-1), 1), (134, .if_icmp .ne 25, 3), (137, .aload_n 0, 1), (138, .getfield 50, 3), (141, .iload_n 3, 1), (142, .if_icmp .lt 5, 3), (145, .iconst 0, 1), (146, .ireturn, 1), (147, .aload_n 0, 1), (148, .iload 7, 2)] (cX4_meet.data.toList.drop 122) 122 = true := by decide +kernel
def dc_cX4_meet_dX4_meet_122_4 := zw_16 db_cX4_meet_dX4_meet_122_4
def dX4_meet_122 := dc_cX4_meet_dX4_meet_122_4.1
def dX4_meet_124 := dc_cX4_meet_dX4_meet_122_4.2.1
def dX4_meet_126 := dc_cX4_meet_dX4_meet_122_4.2.2.1
def dX4_meet_127 := dc_cX4_meet_dX4_meet_122_4.2.2.2.1
def dX4_meet_129 := dc_cX4_meet_dX4_meet_122_4.2.2.2.2.1
def dX4_meet_130 := dc_cX4_meet_dX4_meet_122_4.2.2.2.2.2.1
def dX4_meet_133 := dc_cX4_meet_dX4_meet_122_4.2.2.2.2.2.2.1
def dX4_meet_134 := dc_cX4_meet_dX4_meet_122_4.2.2.2.2.2.2.2.1
def dX4_meet_137 := dc_cX4_meet_dX4_meet_122_4.2.2.2.2.2.2.2.2.1
def dX4_meet_138 := dc_cX4_meet_dX4_meet_122_4.2.2.2.2.2.2.2.2.2.1
def dX4_meet_141 := dc_cX4_meet_dX4_meet_122_4.2.2.2.2.2.2.2.2.2.2.1
def dX4_meet_142 := dc_cX4_meet_dX4_meet_122_4.2.2.2.2.2.2.2.2.2.2.2.1
def dX4_meet_145 := dc_cX4_meet_dX4_meet_122_4.2.2.2.2.2.2.2.2.2.2.2.2.1
def dX4_meet_146 := dc_cX4_meet_dX4_meet_122_4.2.2.2.2.2.2.2.2.2.2.2.2.2.1
def dX4_meet_147 := dc_cX4_meet_dX4_meet_122_4.2.2.2.2.2.2.2.2.2.2.2.2.2.2.1
def dX4_meet_148 := dc_cX4_meet_dX4_meet_122_4.2.2.2.2.2.2.2.2.2.2.2.2.2.2.2
set_option maxRecDepth 100000 in
theorem db_cX4_meet_dX4_meet_150_5 : zw [(150, .iload 8, 2), (152, .iload 5, 2), (154, .iload 6, 2), (156, .invokevirtual 56, 3), (159, .aload_n 0, 1), (160, .getfield 29, 3), (163, .iload 5, 2), (165, .iconst 3, 1), (166, .imul, 1), (167, .iload 6, 2), (169, .iadd, 1), (170, .aload_n 0, 1), (171, .getfield 32, 3), (174, .iload 7, 2), (176, .bipush 32, 2), (178, .imul, 1)] (cX4_meet.data.toList.drop 150) 150 = true := by decide +kernel
def dc_cX4_meet_dX4_meet_150_5 := zw_16 db_cX4_meet_dX4_meet_150_5
def dX4_meet_150 := dc_cX4_meet_dX4_meet_150_5.1
def dX4_meet_152 := dc_cX4_meet_dX4_meet_150_5.2.1
def dX4_meet_154 := dc_cX4_meet_dX4_meet_150_5.2.2.1
def dX4_meet_156 := dc_cX4_meet_dX4_meet_150_5.2.2.2.1
def dX4_meet_159 := dc_cX4_meet_dX4_meet_150_5.2.2.2.2.1
def dX4_meet_160 := dc_cX4_meet_dX4_meet_150_5.2.2.2.2.2.1
def dX4_meet_163 := dc_cX4_meet_dX4_meet_150_5.2.2.2.2.2.2.1
def dX4_meet_165 := dc_cX4_meet_dX4_meet_150_5.2.2.2.2.2.2.2.1
def dX4_meet_166 := dc_cX4_meet_dX4_meet_150_5.2.2.2.2.2.2.2.2.1
def dX4_meet_167 := dc_cX4_meet_dX4_meet_150_5.2.2.2.2.2.2.2.2.2.1
def dX4_meet_169 := dc_cX4_meet_dX4_meet_150_5.2.2.2.2.2.2.2.2.2.2.1
def dX4_meet_170 := dc_cX4_meet_dX4_meet_150_5.2.2.2.2.2.2.2.2.2.2.2.1
def dX4_meet_171 := dc_cX4_meet_dX4_meet_150_5.2.2.2.2.2.2.2.2.2.2.2.2.1
def dX4_meet_174 := dc_cX4_meet_dX4_meet_150_5.2.2.2.2.2.2.2.2.2.2.2.2.2.1
def dX4_meet_176 := dc_cX4_meet_dX4_meet_150_5.2.2.2.2.2.2.2.2.2.2.2.2.2.2.1
def dX4_meet_178 := dc_cX4_meet_dX4_meet_150_5.2.2.2.2.2.2.2.2.2.2.2.2.2.2.2
set_option maxRecDepth 100000 in
theorem db_cX4_meet_dX4_meet_179_6 : zw [(179, .iload 8, 2), (181, .iadd, 1), (182, .invokevirtual 60, 3), (185, .invokevirtual 67, 3), (188, .iinc 6 1, 3), (191, .goto (-128), 3), (194, .iinc 5 1, 3), (197, .goto (-152), 3), (200, .iconst 1, 1), (201, .ireturn, 1)] (cX4_meet.data.toList.drop 179) 179 = true := by decide +kernel
def dc_cX4_meet_dX4_meet_179_6 := zw_10 db_cX4_meet_dX4_meet_179_6
def dX4_meet_179 := dc_cX4_meet_dX4_meet_179_6.1
def dX4_meet_181 := dc_cX4_meet_dX4_meet_179_6.2.1
def dX4_meet_182 := dc_cX4_meet_dX4_meet_179_6.2.2.1
def dX4_meet_185 := dc_cX4_meet_dX4_meet_179_6.2.2.2.1
def dX4_meet_188 := dc_cX4_meet_dX4_meet_179_6.2.2.2.2.1
def dX4_meet_191 := dc_cX4_meet_dX4_meet_179_6.2.2.2.2.2.1
def dX4_meet_194 := dc_cX4_meet_dX4_meet_179_6.2.2.2.2.2.2.1
def dX4_meet_197 := dc_cX4_meet_dX4_meet_179_6.2.2.2.2.2.2.2.1
def dX4_meet_200 := dc_cX4_meet_dX4_meet_179_6.2.2.2.2.2.2.2.2.1
def dX4_meet_201 := dc_cX4_meet_dX4_meet_179_6.2.2.2.2.2.2.2.2.2
set_option maxRecDepth 100000 in
theorem db_cX9_meetPairs_dX9_meetPairs_0_0 : zw [(0, .aload_n 0, 1), (1, .getfield 35, 3), (4, .aload_n 1, 1), (5, .aload_n 0, 1), (6, .getfield 56, 3), (9, .invokevirtual 288, 3), (12, .ifCond .eq 43, 3), (15, .aload_n 0, 1), (16, .getfield 35, 3), (19, .aload_n 2, 1), (20, .aload_n 0, 1), (21, .getfield 60, 3), (24, .invokevirtual 288, 3), (27, .ifCond .eq 28, 3), (30, .aload_n 0, 1), (31, .getfield 42, 3)] (cX9_meetPairs.data.toList.drop 0) 0 = true := by decide +kernel
def dc_cX9_meetPairs_dX9_meetPairs_0_0 := zw_16 db_cX9_meetPairs_dX9_meetPairs_0_0
def dX9_meetPairs_0 := dc_cX9_meetPairs_dX9_meetPairs_0_0.1
def dX9_meetPairs_1 := dc_cX9_meetPairs_dX9_meetPairs_0_0.2.1
def dX9_meetPairs_4 := dc_cX9_meetPairs_dX9_meetPairs_0_0.2.2.1
def dX9_meetPairs_5 := dc_cX9_meetPairs_dX9_meetPairs_0_0.2.2.2.1
def dX9_meetPairs_6 := dc_cX9_meetPairs_dX9_meetPairs_0_0.2.2.2.2.1
def dX9_meetPairs_9 := dc_cX9_meetPairs_dX9_meetPairs_0_0.2.2.2.2.2.1
def dX9_meetPairs_12 := dc_cX9_meetPairs_dX9_meetPairs_0_0.2.2.2.2.2.2.1
def dX9_meetPairs_15 := dc_cX9_meetPairs_dX9_meetPairs_0_0.2.2.2.2.2.2.2.1
def dX9_meetPairs_16 := dc_cX9_meetPairs_dX9_meetPairs_0_0.2.2.2.2.2.2.2.2.1
def dX9_meetPairs_19 := dc_cX9_meetPairs_dX9_meetPairs_0_0.2.2.2.2.2.2.2.2.2.1
def dX9_meetPairs_20 := dc_cX9_meetPairs_dX9_meetPairs_0_0.2.2.2.2.2.2.2.2.2.2.1
def dX9_meetPairs_21 := dc_cX9_meetPairs_dX9_meetPairs_0_0.2.2.2.2.2.2.2.2.2.2.2.1
def dX9_meetPairs_24 := dc_cX9_meetPairs_dX9_meetPairs_0_0.2.2.2.2.2.2.2.2.2.2.2.2.1
def dX9_meetPairs_27 := dc_cX9_meetPairs_dX9_meetPairs_0_0.2.2.2.2.2.2.2.2.2.2.2.2.2.1
def dX9_meetPairs_30 := dc_cX9_meetPairs_dX9_meetPairs_0_0.2.2.2.2.2.2.2.2.2.2.2.2.2.2.1
def dX9_meetPairs_31 := dc_cX9_meetPairs_dX9_meetPairs_0_0.2.2.2.2.2.2.2.2.2.2.2.2.2.2.2
set_option maxRecDepth 100000 in
theorem db_cX9_meetPairs_dX9_meetPairs_34_1 : zw [(34, .aload_n 0, 1), (35, .getfield 56, 3), (38, .aload_n 0, 1), (39, .getfield 60, 3), (42, .iload_n 3, 1), (43, .iload 4, 2), (45, .invokevirtual 292, 3), (48, .ifCond .eq 7, 3), (51, .iconst 1, 1), (52, .goto 4, 3), (55, .iconst 0, 1), (56, .ireturn, 1)] (cX9_meetPairs.data.toList.drop 34) 34 = true := by decide +kernel
def dc_cX9_meetPairs_dX9_meetPairs_34_1 := zw_12 db_cX9_meetPairs_dX9_meetPairs_34_1
def dX9_meetPairs_34 := dc_cX9_meetPairs_dX9_meetPairs_34_1.1
def dX9_meetPairs_35 := dc_cX9_meetPairs_dX9_meetPairs_34_1.2.1
def dX9_meetPairs_38 := dc_cX9_meetPairs_dX9_meetPairs_34_1.2.2.1
def dX9_meetPairs_39 := dc_cX9_meetPairs_dX9_meetPairs_34_1.2.2.2.1
def dX9_meetPairs_42 := dc_cX9_meetPairs_dX9_meetPairs_34_1.2.2.2.2.1
def dX9_meetPairs_43 := dc_cX9_meetPairs_dX9_meetPairs_34_1.2.2.2.2.2.1
def dX9_meetPairs_45 := dc_cX9_meetPairs_dX9_meetPairs_34_1.2.2.2.2.2.2.1
def dX9_meetPairs_48 := dc_cX9_meetPairs_dX9_meetPairs_34_1.2.2.2.2.2.2.2.1
def dX9_meetPairs_51 := dc_cX9_meetPairs_dX9_meetPairs_34_1.2.2.2.2.2.2.2.2.1
def dX9_meetPairs_52 := dc_cX9_meetPairs_dX9_meetPairs_34_1.2.2.2.2.2.2.2.2.2.1
def dX9_meetPairs_55 := dc_cX9_meetPairs_dX9_meetPairs_34_1.2.2.2.2.2.2.2.2.2.2.1
def dX9_meetPairs_56 := dc_cX9_meetPairs_dX9_meetPairs_34_1.2.2.2.2.2.2.2.2.2.2.2
set_option maxRecDepth 100000 in
theorem db_cX4_target_dX4_target_0_0 : zw [(0, .aload_n 0, 1), (1, .getfield 29, 3), (4, .iload_n 1, 1), (5, .iconst 3, 1), (6, .imul, 1), (7, .iload_n 2, 1), (8, .iadd, 1), (9, .invokevirtual 60, 3), (12, .ireturn, 1)] (cX4_target.data.toList.drop 0) 0 = true := by decide +kernel
def dc_cX4_target_dX4_target_0_0 := zw_9 db_cX4_target_dX4_target_0_0
def dX4_target_0 := dc_cX4_target_dX4_target_0_0.1
def dX4_target_1 := dc_cX4_target_dX4_target_0_0.2.1
def dX4_target_4 := dc_cX4_target_dX4_target_0_0.2.2.1
def dX4_target_5 := dc_cX4_target_dX4_target_0_0.2.2.2.1
def dX4_target_6 := dc_cX4_target_dX4_target_0_0.2.2.2.2.1
def dX4_target_7 := dc_cX4_target_dX4_target_0_0.2.2.2.2.2.1
def dX4_target_8 := dc_cX4_target_dX4_target_0_0.2.2.2.2.2.2.1
def dX4_target_9 := dc_cX4_target_dX4_target_0_0.2.2.2.2.2.2.2.1
def dX4_target_12 := dc_cX4_target_dX4_target_0_0.2.2.2.2.2.2.2.2
set_option maxRecDepth 100000 in
theorem db_cX5_becomePairs_dX5_becomePairs_0_0 : zw [(0, .aload_n 0, 1), (1, .aload_n 1, 1), (2, .getfield 23, 3), (5, .putfield 28, 3), (8, .aload_n 0, 1), (9, .iconst 0, 1), (10, .putfield 9, 3), (13, .iconst 0, 1), (14, .istore_n 3, 1), (15, .iload_n 3, 1), (16, .aload_n 0, 1), (17, .getfield 28, 3), (20, .if_icmp .ge 56, 3), (23, .aload_n 0, 1), (24, .aload_n 0, 1), (25, .getfield 9, 3)] (cX5_becomePairs.data.toList.drop 0) 0 = true := by decide +kernel
def dc_cX5_becomePairs_dX5_becomePairs_0_0 := zw_16 db_cX5_becomePairs_dX5_becomePairs_0_0
def dX5_becomePairs_0 := dc_cX5_becomePairs_dX5_becomePairs_0_0.1
def dX5_becomePairs_1 := dc_cX5_becomePairs_dX5_becomePairs_0_0.2.1
def dX5_becomePairs_2 := dc_cX5_becomePairs_dX5_becomePairs_0_0.2.2.1
def dX5_becomePairs_5 := dc_cX5_becomePairs_dX5_becomePairs_0_0.2.2.2.1
def dX5_becomePairs_8 := dc_cX5_becomePairs_dX5_becomePairs_0_0.2.2.2.2.1
def dX5_becomePairs_9 := dc_cX5_becomePairs_dX5_becomePairs_0_0.2.2.2.2.2.1
def dX5_becomePairs_10 := dc_cX5_becomePairs_dX5_becomePairs_0_0.2.2.2.2.2.2.1
def dX5_becomePairs_13 := dc_cX5_becomePairs_dX5_becomePairs_0_0.2.2.2.2.2.2.2.1
def dX5_becomePairs_14 := dc_cX5_becomePairs_dX5_becomePairs_0_0.2.2.2.2.2.2.2.2.1
def dX5_becomePairs_15 := dc_cX5_becomePairs_dX5_becomePairs_0_0.2.2.2.2.2.2.2.2.2.1
def dX5_becomePairs_16 := dc_cX5_becomePairs_dX5_becomePairs_0_0.2.2.2.2.2.2.2.2.2.2.1
def dX5_becomePairs_17 := dc_cX5_becomePairs_dX5_becomePairs_0_0.2.2.2.2.2.2.2.2.2.2.2.1
def dX5_becomePairs_20 := dc_cX5_becomePairs_dX5_becomePairs_0_0.2.2.2.2.2.2.2.2.2.2.2.2.1
def dX5_becomePairs_23 := dc_cX5_becomePairs_dX5_becomePairs_0_0.2.2.2.2.2.2.2.2.2.2.2.2.2.1
def dX5_becomePairs_24 := dc_cX5_becomePairs_dX5_becomePairs_0_0.2.2.2.2.2.2.2.2.2.2.2.2.2.2.1
def dX5_becomePairs_25 := dc_cX5_becomePairs_dX5_becomePairs_0_0.2.2.2.2.2.2.2.2.2.2.2.2.2.2.2
set_option maxRecDepth 100000 in
theorem db_cX5_becomePairs_dX5_becomePairs_28_1 : zw [(28, .iload_n 3, 1), (29, .aload_n 1, 1), (30, .iload_n 3, 1), (31, .iload_n 2, 1), (32, .invokevirtual 31, 3), (35, .invokestatic 34, 3), (38, .putfield 9, 3), (41, .iconst 0, 1), (42, .istore 4, 2), (44, .iload 4, 2), (46, .iconst 3, 1), (47, .if_icmp .ge 23, 3), (50, .aload_n 0, 1), (51, .iload_n 3, 1), (52, .iload 4, 2), (54, .aload_n 1, 1)] (cX5_becomePairs.data.toList.drop 28) 28 = true := by decide +kernel
def dc_cX5_becomePairs_dX5_becomePairs_28_1 := zw_16 db_cX5_becomePairs_dX5_becomePairs_28_1
def dX5_becomePairs_28 := dc_cX5_becomePairs_dX5_becomePairs_28_1.1
def dX5_becomePairs_29 := dc_cX5_becomePairs_dX5_becomePairs_28_1.2.1
def dX5_becomePairs_30 := dc_cX5_becomePairs_dX5_becomePairs_28_1.2.2.1
def dX5_becomePairs_31 := dc_cX5_becomePairs_dX5_becomePairs_28_1.2.2.2.1
def dX5_becomePairs_32 := dc_cX5_becomePairs_dX5_becomePairs_28_1.2.2.2.2.1
def dX5_becomePairs_35 := dc_cX5_becomePairs_dX5_becomePairs_28_1.2.2.2.2.2.1
def dX5_becomePairs_38 := dc_cX5_becomePairs_dX5_becomePairs_28_1.2.2.2.2.2.2.1
def dX5_becomePairs_41 := dc_cX5_becomePairs_dX5_becomePairs_28_1.2.2.2.2.2.2.2.1
def dX5_becomePairs_42 := dc_cX5_becomePairs_dX5_becomePairs_28_1.2.2.2.2.2.2.2.2.1
def dX5_becomePairs_44 := dc_cX5_becomePairs_dX5_becomePairs_28_1.2.2.2.2.2.2.2.2.2.1
def dX5_becomePairs_46 := dc_cX5_becomePairs_dX5_becomePairs_28_1.2.2.2.2.2.2.2.2.2.2.1
def dX5_becomePairs_47 := dc_cX5_becomePairs_dX5_becomePairs_28_1.2.2.2.2.2.2.2.2.2.2.2.1
def dX5_becomePairs_50 := dc_cX5_becomePairs_dX5_becomePairs_28_1.2.2.2.2.2.2.2.2.2.2.2.2.1
def dX5_becomePairs_51 := dc_cX5_becomePairs_dX5_becomePairs_28_1.2.2.2.2.2.2.2.2.2.2.2.2.2.1
def dX5_becomePairs_52 := dc_cX5_becomePairs_dX5_becomePairs_28_1.2.2.2.2.2.2.2.2.2.2.2.2.2.2.1
def dX5_becomePairs_54 := dc_cX5_becomePairs_dX5_becomePairs_28_1.2.2.2.2.2.2.2.2.2.2.2.2.2.2.2
set_option maxRecDepth 100000 in
theorem db_cX5_becomePairs_dX5_becomePairs_55_2 : zw [(55, .iload_n 3, 1), (56, .iload 4, 2), (58, .invokevirtual 38, 3), (61, .invokevirtual 42, 3), (64, .iinc 4 1, 3), (67, .goto (-23), 3), (70, .iinc 3 1, 3), (73, .goto (-58), 3), (76, .return_, 1)] (cX5_becomePairs.data.toList.drop 55) 55 = true := by decide +kernel
def dc_cX5_becomePairs_dX5_becomePairs_55_2 := zw_9 db_cX5_becomePairs_dX5_becomePairs_55_2
def dX5_becomePairs_55 := dc_cX5_becomePairs_dX5_becomePairs_55_2.1
def dX5_becomePairs_56 := dc_cX5_becomePairs_dX5_becomePairs_55_2.2.1
def dX5_becomePairs_58 := dc_cX5_becomePairs_dX5_becomePairs_55_2.2.2.1
def dX5_becomePairs_61 := dc_cX5_becomePairs_dX5_becomePairs_55_2.2.2.2.1
def dX5_becomePairs_64 := dc_cX5_becomePairs_dX5_becomePairs_55_2.2.2.2.2.1
def dX5_becomePairs_67 := dc_cX5_becomePairs_dX5_becomePairs_55_2.2.2.2.2.2.1
def dX5_becomePairs_70 := dc_cX5_becomePairs_dX5_becomePairs_55_2.2.2.2.2.2.2.1
def dX5_becomePairs_73 := dc_cX5_becomePairs_dX5_becomePairs_55_2.2.2.2.2.2.2.2.1
def dX5_becomePairs_76 := dc_cX5_becomePairs_dX5_becomePairs_55_2.2.2.2.2.2.2.2.2
set_option maxRecDepth 100000 in
theorem db_cX5_isGoal_dX5_isGoal_0_0 : zw [(0, .aload_n 0, 1), (1, .getfield 9, 3), (4, .iload_n 1, 1), (5, .invokestatic 15, 3), (8, .ireturn, 1)] (cX5_isGoal.data.toList.drop 0) 0 = true := by decide +kernel
def dc_cX5_isGoal_dX5_isGoal_0_0 := zw_5 db_cX5_isGoal_dX5_isGoal_0_0
def dX5_isGoal_0 := dc_cX5_isGoal_dX5_isGoal_0_0.1
def dX5_isGoal_1 := dc_cX5_isGoal_dX5_isGoal_0_0.2.1
def dX5_isGoal_4 := dc_cX5_isGoal_dX5_isGoal_0_0.2.2.1
def dX5_isGoal_5 := dc_cX5_isGoal_dX5_isGoal_0_0.2.2.2.1
def dX5_isGoal_8 := dc_cX5_isGoal_dX5_isGoal_0_0.2.2.2.2
set_option maxRecDepth 100000 in
theorem db_cX1_firstOfGoalness_dX1_firstOfGoalness_0_0 : zw [(0, .iconst 0, 1), (1, .istore_n 2, 1), (2, .iload_n 2, 1), (3, .iload_n 1, 1), (4, .if_icmp .ge 24, 3), (7, .aload_n 0, 1), (8, .iload_n 2, 1), (9, .invokevirtual 48, 3), (12, .aload_n 0, 1), (13, .iload_n 1, 1), (14, .invokevirtual 48, 3), (17, .if_icmp .ne 5, 3), (20, .iload_n 2, 1), (21, .ireturn, 1), (22, .iinc 2 1, 3), (25, .goto (-23), 3)] (cX1_firstOfGoalness.data.toList.drop 0) 0 = true := by decide +kernel
def dc_cX1_firstOfGoalness_dX1_firstOfGoalness_0_0 := zw_16 db_cX1_firstOfGoalness_dX1_firstOfGoalness_0_0
def dX1_firstOfGoalness_0 := dc_cX1_firstOfGoalness_dX1_firstOfGoalness_0_0.1
def dX1_firstOfGoalness_1 := dc_cX1_firstOfGoalness_dX1_firstOfGoalness_0_0.2.1
def dX1_firstOfGoalness_2 := dc_cX1_firstOfGoalness_dX1_firstOfGoalness_0_0.2.2.1
def dX1_firstOfGoalness_3 := dc_cX1_firstOfGoalness_dX1_firstOfGoalness_0_0.2.2.2.1
def dX1_firstOfGoalness_4 := dc_cX1_firstOfGoalness_dX1_firstOfGoalness_0_0.2.2.2.2.1
def dX1_firstOfGoalness_7 := dc_cX1_firstOfGoalness_dX1_firstOfGoalness_0_0.2.2.2.2.2.1
def dX1_firstOfGoalness_8 := dc_cX1_firstOfGoalness_dX1_firstOfGoalness_0_0.2.2.2.2.2.2.1
def dX1_firstOfGoalness_9 := dc_cX1_firstOfGoalness_dX1_firstOfGoalness_0_0.2.2.2.2.2.2.2.1
def dX1_firstOfGoalness_12 := dc_cX1_firstOfGoalness_dX1_firstOfGoalness_0_0.2.2.2.2.2.2.2.2.1
def dX1_firstOfGoalness_13 := dc_cX1_firstOfGoalness_dX1_firstOfGoalness_0_0.2.2.2.2.2.2.2.2.2.1
def dX1_firstOfGoalness_14 := dc_cX1_firstOfGoalness_dX1_firstOfGoalness_0_0.2.2.2.2.2.2.2.2.2.2.1
def dX1_firstOfGoalness_17 := dc_cX1_firstOfGoalness_dX1_firstOfGoalness_0_0.2.2.2.2.2.2.2.2.2.2.2.1
def dX1_firstOfGoalness_20 := dc_cX1_firstOfGoalness_dX1_firstOfGoalness_0_0.2.2.2.2.2.2.2.2.2.2.2.2.1
def dX1_firstOfGoalness_21 := dc_cX1_firstOfGoalness_dX1_firstOfGoalness_0_0.2.2.2.2.2.2.2.2.2.2.2.2.2.1
def dX1_firstOfGoalness_22 := dc_cX1_firstOfGoalness_dX1_firstOfGoalness_0_0.2.2.2.2.2.2.2.2.2.2.2.2.2.2.1
def dX1_firstOfGoalness_25 := dc_cX1_firstOfGoalness_dX1_firstOfGoalness_0_0.2.2.2.2.2.2.2.2.2.2.2.2.2.2.2
set_option maxRecDepth 100000 in
theorem db_cX1_firstOfGoalness_dX1_firstOfGoalness_28_1 : zw [(28, .iload_n 1, 1), (29, .ireturn, 1)] (cX1_firstOfGoalness.data.toList.drop 28) 28 = true := by decide +kernel
def dc_cX1_firstOfGoalness_dX1_firstOfGoalness_28_1 := zw_2 db_cX1_firstOfGoalness_dX1_firstOfGoalness_28_1
def dX1_firstOfGoalness_28 := dc_cX1_firstOfGoalness_dX1_firstOfGoalness_28_1.1
def dX1_firstOfGoalness_29 := dc_cX1_firstOfGoalness_dX1_firstOfGoalness_28_1.2
set_option maxRecDepth 100000 in
theorem db_cX1_codeOf_dX1_codeOf_0_0 : zw [(0, .aload_n 0, 1), (1, .getfield 14, 3), (4, .iload_n 2, 1), (5, .invokevirtual 26, 3), (8, .istore_n 3, 1), (9, .iconst 0, 1), (10, .istore 4, 2), (12, .iload 4, 2), (14, .iconst 3, 1), (15, .if_icmp .ge 29, 3), (18, .iload_n 3, 1), (19, .bipush 32, 2), (21, .imul, 1), (22, .aload_n 0, 1), (23, .getfield 14, 3), (26, .aload_n 1, 1)] (cX1_codeOf.data.toList.drop 0) 0 = true := by decide +kernel
def dc_cX1_codeOf_dX1_codeOf_0_0 := zw_16 db_cX1_codeOf_dX1_codeOf_0_0
def dX1_codeOf_0 := dc_cX1_codeOf_dX1_codeOf_0_0.1
def dX1_codeOf_1 := dc_cX1_codeOf_dX1_codeOf_0_0.2.1
def dX1_codeOf_4 := dc_cX1_codeOf_dX1_codeOf_0_0.2.2.1
def dX1_codeOf_5 := dc_cX1_codeOf_dX1_codeOf_0_0.2.2.2.1
def dX1_codeOf_8 := dc_cX1_codeOf_dX1_codeOf_0_0.2.2.2.2.1
def dX1_codeOf_9 := dc_cX1_codeOf_dX1_codeOf_0_0.2.2.2.2.2.1
def dX1_codeOf_10 := dc_cX1_codeOf_dX1_codeOf_0_0.2.2.2.2.2.2.1
def dX1_codeOf_12 := dc_cX1_codeOf_dX1_codeOf_0_0.2.2.2.2.2.2.2.1
def dX1_codeOf_14 := dc_cX1_codeOf_dX1_codeOf_0_0.2.2.2.2.2.2.2.2.1
def dX1_codeOf_15 := dc_cX1_codeOf_dX1_codeOf_0_0.2.2.2.2.2.2.2.2.2.1
def dX1_codeOf_18 := dc_cX1_codeOf_dX1_codeOf_0_0.2.2.2.2.2.2.2.2.2.2.1
def dX1_codeOf_19 := dc_cX1_codeOf_dX1_codeOf_0_0.2.2.2.2.2.2.2.2.2.2.2.1
def dX1_codeOf_21 := dc_cX1_codeOf_dX1_codeOf_0_0.2.2.2.2.2.2.2.2.2.2.2.2.1
def dX1_codeOf_22 := dc_cX1_codeOf_dX1_codeOf_0_0.2.2.2.2.2.2.2.2.2.2.2.2.2.1
def dX1_codeOf_23 := dc_cX1_codeOf_dX1_codeOf_0_0.2.2.2.2.2.2.2.2.2.2.2.2.2.2.1
def dX1_codeOf_26 := dc_cX1_codeOf_dX1_codeOf_0_0.2.2.2.2.2.2.2.2.2.2.2.2.2.2.2
set_option maxRecDepth 100000 in
theorem db_cX1_codeOf_dX1_codeOf_27_1 : zw [(27, .iload_n 2, 1), (28, .iload 4, 2), (30, .invokevirtual 59, 3), (33, .invokevirtual 26, 3), (36, .iadd, 1), (37, .istore_n 3, 1), (38, .iinc 4 1, 3), (41, .goto (-29), 3), (44, .iload_n 3, 1), (45, .ireturn, 1)] (cX1_codeOf.data.toList.drop 27) 27 = true := by decide +kernel
def dc_cX1_codeOf_dX1_codeOf_27_1 := zw_10 db_cX1_codeOf_dX1_codeOf_27_1
def dX1_codeOf_27 := dc_cX1_codeOf_dX1_codeOf_27_1.1
def dX1_codeOf_28 := dc_cX1_codeOf_dX1_codeOf_27_1.2.1
def dX1_codeOf_30 := dc_cX1_codeOf_dX1_codeOf_27_1.2.2.1
def dX1_codeOf_33 := dc_cX1_codeOf_dX1_codeOf_27_1.2.2.2.1
def dX1_codeOf_36 := dc_cX1_codeOf_dX1_codeOf_27_1.2.2.2.2.1
def dX1_codeOf_37 := dc_cX1_codeOf_dX1_codeOf_27_1.2.2.2.2.2.1
def dX1_codeOf_38 := dc_cX1_codeOf_dX1_codeOf_27_1.2.2.2.2.2.2.1
def dX1_codeOf_41 := dc_cX1_codeOf_dX1_codeOf_27_1.2.2.2.2.2.2.2.1
def dX1_codeOf_44 := dc_cX1_codeOf_dX1_codeOf_27_1.2.2.2.2.2.2.2.2.1
def dX1_codeOf_45 := dc_cX1_codeOf_dX1_codeOf_27_1.2.2.2.2.2.2.2.2.2
set_option maxRecDepth 100000 in
theorem db_cX1_partOnce_dX1_partOnce_0_0 : zw [(0, .iconst 0, 1), (1, .istore_n 2, 1), (2, .iload_n 2, 1), (3, .aload_n 1, 1), (4, .getfield 30, 3), (7, .if_icmp .ge 23, 3), (10, .aload_n 0, 1), (11, .getfield 20, 3), (14, .iload_n 2, 1), (15, .aload_n 0, 1), (16, .aload_n 1, 1), (17, .iload_n 2, 1), (18, .invokevirtual 52, 3), (21, .invokevirtual 40, 3), (24, .iinc 2 1, 3), (27, .goto (-25), 3)] (cX1_partOnce.data.toList.drop 0) 0 = true := by decide +kernel
def dc_cX1_partOnce_dX1_partOnce_0_0 := zw_16 db_cX1_partOnce_dX1_partOnce_0_0
def dX1_partOnce_0 := dc_cX1_partOnce_dX1_partOnce_0_0.1
def dX1_partOnce_1 := dc_cX1_partOnce_dX1_partOnce_0_0.2.1
def dX1_partOnce_2 := dc_cX1_partOnce_dX1_partOnce_0_0.2.2.1
def dX1_partOnce_3 := dc_cX1_partOnce_dX1_partOnce_0_0.2.2.2.1
def dX1_partOnce_4 := dc_cX1_partOnce_dX1_partOnce_0_0.2.2.2.2.1
def dX1_partOnce_7 := dc_cX1_partOnce_dX1_partOnce_0_0.2.2.2.2.2.1
def dX1_partOnce_10 := dc_cX1_partOnce_dX1_partOnce_0_0.2.2.2.2.2.2.1
def dX1_partOnce_11 := dc_cX1_partOnce_dX1_partOnce_0_0.2.2.2.2.2.2.2.1
def dX1_partOnce_14 := dc_cX1_partOnce_dX1_partOnce_0_0.2.2.2.2.2.2.2.2.1
def dX1_partOnce_15 := dc_cX1_partOnce_dX1_partOnce_0_0.2.2.2.2.2.2.2.2.2.1
def dX1_partOnce_16 := dc_cX1_partOnce_dX1_partOnce_0_0.2.2.2.2.2.2.2.2.2.2.1
def dX1_partOnce_17 := dc_cX1_partOnce_dX1_partOnce_0_0.2.2.2.2.2.2.2.2.2.2.2.1
def dX1_partOnce_18 := dc_cX1_partOnce_dX1_partOnce_0_0.2.2.2.2.2.2.2.2.2.2.2.2.1
def dX1_partOnce_21 := dc_cX1_partOnce_dX1_partOnce_0_0.2.2.2.2.2.2.2.2.2.2.2.2.2.1
def dX1_partOnce_24 := dc_cX1_partOnce_dX1_partOnce_0_0.2.2.2.2.2.2.2.2.2.2.2.2.2.2.1
def dX1_partOnce_27 := dc_cX1_partOnce_dX1_partOnce_0_0.2.2.2.2.2.2.2.2.2.2.2.2.2.2.2
set_option maxRecDepth 100000 in
theorem db_cX1_partOnce_dX1_partOnce_30_1 : zw [(30, .iconst 0, 1), (31, .istore_n 2, 1), (32, .iconst 0, 1), (33, .istore_n 3, 1), (34, .iload_n 3, 1), (35, .aload_n 1, 1), (36, .getfield 30, 3), (39, .if_icmp .ge 61, 3), (42, .aload_n 0, 1), (43, .getfield 20, 3), (46, .aload_n 0, 1), (47, .getfield 20, 3), (50, .iload_n 3, 1), (51, .invokevirtual 26, 3), (54, .aload_n 1, 1), (55, .getfield 30, 3)] (cX1_partOnce.data.toList.drop 30) 30 = true := by decide +kernel
def dc_cX1_partOnce_dX1_partOnce_30_1 := zw_16 db_cX1_partOnce_dX1_partOnce_30_1
def dX1_partOnce_30 := dc_cX1_partOnce_dX1_partOnce_30_1.1
def dX1_partOnce_31 := dc_cX1_partOnce_dX1_partOnce_30_1.2.1
def dX1_partOnce_32 := dc_cX1_partOnce_dX1_partOnce_30_1.2.2.1
def dX1_partOnce_33 := dc_cX1_partOnce_dX1_partOnce_30_1.2.2.2.1
def dX1_partOnce_34 := dc_cX1_partOnce_dX1_partOnce_30_1.2.2.2.2.1
def dX1_partOnce_35 := dc_cX1_partOnce_dX1_partOnce_30_1.2.2.2.2.2.1
def dX1_partOnce_36 := dc_cX1_partOnce_dX1_partOnce_30_1.2.2.2.2.2.2.1
def dX1_partOnce_39 := dc_cX1_partOnce_dX1_partOnce_30_1.2.2.2.2.2.2.2.1
def dX1_partOnce_42 := dc_cX1_partOnce_dX1_partOnce_30_1.2.2.2.2.2.2.2.2.1
def dX1_partOnce_43 := dc_cX1_partOnce_dX1_partOnce_30_1.2.2.2.2.2.2.2.2.2.1
def dX1_partOnce_46 := dc_cX1_partOnce_dX1_partOnce_30_1.2.2.2.2.2.2.2.2.2.2.1
def dX1_partOnce_47 := dc_cX1_partOnce_dX1_partOnce_30_1.2.2.2.2.2.2.2.2.2.2.2.1
def dX1_partOnce_50 := dc_cX1_partOnce_dX1_partOnce_30_1.2.2.2.2.2.2.2.2.2.2.2.2.1
def dX1_partOnce_51 := dc_cX1_partOnce_dX1_partOnce_30_1.2.2.2.2.2.2.2.2.2.2.2.2.2.1
def dX1_partOnce_54 := dc_cX1_partOnce_dX1_partOnce_30_1.2.2.2.2.2.2.2.2.2.2.2.2.2.2.1
def dX1_partOnce_55 := dc_cX1_partOnce_dX1_partOnce_30_1.2.2.2.2.2.2.2.2.2.2.2.2.2.2.2
set_option maxRecDepth 100000 in
theorem db_cX1_partOnce_dX1_partOnce_58_2 : zw [(58, .invokevirtual 55, 3), (61, .istore 4, 2), (63, .iload_n 2, 1), (64, .iload 4, 2), (66, .aload_n 0, 1), (67, .getfield 14, 3), (70, .iload_n 3, 1), (71, .invokevirtual 26, 3), (74, .if_icmp .eq 7, 3), (77, .iconst 1, 1), (78, .goto 4, 3), (81, .iconst 0, 1), (82, .ior, 1), (83, .istore_n 2, 1), (84, .aload_n 0, 1), (85, .getfield 14, 3)] (cX1_partOnce.data.toList.drop 58) 58 = true := by decide +kernel
def dc_cX1_partOnce_dX1_partOnce_58_2 := zw_16 db_cX1_partOnce_dX1_partOnce_58_2
def dX1_partOnce_58 := dc_cX1_partOnce_dX1_partOnce_58_2.1
def dX1_partOnce_61 := dc_cX1_partOnce_dX1_partOnce_58_2.2.1
def dX1_partOnce_63 := dc_cX1_partOnce_dX1_partOnce_58_2.2.2.1
def dX1_partOnce_64 := dc_cX1_partOnce_dX1_partOnce_58_2.2.2.2.1
def dX1_partOnce_66 := dc_cX1_partOnce_dX1_partOnce_58_2.2.2.2.2.1
def dX1_partOnce_67 := dc_cX1_partOnce_dX1_partOnce_58_2.2.2.2.2.2.1
def dX1_partOnce_70 := dc_cX1_partOnce_dX1_partOnce_58_2.2.2.2.2.2.2.1
def dX1_partOnce_71 := dc_cX1_partOnce_dX1_partOnce_58_2.2.2.2.2.2.2.2.1
def dX1_partOnce_74 := dc_cX1_partOnce_dX1_partOnce_58_2.2.2.2.2.2.2.2.2.1
def dX1_partOnce_77 := dc_cX1_partOnce_dX1_partOnce_58_2.2.2.2.2.2.2.2.2.2.1
def dX1_partOnce_78 := dc_cX1_partOnce_dX1_partOnce_58_2.2.2.2.2.2.2.2.2.2.2.1
def dX1_partOnce_81 := dc_cX1_partOnce_dX1_partOnce_58_2.2.2.2.2.2.2.2.2.2.2.2.1
def dX1_partOnce_82 := dc_cX1_partOnce_dX1_partOnce_58_2.2.2.2.2.2.2.2.2.2.2.2.2.1
def dX1_partOnce_83 := dc_cX1_partOnce_dX1_partOnce_58_2.2.2.2.2.2.2.2.2.2.2.2.2.2.1
def dX1_partOnce_84 := dc_cX1_partOnce_dX1_partOnce_58_2.2.2.2.2.2.2.2.2.2.2.2.2.2.2.1
def dX1_partOnce_85 := dc_cX1_partOnce_dX1_partOnce_58_2.2.2.2.2.2.2.2.2.2.2.2.2.2.2.2
set_option maxRecDepth 100000 in
theorem db_cX1_partOnce_dX1_partOnce_88_3 : zw [(88, .iload_n 3, 1), (89, .iload 4, 2), (91, .invokevirtual 40, 3), (94, .iinc 3 1, 3), (97, .goto (-63), 3), (100, .iload_n 2, 1), (101, .ireturn, 1)] (cX1_partOnce.data.toList.drop 88) 88 = true := by decide +kernel
def dc_cX1_partOnce_dX1_partOnce_88_3 := zw_7 db_cX1_partOnce_dX1_partOnce_88_3
def dX1_partOnce_88 := dc_cX1_partOnce_dX1_partOnce_88_3.1
def dX1_partOnce_89 := dc_cX1_partOnce_dX1_partOnce_88_3.2.1
def dX1_partOnce_91 := dc_cX1_partOnce_dX1_partOnce_88_3.2.2.1
def dX1_partOnce_94 := dc_cX1_partOnce_dX1_partOnce_88_3.2.2.2.1
def dX1_partOnce_97 := dc_cX1_partOnce_dX1_partOnce_88_3.2.2.2.2.1
def dX1_partOnce_100 := dc_cX1_partOnce_dX1_partOnce_88_3.2.2.2.2.2.1
def dX1_partOnce_101 := dc_cX1_partOnce_dX1_partOnce_88_3.2.2.2.2.2.2
set_option maxRecDepth 100000 in
theorem db_cX1_findByParting_dX1_findByParting_0_0 : zw [(0, .iconst 0, 1), (1, .istore_n 2, 1), (2, .iload_n 2, 1), (3, .aload_n 1, 1), (4, .getfield 30, 3), (7, .if_icmp .ge 22, 3), (10, .aload_n 0, 1), (11, .getfield 14, 3), (14, .iload_n 2, 1), (15, .aload_n 1, 1), (16, .iload_n 2, 1), (17, .invokestatic 36, 3), (20, .invokevirtual 40, 3), (23, .iinc 2 1, 3), (26, .goto (-24), 3), (29, .iconst 1, 1)] (cX1_findByParting.data.toList.drop 0) 0 = true := by decide +kernel
def dc_cX1_findByParting_dX1_findByParting_0_0 := zw_16 db_cX1_findByParting_dX1_findByParting_0_0
def dX1_findByParting_0 := dc_cX1_findByParting_dX1_findByParting_0_0.1
def dX1_findByParting_1 := dc_cX1_findByParting_dX1_findByParting_0_0.2.1
def dX1_findByParting_2 := dc_cX1_findByParting_dX1_findByParting_0_0.2.2.1
def dX1_findByParting_3 := dc_cX1_findByParting_dX1_findByParting_0_0.2.2.2.1
def dX1_findByParting_4 := dc_cX1_findByParting_dX1_findByParting_0_0.2.2.2.2.1
def dX1_findByParting_7 := dc_cX1_findByParting_dX1_findByParting_0_0.2.2.2.2.2.1
def dX1_findByParting_10 := dc_cX1_findByParting_dX1_findByParting_0_0.2.2.2.2.2.2.1
def dX1_findByParting_11 := dc_cX1_findByParting_dX1_findByParting_0_0.2.2.2.2.2.2.2.1
def dX1_findByParting_14 := dc_cX1_findByParting_dX1_findByParting_0_0.2.2.2.2.2.2.2.2.1
def dX1_findByParting_15 := dc_cX1_findByParting_dX1_findByParting_0_0.2.2.2.2.2.2.2.2.2.1
def dX1_findByParting_16 := dc_cX1_findByParting_dX1_findByParting_0_0.2.2.2.2.2.2.2.2.2.2.1
def dX1_findByParting_17 := dc_cX1_findByParting_dX1_findByParting_0_0.2.2.2.2.2.2.2.2.2.2.2.1
def dX1_findByParting_20 := dc_cX1_findByParting_dX1_findByParting_0_0.2.2.2.2.2.2.2.2.2.2.2.2.1
def dX1_findByParting_23 := dc_cX1_findByParting_dX1_findByParting_0_0.2.2.2.2.2.2.2.2.2.2.2.2.2.1
def dX1_findByParting_26 := dc_cX1_findByParting_dX1_findByParting_0_0.2.2.2.2.2.2.2.2.2.2.2.2.2.2.1
def dX1_findByParting_29 := dc_cX1_findByParting_dX1_findByParting_0_0.2.2.2.2.2.2.2.2.2.2.2.2.2.2.2
set_option maxRecDepth 100000 in
theorem db_cX1_findByParting_dX1_findByParting_30_1 : zw [(30, .istore_n 2, 1), (31, .iconst 0, 1), (32, .istore_n 3, 1), (33, .iload_n 3, 1), (34, .bipush 32, 2), (36, .if_icmp .ge 19, 3), (39, .iload_n 2, 1), (40, .ifCond .eq 15, 3), (43, .aload_n 0, 1), (44, .aload_n 1, 1), (45, .invokevirtual 44, 3), (48, .istore_n 2, 1), (49, .iinc 3 1, 3), (52, .goto (-19), 3), (55, .return_, 1)] (cX1_findByParting.data.toList.drop 30) 30 = true := by decide +kernel
def dc_cX1_findByParting_dX1_findByParting_30_1 := zw_15 db_cX1_findByParting_dX1_findByParting_30_1
def dX1_findByParting_30 := dc_cX1_findByParting_dX1_findByParting_30_1.1
def dX1_findByParting_31 := dc_cX1_findByParting_dX1_findByParting_30_1.2.1
def dX1_findByParting_32 := dc_cX1_findByParting_dX1_findByParting_30_1.2.2.1
def dX1_findByParting_33 := dc_cX1_findByParting_dX1_findByParting_30_1.2.2.2.1
def dX1_findByParting_34 := dc_cX1_findByParting_dX1_findByParting_30_1.2.2.2.2.1
def dX1_findByParting_36 := dc_cX1_findByParting_dX1_findByParting_30_1.2.2.2.2.2.1
def dX1_findByParting_39 := dc_cX1_findByParting_dX1_findByParting_30_1.2.2.2.2.2.2.1
def dX1_findByParting_40 := dc_cX1_findByParting_dX1_findByParting_30_1.2.2.2.2.2.2.2.1
def dX1_findByParting_43 := dc_cX1_findByParting_dX1_findByParting_30_1.2.2.2.2.2.2.2.2.1
def dX1_findByParting_44 := dc_cX1_findByParting_dX1_findByParting_30_1.2.2.2.2.2.2.2.2.2.1
def dX1_findByParting_45 := dc_cX1_findByParting_dX1_findByParting_30_1.2.2.2.2.2.2.2.2.2.2.1
def dX1_findByParting_48 := dc_cX1_findByParting_dX1_findByParting_30_1.2.2.2.2.2.2.2.2.2.2.2.1
def dX1_findByParting_49 := dc_cX1_findByParting_dX1_findByParting_30_1.2.2.2.2.2.2.2.2.2.2.2.2.1
def dX1_findByParting_52 := dc_cX1_findByParting_dX1_findByParting_30_1.2.2.2.2.2.2.2.2.2.2.2.2.2.1
def dX1_findByParting_55 := dc_cX1_findByParting_dX1_findByParting_30_1.2.2.2.2.2.2.2.2.2.2.2.2.2.2
set_option maxRecDepth 100000 in
theorem db_cX1_partOf_dX1_partOf_0_0 : zw [(0, .aload_n 0, 1), (1, .getfield 14, 3), (4, .iload_n 1, 1), (5, .invokevirtual 26, 3), (8, .ireturn, 1)] (cX1_partOf.data.toList.drop 0) 0 = true := by decide +kernel
def dc_cX1_partOf_dX1_partOf_0_0 := zw_5 db_cX1_partOf_dX1_partOf_0_0
def dX1_partOf_0 := dc_cX1_partOf_dX1_partOf_0_0.1
def dX1_partOf_1 := dc_cX1_partOf_dX1_partOf_0_0.2.1
def dX1_partOf_4 := dc_cX1_partOf_dX1_partOf_0_0.2.2.1
def dX1_partOf_5 := dc_cX1_partOf_dX1_partOf_0_0.2.2.2.1
def dX1_partOf_8 := dc_cX1_partOf_dX1_partOf_0_0.2.2.2.2
set_option maxRecDepth 100000 in
theorem db_cX3_groupNumber_dX3_groupNumber_0_0 : zw [(0, .aload_n 0, 1), (1, .getfield 29, 3), (4, .iload_n 1, 1), (5, .invokevirtual 115, 3), (8, .istore_n 3, 1), (9, .aload_n 0, 1), (10, .getfield 23, 3), (13, .iload_n 3, 1), (14, .invokevirtual 89, 3), (17, .iconst (-1), 1), (18, .if_icmp .ne 37, 3), (21, .aload_n 0, 1), (22, .getfield 23, 3), (25, .iload_n 3, 1), (26, .aload_n 2, 1), (27, .getfield 83, 3)] (cX3_groupNumber.data.toList.drop 0) 0 = true := by decide +kernel
def dc_cX3_groupNumber_dX3_groupNumber_0_0 := zw_16 db_cX3_groupNumber_dX3_groupNumber_0_0
def dX3_groupNumber_0 := dc_cX3_groupNumber_dX3_groupNumber_0_0.1
def dX3_groupNumber_1 := dc_cX3_groupNumber_dX3_groupNumber_0_0.2.1
def dX3_groupNumber_4 := dc_cX3_groupNumber_dX3_groupNumber_0_0.2.2.1
def dX3_groupNumber_5 := dc_cX3_groupNumber_dX3_groupNumber_0_0.2.2.2.1
def dX3_groupNumber_8 := dc_cX3_groupNumber_dX3_groupNumber_0_0.2.2.2.2.1
def dX3_groupNumber_9 := dc_cX3_groupNumber_dX3_groupNumber_0_0.2.2.2.2.2.1
def dX3_groupNumber_10 := dc_cX3_groupNumber_dX3_groupNumber_0_0.2.2.2.2.2.2.1
def dX3_groupNumber_13 := dc_cX3_groupNumber_dX3_groupNumber_0_0.2.2.2.2.2.2.2.1
def dX3_groupNumber_14 := dc_cX3_groupNumber_dX3_groupNumber_0_0.2.2.2.2.2.2.2.2.1
def dX3_groupNumber_17 := dc_cX3_groupNumber_dX3_groupNumber_0_0.2.2.2.2.2.2.2.2.2.1
def dX3_groupNumber_18 := dc_cX3_groupNumber_dX3_groupNumber_0_0.2.2.2.2.2.2.2.2.2.2.1
def dX3_groupNumber_21 := dc_cX3_groupNumber_dX3_groupNumber_0_0.2.2.2.2.2.2.2.2.2.2.2.1
def dX3_groupNumber_22 := dc_cX3_groupNumber_dX3_groupNumber_0_0.2.2.2.2.2.2.2.2.2.2.2.2.1
def dX3_groupNumber_25 := dc_cX3_groupNumber_dX3_groupNumber_0_0.2.2.2.2.2.2.2.2.2.2.2.2.2.1
def dX3_groupNumber_26 := dc_cX3_groupNumber_dX3_groupNumber_0_0.2.2.2.2.2.2.2.2.2.2.2.2.2.2.1
def dX3_groupNumber_27 := dc_cX3_groupNumber_dX3_groupNumber_0_0.2.2.2.2.2.2.2.2.2.2.2.2.2.2.2
set_option maxRecDepth 100000 in
theorem db_cX3_groupNumber_dX3_groupNumber_30_1 : zw [(30, .invokevirtual 79, 3), (33, .aload_n 0, 1), (34, .getfield 20, 3), (37, .aload_n 2, 1), (38, .getfield 83, 3), (41, .iload_n 1, 1), (42, .invokevirtual 79, 3), (45, .aload_n 2, 1), (46, .dup, 1), (47, .getfield 83, 3), (50, .iconst 1, 1), (51, .iadd, 1), (52, .putfield 83, 3), (55, .aload_n 0, 1), (56, .getfield 23, 3), (59, .iload_n 3, 1)] (cX3_groupNumber.data.toList.drop 30) 30 = true := by decide +kernel
def dc_cX3_groupNumber_dX3_groupNumber_30_1 := zw_16 db_cX3_groupNumber_dX3_groupNumber_30_1
def dX3_groupNumber_30 := dc_cX3_groupNumber_dX3_groupNumber_30_1.1
def dX3_groupNumber_33 := dc_cX3_groupNumber_dX3_groupNumber_30_1.2.1
def dX3_groupNumber_34 := dc_cX3_groupNumber_dX3_groupNumber_30_1.2.2.1
def dX3_groupNumber_37 := dc_cX3_groupNumber_dX3_groupNumber_30_1.2.2.2.1
def dX3_groupNumber_38 := dc_cX3_groupNumber_dX3_groupNumber_30_1.2.2.2.2.1
def dX3_groupNumber_41 := dc_cX3_groupNumber_dX3_groupNumber_30_1.2.2.2.2.2.1
def dX3_groupNumber_42 := dc_cX3_groupNumber_dX3_groupNumber_30_1.2.2.2.2.2.2.1
def dX3_groupNumber_45 := dc_cX3_groupNumber_dX3_groupNumber_30_1.2.2.2.2.2.2.2.1
def dX3_groupNumber_46 := dc_cX3_groupNumber_dX3_groupNumber_30_1.2.2.2.2.2.2.2.2.1
def dX3_groupNumber_47 := dc_cX3_groupNumber_dX3_groupNumber_30_1.2.2.2.2.2.2.2.2.2.1
def dX3_groupNumber_50 := dc_cX3_groupNumber_dX3_groupNumber_30_1.2.2.2.2.2.2.2.2.2.2.1
def dX3_groupNumber_51 := dc_cX3_groupNumber_dX3_groupNumber_30_1.2.2.2.2.2.2.2.2.2.2.2.1
def dX3_groupNumber_52 := dc_cX3_groupNumber_dX3_groupNumber_30_1.2.2.2.2.2.2.2.2.2.2.2.2.1
def dX3_groupNumber_55 := dc_cX3_groupNumber_dX3_groupNumber_30_1.2.2.2.2.2.2.2.2.2.2.2.2.2.1
def dX3_groupNumber_56 := dc_cX3_groupNumber_dX3_groupNumber_30_1.2.2.2.2.2.2.2.2.2.2.2.2.2.2.1
def dX3_groupNumber_59 := dc_cX3_groupNumber_dX3_groupNumber_30_1.2.2.2.2.2.2.2.2.2.2.2.2.2.2.2
set_option maxRecDepth 100000 in
theorem db_cX3_groupNumber_dX3_groupNumber_60_2 : zw [(60, .invokevirtual 89, 3), (63, .ireturn, 1)] (cX3_groupNumber.data.toList.drop 60) 60 = true := by decide +kernel
def dc_cX3_groupNumber_dX3_groupNumber_60_2 := zw_2 db_cX3_groupNumber_dX3_groupNumber_60_2
def dX3_groupNumber_60 := dc_cX3_groupNumber_dX3_groupNumber_60_2.1
def dX3_groupNumber_63 := dc_cX3_groupNumber_dX3_groupNumber_60_2.2
set_option maxRecDepth 100000 in
theorem db_cX3_makeGroups_dX3_makeGroups_0_0 : zw [(0, .aload_n 0, 1), (1, .getfield 23, 3), (4, .iconst (-1), 1), (5, .invokevirtual 112, 3), (8, .aload_n 0, 1), (9, .getfield 23, 3), (12, .aload_n 0, 1), (13, .getfield 29, 3), (16, .iconst 0, 1), (17, .invokevirtual 115, 3), (20, .iconst 0, 1), (21, .invokevirtual 79, 3), (24, .aload_n 0, 1), (25, .getfield 20, 3), (28, .iconst 0, 1), (29, .iconst 0, 1)] (cX3_makeGroups.data.toList.drop 0) 0 = true := by decide +kernel
def dc_cX3_makeGroups_dX3_makeGroups_0_0 := zw_16 db_cX3_makeGroups_dX3_makeGroups_0_0
def dX3_makeGroups_0 := dc_cX3_makeGroups_dX3_makeGroups_0_0.1
def dX3_makeGroups_1 := dc_cX3_makeGroups_dX3_makeGroups_0_0.2.1
def dX3_makeGroups_4 := dc_cX3_makeGroups_dX3_makeGroups_0_0.2.2.1
def dX3_makeGroups_5 := dc_cX3_makeGroups_dX3_makeGroups_0_0.2.2.2.1
def dX3_makeGroups_8 := dc_cX3_makeGroups_dX3_makeGroups_0_0.2.2.2.2.1
def dX3_makeGroups_9 := dc_cX3_makeGroups_dX3_makeGroups_0_0.2.2.2.2.2.1
def dX3_makeGroups_12 := dc_cX3_makeGroups_dX3_makeGroups_0_0.2.2.2.2.2.2.1
def dX3_makeGroups_13 := dc_cX3_makeGroups_dX3_makeGroups_0_0.2.2.2.2.2.2.2.1
def dX3_makeGroups_16 := dc_cX3_makeGroups_dX3_makeGroups_0_0.2.2.2.2.2.2.2.2.1
def dX3_makeGroups_17 := dc_cX3_makeGroups_dX3_makeGroups_0_0.2.2.2.2.2.2.2.2.2.1
def dX3_makeGroups_20 := dc_cX3_makeGroups_dX3_makeGroups_0_0.2.2.2.2.2.2.2.2.2.2.1
def dX3_makeGroups_21 := dc_cX3_makeGroups_dX3_makeGroups_0_0.2.2.2.2.2.2.2.2.2.2.2.1
def dX3_makeGroups_24 := dc_cX3_makeGroups_dX3_makeGroups_0_0.2.2.2.2.2.2.2.2.2.2.2.2.1
def dX3_makeGroups_25 := dc_cX3_makeGroups_dX3_makeGroups_0_0.2.2.2.2.2.2.2.2.2.2.2.2.2.1
def dX3_makeGroups_28 := dc_cX3_makeGroups_dX3_makeGroups_0_0.2.2.2.2.2.2.2.2.2.2.2.2.2.2.1
def dX3_makeGroups_29 := dc_cX3_makeGroups_dX3_makeGroups_0_0.2.2.2.2.2.2.2.2.2.2.2.2.2.2.2
set_option maxRecDepth 100000 in
theorem db_cX3_makeGroups_dX3_makeGroups_30_1 : zw [(30, .invokevirtual 79, 3), (33, .aload_n 2, 1), (34, .iconst 1, 1), (35, .putfield 83, 3), (38, .aload_n 2, 1), (39, .iconst 0, 1), (40, .putfield 86, 3), (43, .iconst 0, 1), (44, .istore_n 3, 1), (45, .iload_n 3, 1), (46, .bipush 32, 2), (48, .if_icmp .ge 80, 3), (51, .iload_n 3, 1), (52, .aload_n 2, 1), (53, .getfield 83, 3), (56, .if_icmp .ge 72, 3)] (cX3_makeGroups.data.toList.drop 30) 30 = true := by decide +kernel
def dc_cX3_makeGroups_dX3_makeGroups_30_1 := zw_16 db_cX3_makeGroups_dX3_makeGroups_30_1
def dX3_makeGroups_30 := dc_cX3_makeGroups_dX3_makeGroups_30_1.1
def dX3_makeGroups_33 := dc_cX3_makeGroups_dX3_makeGroups_30_1.2.1
def dX3_makeGroups_34 := dc_cX3_makeGroups_dX3_makeGroups_30_1.2.2.1
def dX3_makeGroups_35 := dc_cX3_makeGroups_dX3_makeGroups_30_1.2.2.2.1
def dX3_makeGroups_38 := dc_cX3_makeGroups_dX3_makeGroups_30_1.2.2.2.2.1
def dX3_makeGroups_39 := dc_cX3_makeGroups_dX3_makeGroups_30_1.2.2.2.2.2.1
def dX3_makeGroups_40 := dc_cX3_makeGroups_dX3_makeGroups_30_1.2.2.2.2.2.2.1
def dX3_makeGroups_43 := dc_cX3_makeGroups_dX3_makeGroups_30_1.2.2.2.2.2.2.2.1
def dX3_makeGroups_44 := dc_cX3_makeGroups_dX3_makeGroups_30_1.2.2.2.2.2.2.2.2.1
def dX3_makeGroups_45 := dc_cX3_makeGroups_dX3_makeGroups_30_1.2.2.2.2.2.2.2.2.2.1
def dX3_makeGroups_46 := dc_cX3_makeGroups_dX3_makeGroups_30_1.2.2.2.2.2.2.2.2.2.2.1
def dX3_makeGroups_48 := dc_cX3_makeGroups_dX3_makeGroups_30_1.2.2.2.2.2.2.2.2.2.2.2.1
def dX3_makeGroups_51 := dc_cX3_makeGroups_dX3_makeGroups_30_1.2.2.2.2.2.2.2.2.2.2.2.2.1
def dX3_makeGroups_52 := dc_cX3_makeGroups_dX3_makeGroups_30_1.2.2.2.2.2.2.2.2.2.2.2.2.2.1
def dX3_makeGroups_53 := dc_cX3_makeGroups_dX3_makeGroups_30_1.2.2.2.2.2.2.2.2.2.2.2.2.2.2.1
def dX3_makeGroups_56 := dc_cX3_makeGroups_dX3_makeGroups_30_1.2.2.2.2.2.2.2.2.2.2.2.2.2.2.2
set_option maxRecDepth 100000 in
theorem db_cX3_makeGroups_dX3_makeGroups_59_2 : zw [(59, .aload_n 0, 1), (60, .getfield 20, 3), (63, .iload_n 3, 1), (64, .invokevirtual 89, 3), (67, .istore 4, 2), (69, .aload_n 2, 1), (70, .aload_n 2, 1), (71, .getfield 86, 3), (74, .iload_n 3, 1), (75, .aload_n 1, 1), (76, .iload 4, 2), (78, .invokevirtual 118, 3), (81, .invokestatic 94, 3), (84, .putfield 86, 3), (87, .iconst 0, 1), (88, .istore 5, 2)] (cX3_makeGroups.data.toList.drop 59) 59 = true := by decide +kernel
def dc_cX3_makeGroups_dX3_makeGroups_59_2 := zw_16 db_cX3_makeGroups_dX3_makeGroups_59_2
def dX3_makeGroups_59 := dc_cX3_makeGroups_dX3_makeGroups_59_2.1
def dX3_makeGroups_60 := dc_cX3_makeGroups_dX3_makeGroups_59_2.2.1
def dX3_makeGroups_63 := dc_cX3_makeGroups_dX3_makeGroups_59_2.2.2.1
def dX3_makeGroups_64 := dc_cX3_makeGroups_dX3_makeGroups_59_2.2.2.2.1
def dX3_makeGroups_67 := dc_cX3_makeGroups_dX3_makeGroups_59_2.2.2.2.2.1
def dX3_makeGroups_69 := dc_cX3_makeGroups_dX3_makeGroups_59_2.2.2.2.2.2.1
def dX3_makeGroups_70 := dc_cX3_makeGroups_dX3_makeGroups_59_2.2.2.2.2.2.2.1
def dX3_makeGroups_71 := dc_cX3_makeGroups_dX3_makeGroups_59_2.2.2.2.2.2.2.2.1
def dX3_makeGroups_74 := dc_cX3_makeGroups_dX3_makeGroups_59_2.2.2.2.2.2.2.2.2.1
def dX3_makeGroups_75 := dc_cX3_makeGroups_dX3_makeGroups_59_2.2.2.2.2.2.2.2.2.2.1
def dX3_makeGroups_76 := dc_cX3_makeGroups_dX3_makeGroups_59_2.2.2.2.2.2.2.2.2.2.2.1
def dX3_makeGroups_78 := dc_cX3_makeGroups_dX3_makeGroups_59_2.2.2.2.2.2.2.2.2.2.2.2.1
def dX3_makeGroups_81 := dc_cX3_makeGroups_dX3_makeGroups_59_2.2.2.2.2.2.2.2.2.2.2.2.2.1
def dX3_makeGroups_84 := dc_cX3_makeGroups_dX3_makeGroups_59_2.2.2.2.2.2.2.2.2.2.2.2.2.2.1
def dX3_makeGroups_87 := dc_cX3_makeGroups_dX3_makeGroups_59_2.2.2.2.2.2.2.2.2.2.2.2.2.2.2.1
def dX3_makeGroups_88 := dc_cX3_makeGroups_dX3_makeGroups_59_2.2.2.2.2.2.2.2.2.2.2.2.2.2.2.2
set_option maxRecDepth 100000 in
theorem db_cX3_makeGroups_dX3_makeGroups_90_3 : zw [(90, .iload 5, 2), (92, .iconst 3, 1), (93, .if_icmp .ge 29, 3), (96, .aload_n 2, 1), (97, .iload_n 3, 1), (98, .iload 5, 2), (100, .aload_n 0, 1), (101, .aload_n 1, 1), (102, .iload 4, 2), (104, .iload 5, 2), (106, .invokevirtual 122, 3), (109, .aload_n 2, 1), (110, .invokevirtual 124, 3), (113, .invokevirtual 106, 3), (116, .iinc 5 1, 3), (119, .goto (-29), 3)] (cX3_makeGroups.data.toList.drop 90) 90 = true := by decide +kernel
def dc_cX3_makeGroups_dX3_makeGroups_90_3 := zw_16 db_cX3_makeGroups_dX3_makeGroups_90_3
def dX3_makeGroups_90 := dc_cX3_makeGroups_dX3_makeGroups_90_3.1
def dX3_makeGroups_92 := dc_cX3_makeGroups_dX3_makeGroups_90_3.2.1
def dX3_makeGroups_93 := dc_cX3_makeGroups_dX3_makeGroups_90_3.2.2.1
def dX3_makeGroups_96 := dc_cX3_makeGroups_dX3_makeGroups_90_3.2.2.2.1
def dX3_makeGroups_97 := dc_cX3_makeGroups_dX3_makeGroups_90_3.2.2.2.2.1
def dX3_makeGroups_98 := dc_cX3_makeGroups_dX3_makeGroups_90_3.2.2.2.2.2.1
def dX3_makeGroups_100 := dc_cX3_makeGroups_dX3_makeGroups_90_3.2.2.2.2.2.2.1
def dX3_makeGroups_101 := dc_cX3_makeGroups_dX3_makeGroups_90_3.2.2.2.2.2.2.2.1
def dX3_makeGroups_102 := dc_cX3_makeGroups_dX3_makeGroups_90_3.2.2.2.2.2.2.2.2.1
def dX3_makeGroups_104 := dc_cX3_makeGroups_dX3_makeGroups_90_3.2.2.2.2.2.2.2.2.2.1
def dX3_makeGroups_106 := dc_cX3_makeGroups_dX3_makeGroups_90_3.2.2.2.2.2.2.2.2.2.2.1
def dX3_makeGroups_109 := dc_cX3_makeGroups_dX3_makeGroups_90_3.2.2.2.2.2.2.2.2.2.2.2.1
def dX3_makeGroups_110 := dc_cX3_makeGroups_dX3_makeGroups_90_3.2.2.2.2.2.2.2.2.2.2.2.2.1
def dX3_makeGroups_113 := dc_cX3_makeGroups_dX3_makeGroups_90_3.2.2.2.2.2.2.2.2.2.2.2.2.2.1
def dX3_makeGroups_116 := dc_cX3_makeGroups_dX3_makeGroups_90_3.2.2.2.2.2.2.2.2.2.2.2.2.2.2.1
def dX3_makeGroups_119 := dc_cX3_makeGroups_dX3_makeGroups_90_3.2.2.2.2.2.2.2.2.2.2.2.2.2.2.2
set_option maxRecDepth 100000 in
theorem db_cX3_makeGroups_dX3_makeGroups_122_4 : zw [(122, .iinc 3 1, 3), (125, .goto (-80), 3), (128, .return_, 1)] (cX3_makeGroups.data.toList.drop 122) 122 = true := by decide +kernel
def dc_cX3_makeGroups_dX3_makeGroups_122_4 := zw_3 db_cX3_makeGroups_dX3_makeGroups_122_4
def dX3_makeGroups_122 := dc_cX3_makeGroups_dX3_makeGroups_122_4.1
def dX3_makeGroups_125 := dc_cX3_makeGroups_dX3_makeGroups_122_4.2.1
def dX3_makeGroups_128 := dc_cX3_makeGroups_dX3_makeGroups_122_4.2.2
set_option maxRecDepth 100000 in
theorem db_cX3_lessen_dX3_lessen_0_0 : zw [(0, .aload_n 0, 1), (1, .getfield 29, 3), (4, .aload_n 1, 1), (5, .invokevirtual 61, 3), (8, .aload_n 0, 1), (9, .aload_n 1, 1), (10, .aload_n 2, 1), (11, .invokevirtual 64, 3), (14, .return_, 1)] (cX3_lessen.data.toList.drop 0) 0 = true := by decide +kernel
def dc_cX3_lessen_dX3_lessen_0_0 := zw_9 db_cX3_lessen_dX3_lessen_0_0
def dX3_lessen_0 := dc_cX3_lessen_dX3_lessen_0_0.1
def dX3_lessen_1 := dc_cX3_lessen_dX3_lessen_0_0.2.1
def dX3_lessen_4 := dc_cX3_lessen_dX3_lessen_0_0.2.2.1
def dX3_lessen_5 := dc_cX3_lessen_dX3_lessen_0_0.2.2.2.1
def dX3_lessen_8 := dc_cX3_lessen_dX3_lessen_0_0.2.2.2.2.1
def dX3_lessen_9 := dc_cX3_lessen_dX3_lessen_0_0.2.2.2.2.2.1
def dX3_lessen_10 := dc_cX3_lessen_dX3_lessen_0_0.2.2.2.2.2.2.1
def dX3_lessen_11 := dc_cX3_lessen_dX3_lessen_0_0.2.2.2.2.2.2.2.1
def dX3_lessen_14 := dc_cX3_lessen_dX3_lessen_0_0.2.2.2.2.2.2.2.2
set_option maxRecDepth 100000 in
theorem db_cX9_putTogether_dX9_putTogether_0_0 : zw [(0, .aload_n 0, 1), (1, .aload_n 1, 1), (2, .aload_n 2, 1), (3, .bipush 32, 2), (5, .iconst 1, 1), (6, .invokevirtual 284, 3), (9, .ifCond .ne 5, 3), (12, .iconst 0, 1), (13, .ireturn, 1), (14, .aload_n 0, 1), (15, .getfield 63, 3), (18, .aload_n 0, 1), (19, .getfield 42, 3), (22, .iload_n 3, 1), (23, .invokevirtual 296, 3), (26, .aload_n 0, 1)] (cX9_putTogether.data.toList.drop 0) 0 = true := by decide +kernel
def dc_cX9_putTogether_dX9_putTogether_0_0 := zw_16 db_cX9_putTogether_dX9_putTogether_0_0
def dX9_putTogether_0 := dc_cX9_putTogether_dX9_putTogether_0_0.1
def dX9_putTogether_1 := dc_cX9_putTogether_dX9_putTogether_0_0.2.1
def dX9_putTogether_2 := dc_cX9_putTogether_dX9_putTogether_0_0.2.2.1
def dX9_putTogether_3 := dc_cX9_putTogether_dX9_putTogether_0_0.2.2.2.1
def dX9_putTogether_5 := dc_cX9_putTogether_dX9_putTogether_0_0.2.2.2.2.1
def dX9_putTogether_6 := dc_cX9_putTogether_dX9_putTogether_0_0.2.2.2.2.2.1
def dX9_putTogether_9 := dc_cX9_putTogether_dX9_putTogether_0_0.2.2.2.2.2.2.1
def dX9_putTogether_12 := dc_cX9_putTogether_dX9_putTogether_0_0.2.2.2.2.2.2.2.1
def dX9_putTogether_13 := dc_cX9_putTogether_dX9_putTogether_0_0.2.2.2.2.2.2.2.2.1
def dX9_putTogether_14 := dc_cX9_putTogether_dX9_putTogether_0_0.2.2.2.2.2.2.2.2.2.1
def dX9_putTogether_15 := dc_cX9_putTogether_dX9_putTogether_0_0.2.2.2.2.2.2.2.2.2.2.1
def dX9_putTogether_18 := dc_cX9_putTogether_dX9_putTogether_0_0.2.2.2.2.2.2.2.2.2.2.2.1
def dX9_putTogether_19 := dc_cX9_putTogether_dX9_putTogether_0_0.2.2.2.2.2.2.2.2.2.2.2.2.1
def dX9_putTogether_22 := dc_cX9_putTogether_dX9_putTogether_0_0.2.2.2.2.2.2.2.2.2.2.2.2.2.1
def dX9_putTogether_23 := dc_cX9_putTogether_dX9_putTogether_0_0.2.2.2.2.2.2.2.2.2.2.2.2.2.2.1
def dX9_putTogether_26 := dc_cX9_putTogether_dX9_putTogether_0_0.2.2.2.2.2.2.2.2.2.2.2.2.2.2.2
set_option maxRecDepth 100000 in
theorem db_cX9_putTogether_dX9_putTogether_27_1 : zw [(27, .getfield 35, 3), (30, .aload_n 0, 1), (31, .getfield 63, 3), (34, .aload_n 0, 1), (35, .getfield 66, 3), (38, .invokevirtual 300, 3), (41, .iconst 1, 1), (42, .ireturn, 1)] (cX9_putTogether.data.toList.drop 27) 27 = true := by decide +kernel
def dc_cX9_putTogether_dX9_putTogether_27_1 := zw_8 db_cX9_putTogether_dX9_putTogether_27_1
def dX9_putTogether_27 := dc_cX9_putTogether_dX9_putTogether_27_1.1
def dX9_putTogether_30 := dc_cX9_putTogether_dX9_putTogether_27_1.2.1
def dX9_putTogether_31 := dc_cX9_putTogether_dX9_putTogether_27_1.2.2.1
def dX9_putTogether_34 := dc_cX9_putTogether_dX9_putTogether_27_1.2.2.2.1
def dX9_putTogether_35 := dc_cX9_putTogether_dX9_putTogether_27_1.2.2.2.2.1
def dX9_putTogether_38 := dc_cX9_putTogether_dX9_putTogether_27_1.2.2.2.2.2.1
def dX9_putTogether_41 := dc_cX9_putTogether_dX9_putTogether_27_1.2.2.2.2.2.2.1
def dX9_putTogether_42 := dc_cX9_putTogether_dX9_putTogether_27_1.2.2.2.2.2.2.2
set_option maxRecDepth 100000 in
theorem db_cX5_stateAfter_dX5_stateAfter_0_0 : zw [(0, .iconst 0, 1), (1, .istore_n 3, 1), (2, .iload_n 2, 1), (3, .istore 4, 2), (5, .iconst 0, 1), (6, .istore 5, 2), (8, .iload 5, 2), (10, .iload_n 1, 1), (11, .if_icmp .ge 25, 3), (14, .aload_n 0, 1), (15, .iload_n 3, 1), (16, .iload 4, 2), (18, .iconst 3, 1), (19, .irem, 1), (20, .invokevirtual 46, 3), (23, .istore_n 3, 1)] (cX5_stateAfter.data.toList.drop 0) 0 = true := by decide +kernel
def dc_cX5_stateAfter_dX5_stateAfter_0_0 := zw_16 db_cX5_stateAfter_dX5_stateAfter_0_0
def dX5_stateAfter_0 := dc_cX5_stateAfter_dX5_stateAfter_0_0.1
def dX5_stateAfter_1 := dc_cX5_stateAfter_dX5_stateAfter_0_0.2.1
def dX5_stateAfter_2 := dc_cX5_stateAfter_dX5_stateAfter_0_0.2.2.1
def dX5_stateAfter_3 := dc_cX5_stateAfter_dX5_stateAfter_0_0.2.2.2.1
def dX5_stateAfter_5 := dc_cX5_stateAfter_dX5_stateAfter_0_0.2.2.2.2.1
def dX5_stateAfter_6 := dc_cX5_stateAfter_dX5_stateAfter_0_0.2.2.2.2.2.1
def dX5_stateAfter_8 := dc_cX5_stateAfter_dX5_stateAfter_0_0.2.2.2.2.2.2.1
def dX5_stateAfter_10 := dc_cX5_stateAfter_dX5_stateAfter_0_0.2.2.2.2.2.2.2.1
def dX5_stateAfter_11 := dc_cX5_stateAfter_dX5_stateAfter_0_0.2.2.2.2.2.2.2.2.1
def dX5_stateAfter_14 := dc_cX5_stateAfter_dX5_stateAfter_0_0.2.2.2.2.2.2.2.2.2.1
def dX5_stateAfter_15 := dc_cX5_stateAfter_dX5_stateAfter_0_0.2.2.2.2.2.2.2.2.2.2.1
def dX5_stateAfter_16 := dc_cX5_stateAfter_dX5_stateAfter_0_0.2.2.2.2.2.2.2.2.2.2.2.1
def dX5_stateAfter_18 := dc_cX5_stateAfter_dX5_stateAfter_0_0.2.2.2.2.2.2.2.2.2.2.2.2.1
def dX5_stateAfter_19 := dc_cX5_stateAfter_dX5_stateAfter_0_0.2.2.2.2.2.2.2.2.2.2.2.2.2.1
def dX5_stateAfter_20 := dc_cX5_stateAfter_dX5_stateAfter_0_0.2.2.2.2.2.2.2.2.2.2.2.2.2.2.1
def dX5_stateAfter_23 := dc_cX5_stateAfter_dX5_stateAfter_0_0.2.2.2.2.2.2.2.2.2.2.2.2.2.2.2
set_option maxRecDepth 100000 in
theorem db_cX5_stateAfter_dX5_stateAfter_24_1 : zw [(24, .iload 4, 2), (26, .iconst 3, 1), (27, .idiv, 1), (28, .istore 4, 2), (30, .iinc 5 1, 3), (33, .goto (-25), 3), (36, .iload_n 3, 1), (37, .ireturn, 1)] (cX5_stateAfter.data.toList.drop 24) 24 = true := by decide +kernel
def dc_cX5_stateAfter_dX5_stateAfter_24_1 := zw_8 db_cX5_stateAfter_dX5_stateAfter_24_1
def dX5_stateAfter_24 := dc_cX5_stateAfter_dX5_stateAfter_24_1.1
def dX5_stateAfter_26 := dc_cX5_stateAfter_dX5_stateAfter_24_1.2.1
def dX5_stateAfter_27 := dc_cX5_stateAfter_dX5_stateAfter_24_1.2.2.1
def dX5_stateAfter_28 := dc_cX5_stateAfter_dX5_stateAfter_24_1.2.2.2.1
def dX5_stateAfter_30 := dc_cX5_stateAfter_dX5_stateAfter_24_1.2.2.2.2.1
def dX5_stateAfter_33 := dc_cX5_stateAfter_dX5_stateAfter_24_1.2.2.2.2.2.1
def dX5_stateAfter_36 := dc_cX5_stateAfter_dX5_stateAfter_24_1.2.2.2.2.2.2.1
def dX5_stateAfter_37 := dc_cX5_stateAfter_dX5_stateAfter_24_1.2.2.2.2.2.2.2
set_option maxRecDepth 100000 in
theorem db_cX2_statesAfter_dX2_statesAfter_0_0 : zw [(0, .aload_n 0, 1), (1, .getfield 9, 3), (4, .istore_n 3, 1), (5, .iload_n 2, 1), (6, .istore 4, 2), (8, .iconst 0, 1), (9, .istore 5, 2), (11, .iload 5, 2), (13, .iload_n 1, 1), (14, .if_icmp .ge 25, 3), (17, .aload_n 0, 1), (18, .iload_n 3, 1), (19, .iload 4, 2), (21, .iconst 3, 1), (22, .irem, 1), (23, .invokevirtual 72, 3)] (cX2_statesAfter.data.toList.drop 0) 0 = true := by decide +kernel
def dc_cX2_statesAfter_dX2_statesAfter_0_0 := zw_16 db_cX2_statesAfter_dX2_statesAfter_0_0
def dX2_statesAfter_0 := dc_cX2_statesAfter_dX2_statesAfter_0_0.1
def dX2_statesAfter_1 := dc_cX2_statesAfter_dX2_statesAfter_0_0.2.1
def dX2_statesAfter_4 := dc_cX2_statesAfter_dX2_statesAfter_0_0.2.2.1
def dX2_statesAfter_5 := dc_cX2_statesAfter_dX2_statesAfter_0_0.2.2.2.1
def dX2_statesAfter_6 := dc_cX2_statesAfter_dX2_statesAfter_0_0.2.2.2.2.1
def dX2_statesAfter_8 := dc_cX2_statesAfter_dX2_statesAfter_0_0.2.2.2.2.2.1
def dX2_statesAfter_9 := dc_cX2_statesAfter_dX2_statesAfter_0_0.2.2.2.2.2.2.1
def dX2_statesAfter_11 := dc_cX2_statesAfter_dX2_statesAfter_0_0.2.2.2.2.2.2.2.1
def dX2_statesAfter_13 := dc_cX2_statesAfter_dX2_statesAfter_0_0.2.2.2.2.2.2.2.2.1
def dX2_statesAfter_14 := dc_cX2_statesAfter_dX2_statesAfter_0_0.2.2.2.2.2.2.2.2.2.1
def dX2_statesAfter_17 := dc_cX2_statesAfter_dX2_statesAfter_0_0.2.2.2.2.2.2.2.2.2.2.1
def dX2_statesAfter_18 := dc_cX2_statesAfter_dX2_statesAfter_0_0.2.2.2.2.2.2.2.2.2.2.2.1
def dX2_statesAfter_19 := dc_cX2_statesAfter_dX2_statesAfter_0_0.2.2.2.2.2.2.2.2.2.2.2.2.1
def dX2_statesAfter_21 := dc_cX2_statesAfter_dX2_statesAfter_0_0.2.2.2.2.2.2.2.2.2.2.2.2.2.1
def dX2_statesAfter_22 := dc_cX2_statesAfter_dX2_statesAfter_0_0.2.2.2.2.2.2.2.2.2.2.2.2.2.2.1
def dX2_statesAfter_23 := dc_cX2_statesAfter_dX2_statesAfter_0_0.2.2.2.2.2.2.2.2.2.2.2.2.2.2.2
set_option maxRecDepth 100000 in
theorem db_cX2_statesAfter_dX2_statesAfter_26_1 : zw [(26, .istore_n 3, 1), (27, .iload 4, 2), (29, .iconst 3, 1), (30, .idiv, 1), (31, .istore 4, 2), (33, .iinc 5 1, 3), (36, .goto (-25), 3), (39, .iload_n 3, 1), (40, .ireturn, 1)] (cX2_statesAfter.data.toList.drop 26) 26 = true := by decide +kernel
def dc_cX2_statesAfter_dX2_statesAfter_26_1 := zw_9 db_cX2_statesAfter_dX2_statesAfter_26_1
def dX2_statesAfter_26 := dc_cX2_statesAfter_dX2_statesAfter_26_1.1
def dX2_statesAfter_27 := dc_cX2_statesAfter_dX2_statesAfter_26_1.2.1
def dX2_statesAfter_29 := dc_cX2_statesAfter_dX2_statesAfter_26_1.2.2.1
def dX2_statesAfter_30 := dc_cX2_statesAfter_dX2_statesAfter_26_1.2.2.2.1
def dX2_statesAfter_31 := dc_cX2_statesAfter_dX2_statesAfter_26_1.2.2.2.2.1
def dX2_statesAfter_33 := dc_cX2_statesAfter_dX2_statesAfter_26_1.2.2.2.2.2.1
def dX2_statesAfter_36 := dc_cX2_statesAfter_dX2_statesAfter_26_1.2.2.2.2.2.2.1
def dX2_statesAfter_39 := dc_cX2_statesAfter_dX2_statesAfter_26_1.2.2.2.2.2.2.2.1
def dX2_statesAfter_40 := dc_cX2_statesAfter_dX2_statesAfter_26_1.2.2.2.2.2.2.2.2
set_option maxRecDepth 100000 in
theorem db_cX2_isTaking_dX2_isTaking_0_0 : zw [(0, .aload_n 0, 1), (1, .iload_n 1, 1), (2, .iload_n 2, 1), (3, .invokevirtual 75, 3), (6, .aload_n 0, 1), (7, .getfield 18, 3), (10, .iand, 1), (11, .ifCond .eq 7, 3), (14, .iconst 1, 1), (15, .goto 4, 3), (18, .iconst 0, 1), (19, .ireturn, 1)] (cX2_isTaking.data.toList.drop 0) 0 = true := by decide +kernel
def dc_cX2_isTaking_dX2_isTaking_0_0 := zw_12 db_cX2_isTaking_dX2_isTaking_0_0
def dX2_isTaking_0 := dc_cX2_isTaking_dX2_isTaking_0_0.1
def dX2_isTaking_1 := dc_cX2_isTaking_dX2_isTaking_0_0.2.1
def dX2_isTaking_2 := dc_cX2_isTaking_dX2_isTaking_0_0.2.2.1
def dX2_isTaking_3 := dc_cX2_isTaking_dX2_isTaking_0_0.2.2.2.1
def dX2_isTaking_6 := dc_cX2_isTaking_dX2_isTaking_0_0.2.2.2.2.1
def dX2_isTaking_7 := dc_cX2_isTaking_dX2_isTaking_0_0.2.2.2.2.2.1
def dX2_isTaking_10 := dc_cX2_isTaking_dX2_isTaking_0_0.2.2.2.2.2.2.1
def dX2_isTaking_11 := dc_cX2_isTaking_dX2_isTaking_0_0.2.2.2.2.2.2.2.1
def dX2_isTaking_14 := dc_cX2_isTaking_dX2_isTaking_0_0.2.2.2.2.2.2.2.2.1
def dX2_isTaking_15 := dc_cX2_isTaking_dX2_isTaking_0_0.2.2.2.2.2.2.2.2.2.1
def dX2_isTaking_18 := dc_cX2_isTaking_dX2_isTaking_0_0.2.2.2.2.2.2.2.2.2.2.1
def dX2_isTaking_19 := dc_cX2_isTaking_dX2_isTaking_0_0.2.2.2.2.2.2.2.2.2.2.2
set_option maxRecDepth 100000 in
theorem db_cX9_isTakingTheSame_dX9_isTakingTheSame_0_0 : zw [(0, .iconst 0, 1), (1, .istore_n 2, 1), (2, .iload_n 2, 1), (3, .iconst 2, 1), (4, .if_icmp .gt 58, 3), (7, .iload_n 2, 1), (8, .invokestatic 279, 3), (11, .istore_n 3, 1), (12, .iconst 0, 1), (13, .istore 4, 2), (15, .iload 4, 2), (17, .iload_n 3, 1), (18, .if_icmp .ge 38, 3), (21, .aload_n 0, 1), (22, .getfield 66, 3), (25, .aload_n 0, 1)] (cX9_isTakingTheSame.data.toList.drop 0) 0 = true := by decide +kernel
def dc_cX9_isTakingTheSame_dX9_isTakingTheSame_0_0 := zw_16 db_cX9_isTakingTheSame_dX9_isTakingTheSame_0_0
def dX9_isTakingTheSame_0 := dc_cX9_isTakingTheSame_dX9_isTakingTheSame_0_0.1
def dX9_isTakingTheSame_1 := dc_cX9_isTakingTheSame_dX9_isTakingTheSame_0_0.2.1
def dX9_isTakingTheSame_2 := dc_cX9_isTakingTheSame_dX9_isTakingTheSame_0_0.2.2.1
def dX9_isTakingTheSame_3 := dc_cX9_isTakingTheSame_dX9_isTakingTheSame_0_0.2.2.2.1
def dX9_isTakingTheSame_4 := dc_cX9_isTakingTheSame_dX9_isTakingTheSame_0_0.2.2.2.2.1
def dX9_isTakingTheSame_7 := dc_cX9_isTakingTheSame_dX9_isTakingTheSame_0_0.2.2.2.2.2.1
def dX9_isTakingTheSame_8 := dc_cX9_isTakingTheSame_dX9_isTakingTheSame_0_0.2.2.2.2.2.2.1
def dX9_isTakingTheSame_11 := dc_cX9_isTakingTheSame_dX9_isTakingTheSame_0_0.2.2.2.2.2.2.2.1
def dX9_isTakingTheSame_12 := dc_cX9_isTakingTheSame_dX9_isTakingTheSame_0_0.2.2.2.2.2.2.2.2.1
def dX9_isTakingTheSame_13 := dc_cX9_isTakingTheSame_dX9_isTakingTheSame_0_0.2.2.2.2.2.2.2.2.2.1
def dX9_isTakingTheSame_15 := dc_cX9_isTakingTheSame_dX9_isTakingTheSame_0_0.2.2.2.2.2.2.2.2.2.2.1
def dX9_isTakingTheSame_17 := dc_cX9_isTakingTheSame_dX9_isTakingTheSame_0_0.2.2.2.2.2.2.2.2.2.2.2.1
def dX9_isTakingTheSame_18 := dc_cX9_isTakingTheSame_dX9_isTakingTheSame_0_0.2.2.2.2.2.2.2.2.2.2.2.2.1
def dX9_isTakingTheSame_21 := dc_cX9_isTakingTheSame_dX9_isTakingTheSame_0_0.2.2.2.2.2.2.2.2.2.2.2.2.2.1
def dX9_isTakingTheSame_22 := dc_cX9_isTakingTheSame_dX9_isTakingTheSame_0_0.2.2.2.2.2.2.2.2.2.2.2.2.2.2.1
def dX9_isTakingTheSame_25 := dc_cX9_isTakingTheSame_dX9_isTakingTheSame_0_0.2.2.2.2.2.2.2.2.2.2.2.2.2.2.2
set_option maxRecDepth 100000 in
theorem db_cX9_isTakingTheSame_dX9_isTakingTheSame_26_1 : zw [(26, .getfield 66, 3), (29, .iload_n 2, 1), (30, .iload 4, 2), (32, .invokevirtual 187, 3), (35, .invokevirtual 195, 3), (38, .aload_n 1, 1), (39, .iload_n 2, 1), (40, .iload 4, 2), (42, .invokevirtual 176, 3), (45, .if_icmp .eq 5, 3), (48, .iconst 0, 1), (49, .ireturn, 1), (50, .iinc 4 1, 3), (53, .goto (-38), 3), (56, .iinc 2 1, 3), (59, .goto (-57), 3)] (cX9_isTakingTheSame.data.toList.drop 26) 26 = true := by decide +kernel
def dc_cX9_isTakingTheSame_dX9_isTakingTheSame_26_1 := zw_16 db_cX9_isTakingTheSame_dX9_isTakingTheSame_26_1
def dX9_isTakingTheSame_26 := dc_cX9_isTakingTheSame_dX9_isTakingTheSame_26_1.1
def dX9_isTakingTheSame_29 := dc_cX9_isTakingTheSame_dX9_isTakingTheSame_26_1.2.1
def dX9_isTakingTheSame_30 := dc_cX9_isTakingTheSame_dX9_isTakingTheSame_26_1.2.2.1
def dX9_isTakingTheSame_32 := dc_cX9_isTakingTheSame_dX9_isTakingTheSame_26_1.2.2.2.1
def dX9_isTakingTheSame_35 := dc_cX9_isTakingTheSame_dX9_isTakingTheSame_26_1.2.2.2.2.1
def dX9_isTakingTheSame_38 := dc_cX9_isTakingTheSame_dX9_isTakingTheSame_26_1.2.2.2.2.2.1
def dX9_isTakingTheSame_39 := dc_cX9_isTakingTheSame_dX9_isTakingTheSame_26_1.2.2.2.2.2.2.1
def dX9_isTakingTheSame_40 := dc_cX9_isTakingTheSame_dX9_isTakingTheSame_26_1.2.2.2.2.2.2.2.1
def dX9_isTakingTheSame_42 := dc_cX9_isTakingTheSame_dX9_isTakingTheSame_26_1.2.2.2.2.2.2.2.2.1
def dX9_isTakingTheSame_45 := dc_cX9_isTakingTheSame_dX9_isTakingTheSame_26_1.2.2.2.2.2.2.2.2.2.1
def dX9_isTakingTheSame_48 := dc_cX9_isTakingTheSame_dX9_isTakingTheSame_26_1.2.2.2.2.2.2.2.2.2.2.1
def dX9_isTakingTheSame_49 := dc_cX9_isTakingTheSame_dX9_isTakingTheSame_26_1.2.2.2.2.2.2.2.2.2.2.2.1
def dX9_isTakingTheSame_50 := dc_cX9_isTakingTheSame_dX9_isTakingTheSame_26_1.2.2.2.2.2.2.2.2.2.2.2.2.1
def dX9_isTakingTheSame_53 := dc_cX9_isTakingTheSame_dX9_isTakingTheSame_26_1.2.2.2.2.2.2.2.2.2.2.2.2.2.1
def dX9_isTakingTheSame_56 := dc_cX9_isTakingTheSame_dX9_isTakingTheSame_26_1.2.2.2.2.2.2.2.2.2.2.2.2.2.2.1
def dX9_isTakingTheSame_59 := dc_cX9_isTakingTheSame_dX9_isTakingTheSame_26_1.2.2.2.2.2.2.2.2.2.2.2.2.2.2.2
set_option maxRecDepth 100000 in
theorem db_cX9_isTakingTheSame_dX9_isTakingTheSame_62_2 : zw [(62, .iconst 1, 1), (63, .ireturn, 1)] (cX9_isTakingTheSame.data.toList.drop 62) 62 = true := by decide +kernel
def dc_cX9_isTakingTheSame_dX9_isTakingTheSame_62_2 := zw_2 db_cX9_isTakingTheSame_dX9_isTakingTheSame_62_2
def dX9_isTakingTheSame_62 := dc_cX9_isTakingTheSame_dX9_isTakingTheSame_62_2.1
def dX9_isTakingTheSame_63 := dc_cX9_isTakingTheSame_dX9_isTakingTheSame_62_2.2
set_option maxRecDepth 100000 in
theorem db_cJ6_bitCount_0f7a4_dJ6_bitCount_0f7a4_0_0 : zw [(0, .iload_n 0, 1), (1, .iload_n 0, 1), (2, .iconst 1, 1), (3, .iushr, 1), (4, .ldc_w 265, 3), (7, .iand, 1), (8, .isub, 1), (9, .istore_n 0, 1), (10, .iload_n 0, 1), (11, .ldc_w 266, 3), (14, .iand, 1), (15, .iload_n 0, 1), (16, .iconst 2, 1), (17, .iushr, 1), (18, .ldc_w 266, 3), (21, .iand, 1)] (cJ6_bitCount_0f7a4.data.toList.drop 0) 0 = true := by decide +kernel
def dc_cJ6_bitCount_0f7a4_dJ6_bitCount_0f7a4_0_0 := zw_16 db_cJ6_bitCount_0f7a4_dJ6_bitCount_0f7a4_0_0
def dJ6_bitCount_0f7a4_0 := dc_cJ6_bitCount_0f7a4_dJ6_bitCount_0f7a4_0_0.1
def dJ6_bitCount_0f7a4_1 := dc_cJ6_bitCount_0f7a4_dJ6_bitCount_0f7a4_0_0.2.1
def dJ6_bitCount_0f7a4_2 := dc_cJ6_bitCount_0f7a4_dJ6_bitCount_0f7a4_0_0.2.2.1
def dJ6_bitCount_0f7a4_3 := dc_cJ6_bitCount_0f7a4_dJ6_bitCount_0f7a4_0_0.2.2.2.1
def dJ6_bitCount_0f7a4_4 := dc_cJ6_bitCount_0f7a4_dJ6_bitCount_0f7a4_0_0.2.2.2.2.1
def dJ6_bitCount_0f7a4_7 := dc_cJ6_bitCount_0f7a4_dJ6_bitCount_0f7a4_0_0.2.2.2.2.2.1
def dJ6_bitCount_0f7a4_8 := dc_cJ6_bitCount_0f7a4_dJ6_bitCount_0f7a4_0_0.2.2.2.2.2.2.1
def dJ6_bitCount_0f7a4_9 := dc_cJ6_bitCount_0f7a4_dJ6_bitCount_0f7a4_0_0.2.2.2.2.2.2.2.1
def dJ6_bitCount_0f7a4_10 := dc_cJ6_bitCount_0f7a4_dJ6_bitCount_0f7a4_0_0.2.2.2.2.2.2.2.2.1
def dJ6_bitCount_0f7a4_11 := dc_cJ6_bitCount_0f7a4_dJ6_bitCount_0f7a4_0_0.2.2.2.2.2.2.2.2.2.1
def dJ6_bitCount_0f7a4_14 := dc_cJ6_bitCount_0f7a4_dJ6_bitCount_0f7a4_0_0.2.2.2.2.2.2.2.2.2.2.1
def dJ6_bitCount_0f7a4_15 := dc_cJ6_bitCount_0f7a4_dJ6_bitCount_0f7a4_0_0.2.2.2.2.2.2.2.2.2.2.2.1
def dJ6_bitCount_0f7a4_16 := dc_cJ6_bitCount_0f7a4_dJ6_bitCount_0f7a4_0_0.2.2.2.2.2.2.2.2.2.2.2.2.1
def dJ6_bitCount_0f7a4_17 := dc_cJ6_bitCount_0f7a4_dJ6_bitCount_0f7a4_0_0.2.2.2.2.2.2.2.2.2.2.2.2.2.1
def dJ6_bitCount_0f7a4_18 := dc_cJ6_bitCount_0f7a4_dJ6_bitCount_0f7a4_0_0.2.2.2.2.2.2.2.2.2.2.2.2.2.2.1
def dJ6_bitCount_0f7a4_21 := dc_cJ6_bitCount_0f7a4_dJ6_bitCount_0f7a4_0_0.2.2.2.2.2.2.2.2.2.2.2.2.2.2.2
set_option maxRecDepth 100000 in
theorem db_cJ6_bitCount_0f7a4_dJ6_bitCount_0f7a4_22_1 : zw [(22, .iadd, 1), (23, .istore_n 0, 1), (24, .iload_n 0, 1), (25, .iload_n 0, 1), (26, .iconst 4, 1), (27, .iushr, 1), (28, .iadd, 1), (29, .ldc_w 267, 3), (32, .iand, 1), (33, .istore_n 0, 1), (34, .iload_n 0, 1), (35, .iload_n 0, 1), (36, .bipush 8, 2), (38, .iushr, 1), (39, .iadd, 1), (40, .istore_n 0, 1)] (cJ6_bitCount_0f7a4.data.toList.drop 22) 22 = true := by decide +kernel
def dc_cJ6_bitCount_0f7a4_dJ6_bitCount_0f7a4_22_1 := zw_16 db_cJ6_bitCount_0f7a4_dJ6_bitCount_0f7a4_22_1
def dJ6_bitCount_0f7a4_22 := dc_cJ6_bitCount_0f7a4_dJ6_bitCount_0f7a4_22_1.1
def dJ6_bitCount_0f7a4_23 := dc_cJ6_bitCount_0f7a4_dJ6_bitCount_0f7a4_22_1.2.1
def dJ6_bitCount_0f7a4_24 := dc_cJ6_bitCount_0f7a4_dJ6_bitCount_0f7a4_22_1.2.2.1
def dJ6_bitCount_0f7a4_25 := dc_cJ6_bitCount_0f7a4_dJ6_bitCount_0f7a4_22_1.2.2.2.1
def dJ6_bitCount_0f7a4_26 := dc_cJ6_bitCount_0f7a4_dJ6_bitCount_0f7a4_22_1.2.2.2.2.1
def dJ6_bitCount_0f7a4_27 := dc_cJ6_bitCount_0f7a4_dJ6_bitCount_0f7a4_22_1.2.2.2.2.2.1
def dJ6_bitCount_0f7a4_28 := dc_cJ6_bitCount_0f7a4_dJ6_bitCount_0f7a4_22_1.2.2.2.2.2.2.1
def dJ6_bitCount_0f7a4_29 := dc_cJ6_bitCount_0f7a4_dJ6_bitCount_0f7a4_22_1.2.2.2.2.2.2.2.1
def dJ6_bitCount_0f7a4_32 := dc_cJ6_bitCount_0f7a4_dJ6_bitCount_0f7a4_22_1.2.2.2.2.2.2.2.2.1
def dJ6_bitCount_0f7a4_33 := dc_cJ6_bitCount_0f7a4_dJ6_bitCount_0f7a4_22_1.2.2.2.2.2.2.2.2.2.1
def dJ6_bitCount_0f7a4_34 := dc_cJ6_bitCount_0f7a4_dJ6_bitCount_0f7a4_22_1.2.2.2.2.2.2.2.2.2.2.1
def dJ6_bitCount_0f7a4_35 := dc_cJ6_bitCount_0f7a4_dJ6_bitCount_0f7a4_22_1.2.2.2.2.2.2.2.2.2.2.2.1
def dJ6_bitCount_0f7a4_36 := dc_cJ6_bitCount_0f7a4_dJ6_bitCount_0f7a4_22_1.2.2.2.2.2.2.2.2.2.2.2.2.1
def dJ6_bitCount_0f7a4_38 := dc_cJ6_bitCount_0f7a4_dJ6_bitCount_0f7a4_22_1.2.2.2.2.2.2.2.2.2.2.2.2.2.1
def dJ6_bitCount_0f7a4_39 := dc_cJ6_bitCount_0f7a4_dJ6_bitCount_0f7a4_22_1.2.2.2.2.2.2.2.2.2.2.2.2.2.2.1
def dJ6_bitCount_0f7a4_40 := dc_cJ6_bitCount_0f7a4_dJ6_bitCount_0f7a4_22_1.2.2.2.2.2.2.2.2.2.2.2.2.2.2.2
set_option maxRecDepth 100000 in
theorem db_cJ6_bitCount_0f7a4_dJ6_bitCount_0f7a4_41_2 : zw [(41, .iload_n 0, 1), (42, .iload_n 0, 1), (43, .bipush 16, 2), (45, .iushr, 1), (46, .iadd, 1), (47, .istore_n 0, 1), (48, .iload_n 0, 1), (49, .bipush 63, 2), (51, .iand, 1), (52, .ireturn, 1)] (cJ6_bitCount_0f7a4.data.toList.drop 41) 41 = true := by decide +kernel
def dc_cJ6_bitCount_0f7a4_dJ6_bitCount_0f7a4_41_2 := zw_10 db_cJ6_bitCount_0f7a4_dJ6_bitCount_0f7a4_41_2
def dJ6_bitCount_0f7a4_41 := dc_cJ6_bitCount_0f7a4_dJ6_bitCount_0f7a4_41_2.1
def dJ6_bitCount_0f7a4_42 := dc_cJ6_bitCount_0f7a4_dJ6_bitCount_0f7a4_41_2.2.1
def dJ6_bitCount_0f7a4_43 := dc_cJ6_bitCount_0f7a4_dJ6_bitCount_0f7a4_41_2.2.2.1
def dJ6_bitCount_0f7a4_45 := dc_cJ6_bitCount_0f7a4_dJ6_bitCount_0f7a4_41_2.2.2.2.1
def dJ6_bitCount_0f7a4_46 := dc_cJ6_bitCount_0f7a4_dJ6_bitCount_0f7a4_41_2.2.2.2.2.1
def dJ6_bitCount_0f7a4_47 := dc_cJ6_bitCount_0f7a4_dJ6_bitCount_0f7a4_41_2.2.2.2.2.2.1
def dJ6_bitCount_0f7a4_48 := dc_cJ6_bitCount_0f7a4_dJ6_bitCount_0f7a4_41_2.2.2.2.2.2.2.1
def dJ6_bitCount_0f7a4_49 := dc_cJ6_bitCount_0f7a4_dJ6_bitCount_0f7a4_41_2.2.2.2.2.2.2.2.1
def dJ6_bitCount_0f7a4_51 := dc_cJ6_bitCount_0f7a4_dJ6_bitCount_0f7a4_41_2.2.2.2.2.2.2.2.2.1
def dJ6_bitCount_0f7a4_52 := dc_cJ6_bitCount_0f7a4_dJ6_bitCount_0f7a4_41_2.2.2.2.2.2.2.2.2.2
set_option maxRecDepth 100000 in
theorem db_cX2_countArrows_dX2_countArrows_0_0 : zw [(0, .iconst 0, 1), (1, .istore_n 1, 1), (2, .iconst 0, 1), (3, .istore_n 2, 1), (4, .iload_n 2, 1), (5, .aload_n 0, 1), (6, .getfield 15, 3), (9, .if_icmp .ge 34, 3), (12, .iconst 0, 1), (13, .istore_n 3, 1), (14, .iload_n 3, 1), (15, .iconst 3, 1), (16, .if_icmp .ge 21, 3), (19, .iload_n 1, 1), (20, .aload_n 0, 1), (21, .iload_n 2, 1)] (cX2_countArrows.data.toList.drop 0) 0 = true := by decide +kernel
def dc_cX2_countArrows_dX2_countArrows_0_0 := zw_16 db_cX2_countArrows_dX2_countArrows_0_0
def dX2_countArrows_0 := dc_cX2_countArrows_dX2_countArrows_0_0.1
def dX2_countArrows_1 := dc_cX2_countArrows_dX2_countArrows_0_0.2.1
def dX2_countArrows_2 := dc_cX2_countArrows_dX2_countArrows_0_0.2.2.1
def dX2_countArrows_3 := dc_cX2_countArrows_dX2_countArrows_0_0.2.2.2.1
def dX2_countArrows_4 := dc_cX2_countArrows_dX2_countArrows_0_0.2.2.2.2.1
def dX2_countArrows_5 := dc_cX2_countArrows_dX2_countArrows_0_0.2.2.2.2.2.1
def dX2_countArrows_6 := dc_cX2_countArrows_dX2_countArrows_0_0.2.2.2.2.2.2.1
def dX2_countArrows_9 := dc_cX2_countArrows_dX2_countArrows_0_0.2.2.2.2.2.2.2.1
def dX2_countArrows_12 := dc_cX2_countArrows_dX2_countArrows_0_0.2.2.2.2.2.2.2.2.1
def dX2_countArrows_13 := dc_cX2_countArrows_dX2_countArrows_0_0.2.2.2.2.2.2.2.2.2.1
def dX2_countArrows_14 := dc_cX2_countArrows_dX2_countArrows_0_0.2.2.2.2.2.2.2.2.2.2.1
def dX2_countArrows_15 := dc_cX2_countArrows_dX2_countArrows_0_0.2.2.2.2.2.2.2.2.2.2.2.1
def dX2_countArrows_16 := dc_cX2_countArrows_dX2_countArrows_0_0.2.2.2.2.2.2.2.2.2.2.2.2.1
def dX2_countArrows_19 := dc_cX2_countArrows_dX2_countArrows_0_0.2.2.2.2.2.2.2.2.2.2.2.2.2.1
def dX2_countArrows_20 := dc_cX2_countArrows_dX2_countArrows_0_0.2.2.2.2.2.2.2.2.2.2.2.2.2.2.1
def dX2_countArrows_21 := dc_cX2_countArrows_dX2_countArrows_0_0.2.2.2.2.2.2.2.2.2.2.2.2.2.2.2
set_option maxRecDepth 100000 in
theorem db_cX2_countArrows_dX2_countArrows_22_1 : zw [(22, .iload_n 3, 1), (23, .invokevirtual 25, 3), (26, .invokestatic 29, 3), (29, .iadd, 1), (30, .istore_n 1, 1), (31, .iinc 3 1, 3), (34, .goto (-20), 3), (37, .iinc 2 1, 3), (40, .goto (-36), 3), (43, .iload_n 1, 1), (44, .ireturn, 1)] (cX2_countArrows.data.toList.drop 22) 22 = true := by decide +kernel
def dc_cX2_countArrows_dX2_countArrows_22_1 := zw_11 db_cX2_countArrows_dX2_countArrows_22_1
def dX2_countArrows_22 := dc_cX2_countArrows_dX2_countArrows_22_1.1
def dX2_countArrows_23 := dc_cX2_countArrows_dX2_countArrows_22_1.2.1
def dX2_countArrows_26 := dc_cX2_countArrows_dX2_countArrows_22_1.2.2.1
def dX2_countArrows_29 := dc_cX2_countArrows_dX2_countArrows_22_1.2.2.2.1
def dX2_countArrows_30 := dc_cX2_countArrows_dX2_countArrows_22_1.2.2.2.2.1
def dX2_countArrows_31 := dc_cX2_countArrows_dX2_countArrows_22_1.2.2.2.2.2.1
def dX2_countArrows_34 := dc_cX2_countArrows_dX2_countArrows_22_1.2.2.2.2.2.2.1
def dX2_countArrows_37 := dc_cX2_countArrows_dX2_countArrows_22_1.2.2.2.2.2.2.2.1
def dX2_countArrows_40 := dc_cX2_countArrows_dX2_countArrows_22_1.2.2.2.2.2.2.2.2.1
def dX2_countArrows_43 := dc_cX2_countArrows_dX2_countArrows_22_1.2.2.2.2.2.2.2.2.2.1
def dX2_countArrows_44 := dc_cX2_countArrows_dX2_countArrows_22_1.2.2.2.2.2.2.2.2.2.2
set_option maxRecDepth 100000 in
theorem db_cX2_isPlain_dX2_isPlain_0_0 : zw [(0, .iconst 0, 1), (1, .istore_n 1, 1), (2, .iload_n 1, 1), (3, .aload_n 0, 1), (4, .getfield 15, 3), (7, .if_icmp .ge 37, 3), (10, .iconst 0, 1), (11, .istore_n 2, 1), (12, .iload_n 2, 1), (13, .iconst 3, 1), (14, .if_icmp .ge 24, 3), (17, .aload_n 0, 1), (18, .iload_n 1, 1), (19, .iload_n 2, 1), (20, .invokevirtual 25, 3), (23, .invokestatic 29, 3)] (cX2_isPlain.data.toList.drop 0) 0 = true := by decide +kernel
def dc_cX2_isPlain_dX2_isPlain_0_0 := zw_16 db_cX2_isPlain_dX2_isPlain_0_0
def dX2_isPlain_0 := dc_cX2_isPlain_dX2_isPlain_0_0.1
def dX2_isPlain_1 := dc_cX2_isPlain_dX2_isPlain_0_0.2.1
def dX2_isPlain_2 := dc_cX2_isPlain_dX2_isPlain_0_0.2.2.1
def dX2_isPlain_3 := dc_cX2_isPlain_dX2_isPlain_0_0.2.2.2.1
def dX2_isPlain_4 := dc_cX2_isPlain_dX2_isPlain_0_0.2.2.2.2.1
def dX2_isPlain_7 := dc_cX2_isPlain_dX2_isPlain_0_0.2.2.2.2.2.1
def dX2_isPlain_10 := dc_cX2_isPlain_dX2_isPlain_0_0.2.2.2.2.2.2.1
def dX2_isPlain_11 := dc_cX2_isPlain_dX2_isPlain_0_0.2.2.2.2.2.2.2.1
def dX2_isPlain_12 := dc_cX2_isPlain_dX2_isPlain_0_0.2.2.2.2.2.2.2.2.1
def dX2_isPlain_13 := dc_cX2_isPlain_dX2_isPlain_0_0.2.2.2.2.2.2.2.2.2.1
def dX2_isPlain_14 := dc_cX2_isPlain_dX2_isPlain_0_0.2.2.2.2.2.2.2.2.2.2.1
def dX2_isPlain_17 := dc_cX2_isPlain_dX2_isPlain_0_0.2.2.2.2.2.2.2.2.2.2.2.1
def dX2_isPlain_18 := dc_cX2_isPlain_dX2_isPlain_0_0.2.2.2.2.2.2.2.2.2.2.2.2.1
def dX2_isPlain_19 := dc_cX2_isPlain_dX2_isPlain_0_0.2.2.2.2.2.2.2.2.2.2.2.2.2.1
def dX2_isPlain_20 := dc_cX2_isPlain_dX2_isPlain_0_0.2.2.2.2.2.2.2.2.2.2.2.2.2.2.1
def dX2_isPlain_23 := dc_cX2_isPlain_dX2_isPlain_0_0.2.2.2.2.2.2.2.2.2.2.2.2.2.2.2
set_option maxRecDepth 100000 in
theorem db_cX2_isPlain_dX2_isPlain_26_1 : zw [(26, .iconst 1, 1), (27, .if_icmp .eq 5, 3), (30, .iconst 0, 1), (31, .ireturn, 1), (32, .iinc 2 1, 3), (35, .goto (-23), 3), (38, .iinc 1 1, 3), (41, .goto (-39), 3), (44, .aload_n 0, 1), (45, .getfield 9, 3), (48, .invokestatic 29, 3), (51, .iconst 1, 1), (52, .if_icmp .ne 7, 3), (55, .iconst 1, 1), (56, .goto 4, 3), (59, .iconst 0, 1)] (cX2_isPlain.data.toList.drop 26) 26 = true := by decide +kernel
def dc_cX2_isPlain_dX2_isPlain_26_1 := zw_16 db_cX2_isPlain_dX2_isPlain_26_1
def dX2_isPlain_26 := dc_cX2_isPlain_dX2_isPlain_26_1.1
def dX2_isPlain_27 := dc_cX2_isPlain_dX2_isPlain_26_1.2.1
def dX2_isPlain_30 := dc_cX2_isPlain_dX2_isPlain_26_1.2.2.1
def dX2_isPlain_31 := dc_cX2_isPlain_dX2_isPlain_26_1.2.2.2.1
def dX2_isPlain_32 := dc_cX2_isPlain_dX2_isPlain_26_1.2.2.2.2.1
def dX2_isPlain_35 := dc_cX2_isPlain_dX2_isPlain_26_1.2.2.2.2.2.1
def dX2_isPlain_38 := dc_cX2_isPlain_dX2_isPlain_26_1.2.2.2.2.2.2.1
def dX2_isPlain_41 := dc_cX2_isPlain_dX2_isPlain_26_1.2.2.2.2.2.2.2.1
def dX2_isPlain_44 := dc_cX2_isPlain_dX2_isPlain_26_1.2.2.2.2.2.2.2.2.1
def dX2_isPlain_45 := dc_cX2_isPlain_dX2_isPlain_26_1.2.2.2.2.2.2.2.2.2.1
def dX2_isPlain_48 := dc_cX2_isPlain_dX2_isPlain_26_1.2.2.2.2.2.2.2.2.2.2.1
def dX2_isPlain_51 := dc_cX2_isPlain_dX2_isPlain_26_1.2.2.2.2.2.2.2.2.2.2.2.1
def dX2_isPlain_52 := dc_cX2_isPlain_dX2_isPlain_26_1.2.2.2.2.2.2.2.2.2.2.2.2.1
def dX2_isPlain_55 := dc_cX2_isPlain_dX2_isPlain_26_1.2.2.2.2.2.2.2.2.2.2.2.2.2.1
def dX2_isPlain_56 := dc_cX2_isPlain_dX2_isPlain_26_1.2.2.2.2.2.2.2.2.2.2.2.2.2.2.1
def dX2_isPlain_59 := dc_cX2_isPlain_dX2_isPlain_26_1.2.2.2.2.2.2.2.2.2.2.2.2.2.2.2
set_option maxRecDepth 100000 in
theorem db_cX2_isPlain_dX2_isPlain_60_2 : zw [(60, .ireturn, 1)] (cX2_isPlain.data.toList.drop 60) 60 = true := by decide +kernel
def dX2_isPlain_60 := zw_1 db_cX2_isPlain_dX2_isPlain_60_2
set_option maxRecDepth 100000 in
theorem db_cX9_addMachine_dX9_addMachine_0_0 : zw [(0, .lload_n 0, 1), (1, .ldc2_w 267, 3), (4, .lmul, 1), (5, .aload_n 2, 1), (6, .getfield 151, 3), (9, .i2l, 1), (10, .ladd, 1), (11, .lstore_n 3, 1), (12, .lload_n 3, 1), (13, .ldc2_w 267, 3), (16, .lmul, 1), (17, .aload_n 2, 1), (18, .invokevirtual 77, 3), (21, .i2l, 1), (22, .ladd, 1), (23, .lstore_n 3, 1)] (cX9_addMachine.data.toList.drop 0) 0 = true := by decide +kernel
def dc_cX9_addMachine_dX9_addMachine_0_0 := zw_16 db_cX9_addMachine_dX9_addMachine_0_0
def dX9_addMachine_0 := dc_cX9_addMachine_dX9_addMachine_0_0.1
def dX9_addMachine_1 := dc_cX9_addMachine_dX9_addMachine_0_0.2.1
def dX9_addMachine_4 := dc_cX9_addMachine_dX9_addMachine_0_0.2.2.1
def dX9_addMachine_5 := dc_cX9_addMachine_dX9_addMachine_0_0.2.2.2.1
def dX9_addMachine_6 := dc_cX9_addMachine_dX9_addMachine_0_0.2.2.2.2.1
def dX9_addMachine_9 := dc_cX9_addMachine_dX9_addMachine_0_0.2.2.2.2.2.1
def dX9_addMachine_10 := dc_cX9_addMachine_dX9_addMachine_0_0.2.2.2.2.2.2.1
def dX9_addMachine_11 := dc_cX9_addMachine_dX9_addMachine_0_0.2.2.2.2.2.2.2.1
def dX9_addMachine_12 := dc_cX9_addMachine_dX9_addMachine_0_0.2.2.2.2.2.2.2.2.1
def dX9_addMachine_13 := dc_cX9_addMachine_dX9_addMachine_0_0.2.2.2.2.2.2.2.2.2.1
def dX9_addMachine_16 := dc_cX9_addMachine_dX9_addMachine_0_0.2.2.2.2.2.2.2.2.2.2.1
def dX9_addMachine_17 := dc_cX9_addMachine_dX9_addMachine_0_0.2.2.2.2.2.2.2.2.2.2.2.1
def dX9_addMachine_18 := dc_cX9_addMachine_dX9_addMachine_0_0.2.2.2.2.2.2.2.2.2.2.2.2.1
def dX9_addMachine_21 := dc_cX9_addMachine_dX9_addMachine_0_0.2.2.2.2.2.2.2.2.2.2.2.2.2.1
def dX9_addMachine_22 := dc_cX9_addMachine_dX9_addMachine_0_0.2.2.2.2.2.2.2.2.2.2.2.2.2.2.1
def dX9_addMachine_23 := dc_cX9_addMachine_dX9_addMachine_0_0.2.2.2.2.2.2.2.2.2.2.2.2.2.2.2
set_option maxRecDepth 100000 in
theorem db_cX9_addMachine_dX9_addMachine_24_1 : zw [(24, .lload_n 3, 1), (25, .ldc2_w 267, 3), (28, .lmul, 1), (29, .aload_n 2, 1), (30, .getfield 115, 3), (33, .i2l, 1), (34, .ladd, 1), (35, .lstore_n 3, 1), (36, .lload_n 3, 1), (37, .ldc2_w 267, 3), (40, .lmul, 1), (41, .aload_n 2, 1), (42, .getfield 111, 3), (45, .i2l, 1), (46, .ladd, 1), (47, .lstore_n 3, 1)] (cX9_addMachine.data.toList.drop 24) 24 = true := by decide +kernel
def dc_cX9_addMachine_dX9_addMachine_24_1 := zw_16 db_cX9_addMachine_dX9_addMachine_24_1
def dX9_addMachine_24 := dc_cX9_addMachine_dX9_addMachine_24_1.1
def dX9_addMachine_25 := dc_cX9_addMachine_dX9_addMachine_24_1.2.1
def dX9_addMachine_28 := dc_cX9_addMachine_dX9_addMachine_24_1.2.2.1
def dX9_addMachine_29 := dc_cX9_addMachine_dX9_addMachine_24_1.2.2.2.1
def dX9_addMachine_30 := dc_cX9_addMachine_dX9_addMachine_24_1.2.2.2.2.1
def dX9_addMachine_33 := dc_cX9_addMachine_dX9_addMachine_24_1.2.2.2.2.2.1
def dX9_addMachine_34 := dc_cX9_addMachine_dX9_addMachine_24_1.2.2.2.2.2.2.1
def dX9_addMachine_35 := dc_cX9_addMachine_dX9_addMachine_24_1.2.2.2.2.2.2.2.1
def dX9_addMachine_36 := dc_cX9_addMachine_dX9_addMachine_24_1.2.2.2.2.2.2.2.2.1
def dX9_addMachine_37 := dc_cX9_addMachine_dX9_addMachine_24_1.2.2.2.2.2.2.2.2.2.1
def dX9_addMachine_40 := dc_cX9_addMachine_dX9_addMachine_24_1.2.2.2.2.2.2.2.2.2.2.1
def dX9_addMachine_41 := dc_cX9_addMachine_dX9_addMachine_24_1.2.2.2.2.2.2.2.2.2.2.2.1
def dX9_addMachine_42 := dc_cX9_addMachine_dX9_addMachine_24_1.2.2.2.2.2.2.2.2.2.2.2.2.1
def dX9_addMachine_45 := dc_cX9_addMachine_dX9_addMachine_24_1.2.2.2.2.2.2.2.2.2.2.2.2.2.1
def dX9_addMachine_46 := dc_cX9_addMachine_dX9_addMachine_24_1.2.2.2.2.2.2.2.2.2.2.2.2.2.2.1
def dX9_addMachine_47 := dc_cX9_addMachine_dX9_addMachine_24_1.2.2.2.2.2.2.2.2.2.2.2.2.2.2.2
set_option maxRecDepth 100000 in
theorem db_cX9_addMachine_dX9_addMachine_48_2 : zw [(48, .lload_n 3, 1), (49, .ldc2_w 267, 3), (52, .lmul, 1), (53, .aload_n 2, 1), (54, .invokevirtual 141, 3), (57, .ifCond .eq 7, 3), (60, .iconst 1, 1), (61, .goto 4, 3), (64, .iconst 0, 1), (65, .i2l, 1), (66, .ladd, 1), (67, .lstore_n 3, 1), (68, .iconst 0, 1), (69, .istore 5, 2), (71, .iload 5, 2), (73, .aload_n 2, 1)] (cX9_addMachine.data.toList.drop 48) 48 = true := by decide +kernel
def dc_cX9_addMachine_dX9_addMachine_48_2 := zw_16 db_cX9_addMachine_dX9_addMachine_48_2
def dX9_addMachine_48 := dc_cX9_addMachine_dX9_addMachine_48_2.1
def dX9_addMachine_49 := dc_cX9_addMachine_dX9_addMachine_48_2.2.1
def dX9_addMachine_52 := dc_cX9_addMachine_dX9_addMachine_48_2.2.2.1
def dX9_addMachine_53 := dc_cX9_addMachine_dX9_addMachine_48_2.2.2.2.1
def dX9_addMachine_54 := dc_cX9_addMachine_dX9_addMachine_48_2.2.2.2.2.1
def dX9_addMachine_57 := dc_cX9_addMachine_dX9_addMachine_48_2.2.2.2.2.2.1
def dX9_addMachine_60 := dc_cX9_addMachine_dX9_addMachine_48_2.2.2.2.2.2.2.1
def dX9_addMachine_61 := dc_cX9_addMachine_dX9_addMachine_48_2.2.2.2.2.2.2.2.1
def dX9_addMachine_64 := dc_cX9_addMachine_dX9_addMachine_48_2.2.2.2.2.2.2.2.2.1
def dX9_addMachine_65 := dc_cX9_addMachine_dX9_addMachine_48_2.2.2.2.2.2.2.2.2.2.1
def dX9_addMachine_66 := dc_cX9_addMachine_dX9_addMachine_48_2.2.2.2.2.2.2.2.2.2.2.1
def dX9_addMachine_67 := dc_cX9_addMachine_dX9_addMachine_48_2.2.2.2.2.2.2.2.2.2.2.2.1
def dX9_addMachine_68 := dc_cX9_addMachine_dX9_addMachine_48_2.2.2.2.2.2.2.2.2.2.2.2.2.1
def dX9_addMachine_69 := dc_cX9_addMachine_dX9_addMachine_48_2.2.2.2.2.2.2.2.2.2.2.2.2.2.1
def dX9_addMachine_71 := dc_cX9_addMachine_dX9_addMachine_48_2.2.2.2.2.2.2.2.2.2.2.2.2.2.2.1
def dX9_addMachine_73 := dc_cX9_addMachine_dX9_addMachine_48_2.2.2.2.2.2.2.2.2.2.2.2.2.2.2.2
set_option maxRecDepth 100000 in
theorem db_cX9_addMachine_dX9_addMachine_74_3 : zw [(74, .getfield 151, 3), (77, .if_icmp .ge 40, 3), (80, .iconst 0, 1), (81, .istore 6, 2), (83, .iload 6, 2), (85, .iconst 3, 1), (86, .if_icmp .ge 25, 3), (89, .lload_n 3, 1), (90, .ldc2_w 267, 3), (93, .lmul, 1), (94, .aload_n 2, 1), (95, .iload 5, 2), (97, .iload 6, 2), (99, .invokevirtual 95, 3), (102, .i2l, 1), (103, .ladd, 1)] (cX9_addMachine.data.toList.drop 74) 74 = true := by decide +kernel
def dc_cX9_addMachine_dX9_addMachine_74_3 := zw_16 db_cX9_addMachine_dX9_addMachine_74_3
def dX9_addMachine_74 := dc_cX9_addMachine_dX9_addMachine_74_3.1
def dX9_addMachine_77 := dc_cX9_addMachine_dX9_addMachine_74_3.2.1
def dX9_addMachine_80 := dc_cX9_addMachine_dX9_addMachine_74_3.2.2.1
def dX9_addMachine_81 := dc_cX9_addMachine_dX9_addMachine_74_3.2.2.2.1
def dX9_addMachine_83 := dc_cX9_addMachine_dX9_addMachine_74_3.2.2.2.2.1
def dX9_addMachine_85 := dc_cX9_addMachine_dX9_addMachine_74_3.2.2.2.2.2.1
def dX9_addMachine_86 := dc_cX9_addMachine_dX9_addMachine_74_3.2.2.2.2.2.2.1
def dX9_addMachine_89 := dc_cX9_addMachine_dX9_addMachine_74_3.2.2.2.2.2.2.2.1
def dX9_addMachine_90 := dc_cX9_addMachine_dX9_addMachine_74_3.2.2.2.2.2.2.2.2.1
def dX9_addMachine_93 := dc_cX9_addMachine_dX9_addMachine_74_3.2.2.2.2.2.2.2.2.2.1
def dX9_addMachine_94 := dc_cX9_addMachine_dX9_addMachine_74_3.2.2.2.2.2.2.2.2.2.2.1
def dX9_addMachine_95 := dc_cX9_addMachine_dX9_addMachine_74_3.2.2.2.2.2.2.2.2.2.2.2.1
def dX9_addMachine_97 := dc_cX9_addMachine_dX9_addMachine_74_3.2.2.2.2.2.2.2.2.2.2.2.2.1
def dX9_addMachine_99 := dc_cX9_addMachine_dX9_addMachine_74_3.2.2.2.2.2.2.2.2.2.2.2.2.2.1
def dX9_addMachine_102 := dc_cX9_addMachine_dX9_addMachine_74_3.2.2.2.2.2.2.2.2.2.2.2.2.2.2.1
def dX9_addMachine_103 := dc_cX9_addMachine_dX9_addMachine_74_3.2.2.2.2.2.2.2.2.2.2.2.2.2.2.2
set_option maxRecDepth 100000 in
theorem db_cX9_addMachine_dX9_addMachine_104_4 : zw [(104, .lstore_n 3, 1), (105, .iinc 6 1, 3), (108, .goto (-25), 3), (111, .iinc 5 1, 3), (114, .goto (-43), 3), (117, .lload_n 3, 1), (118, .lreturn, 1)] (cX9_addMachine.data.toList.drop 104) 104 = true := by decide +kernel
def dc_cX9_addMachine_dX9_addMachine_104_4 := zw_7 db_cX9_addMachine_dX9_addMachine_104_4
def dX9_addMachine_104 := dc_cX9_addMachine_dX9_addMachine_104_4.1
def dX9_addMachine_105 := dc_cX9_addMachine_dX9_addMachine_104_4.2.1
def dX9_addMachine_108 := dc_cX9_addMachine_dX9_addMachine_104_4.2.2.1
def dX9_addMachine_111 := dc_cX9_addMachine_dX9_addMachine_104_4.2.2.2.1
def dX9_addMachine_114 := dc_cX9_addMachine_dX9_addMachine_104_4.2.2.2.2.1
def dX9_addMachine_117 := dc_cX9_addMachine_dX9_addMachine_104_4.2.2.2.2.2.1
def dX9_addMachine_118 := dc_cX9_addMachine_dX9_addMachine_104_4.2.2.2.2.2.2
set_option maxRecDepth 100000 in
theorem db_cX0_restart_dX0_restart_0_0 : zw [(0, .aload_n 0, 1), (1, .iload_n 1, 1), (2, .putfield 7, 3), (5, .return_, 1)] (cX0_restart.data.toList.drop 0) 0 = true := by decide +kernel
def dc_cX0_restart_dX0_restart_0_0 := zw_4 db_cX0_restart_dX0_restart_0_0
def dX0_restart_0 := dc_cX0_restart_dX0_restart_0_0.1
def dX0_restart_1 := dc_cX0_restart_dX0_restart_0_0.2.1
def dX0_restart_2 := dc_cX0_restart_dX0_restart_0_0.2.2.1
def dX0_restart_5 := dc_cX0_restart_dX0_restart_0_0.2.2.2
set_option maxRecDepth 100000 in
theorem db_cX0_draw_dX0_draw_0_0 : zw [(0, .aload_n 0, 1), (1, .aload_n 0, 1), (2, .getfield 7, 3), (5, .sipush 25173, 3), (8, .imul, 1), (9, .sipush 13849, 3), (12, .iadd, 1), (13, .ldc 13, 2), (15, .irem, 1), (16, .putfield 7, 3), (19, .aload_n 0, 1), (20, .getfield 7, 3), (23, .bipush 64, 2), (25, .idiv, 1), (26, .ireturn, 1)] (cX0_draw.data.toList.drop 0) 0 = true := by decide +kernel
def dc_cX0_draw_dX0_draw_0_0 := zw_15 db_cX0_draw_dX0_draw_0_0
def dX0_draw_0 := dc_cX0_draw_dX0_draw_0_0.1
def dX0_draw_1 := dc_cX0_draw_dX0_draw_0_0.2.1
def dX0_draw_2 := dc_cX0_draw_dX0_draw_0_0.2.2.1
def dX0_draw_5 := dc_cX0_draw_dX0_draw_0_0.2.2.2.1
def dX0_draw_8 := dc_cX0_draw_dX0_draw_0_0.2.2.2.2.1
def dX0_draw_9 := dc_cX0_draw_dX0_draw_0_0.2.2.2.2.2.1
def dX0_draw_12 := dc_cX0_draw_dX0_draw_0_0.2.2.2.2.2.2.1
def dX0_draw_13 := dc_cX0_draw_dX0_draw_0_0.2.2.2.2.2.2.2.1
def dX0_draw_15 := dc_cX0_draw_dX0_draw_0_0.2.2.2.2.2.2.2.2.1
def dX0_draw_16 := dc_cX0_draw_dX0_draw_0_0.2.2.2.2.2.2.2.2.2.1
def dX0_draw_19 := dc_cX0_draw_dX0_draw_0_0.2.2.2.2.2.2.2.2.2.2.1
def dX0_draw_20 := dc_cX0_draw_dX0_draw_0_0.2.2.2.2.2.2.2.2.2.2.2.1
def dX0_draw_23 := dc_cX0_draw_dX0_draw_0_0.2.2.2.2.2.2.2.2.2.2.2.2.1
def dX0_draw_25 := dc_cX0_draw_dX0_draw_0_0.2.2.2.2.2.2.2.2.2.2.2.2.2.1
def dX0_draw_26 := dc_cX0_draw_dX0_draw_0_0.2.2.2.2.2.2.2.2.2.2.2.2.2.2
set_option maxRecDepth 100000 in
theorem db_cX1_ofOtherGoalness_dX1_ofOtherGoalness_0_0 : zw [(0, .iconst 0, 1), (1, .istore_n 2, 1), (2, .iconst 0, 1), (3, .istore_n 3, 1), (4, .iload_n 3, 1), (5, .aload_n 0, 1), (6, .getfield 30, 3), (9, .if_icmp .ge 28, 3), (12, .aload_n 0, 1), (13, .iload_n 3, 1), (14, .invokevirtual 48, 3), (17, .aload_n 0, 1), (18, .iload_n 1, 1), (19, .invokevirtual 48, 3), (22, .if_icmp .eq 9, 3), (25, .iload_n 2, 1)] (cX1_ofOtherGoalness.data.toList.drop 0) 0 = true := by decide +kernel
def dc_cX1_ofOtherGoalness_dX1_ofOtherGoalness_0_0 := zw_16 db_cX1_ofOtherGoalness_dX1_ofOtherGoalness_0_0
def dX1_ofOtherGoalness_0 := dc_cX1_ofOtherGoalness_dX1_ofOtherGoalness_0_0.1
def dX1_ofOtherGoalness_1 := dc_cX1_ofOtherGoalness_dX1_ofOtherGoalness_0_0.2.1
def dX1_ofOtherGoalness_2 := dc_cX1_ofOtherGoalness_dX1_ofOtherGoalness_0_0.2.2.1
def dX1_ofOtherGoalness_3 := dc_cX1_ofOtherGoalness_dX1_ofOtherGoalness_0_0.2.2.2.1
def dX1_ofOtherGoalness_4 := dc_cX1_ofOtherGoalness_dX1_ofOtherGoalness_0_0.2.2.2.2.1
def dX1_ofOtherGoalness_5 := dc_cX1_ofOtherGoalness_dX1_ofOtherGoalness_0_0.2.2.2.2.2.1
def dX1_ofOtherGoalness_6 := dc_cX1_ofOtherGoalness_dX1_ofOtherGoalness_0_0.2.2.2.2.2.2.1
def dX1_ofOtherGoalness_9 := dc_cX1_ofOtherGoalness_dX1_ofOtherGoalness_0_0.2.2.2.2.2.2.2.1
def dX1_ofOtherGoalness_12 := dc_cX1_ofOtherGoalness_dX1_ofOtherGoalness_0_0.2.2.2.2.2.2.2.2.1
def dX1_ofOtherGoalness_13 := dc_cX1_ofOtherGoalness_dX1_ofOtherGoalness_0_0.2.2.2.2.2.2.2.2.2.1
def dX1_ofOtherGoalness_14 := dc_cX1_ofOtherGoalness_dX1_ofOtherGoalness_0_0.2.2.2.2.2.2.2.2.2.2.1
def dX1_ofOtherGoalness_17 := dc_cX1_ofOtherGoalness_dX1_ofOtherGoalness_0_0.2.2.2.2.2.2.2.2.2.2.2.1
def dX1_ofOtherGoalness_18 := dc_cX1_ofOtherGoalness_dX1_ofOtherGoalness_0_0.2.2.2.2.2.2.2.2.2.2.2.2.1
def dX1_ofOtherGoalness_19 := dc_cX1_ofOtherGoalness_dX1_ofOtherGoalness_0_0.2.2.2.2.2.2.2.2.2.2.2.2.2.1
def dX1_ofOtherGoalness_22 := dc_cX1_ofOtherGoalness_dX1_ofOtherGoalness_0_0.2.2.2.2.2.2.2.2.2.2.2.2.2.2.1
def dX1_ofOtherGoalness_25 := dc_cX1_ofOtherGoalness_dX1_ofOtherGoalness_0_0.2.2.2.2.2.2.2.2.2.2.2.2.2.2.2
set_option maxRecDepth 100000 in
theorem db_cX1_ofOtherGoalness_dX1_ofOtherGoalness_26_1 : zw [(26, .iconst 1, 1), (27, .iload_n 3, 1), (28, .ishl, 1), (29, .ior, 1), (30, .istore_n 2, 1), (31, .iinc 3 1, 3), (34, .goto (-30), 3), (37, .iload_n 2, 1), (38, .ireturn, 1)] (cX1_ofOtherGoalness.data.toList.drop 26) 26 = true := by decide +kernel
def dc_cX1_ofOtherGoalness_dX1_ofOtherGoalness_26_1 := zw_9 db_cX1_ofOtherGoalness_dX1_ofOtherGoalness_26_1
def dX1_ofOtherGoalness_26 := dc_cX1_ofOtherGoalness_dX1_ofOtherGoalness_26_1.1
def dX1_ofOtherGoalness_27 := dc_cX1_ofOtherGoalness_dX1_ofOtherGoalness_26_1.2.1
def dX1_ofOtherGoalness_28 := dc_cX1_ofOtherGoalness_dX1_ofOtherGoalness_26_1.2.2.1
def dX1_ofOtherGoalness_29 := dc_cX1_ofOtherGoalness_dX1_ofOtherGoalness_26_1.2.2.2.1
def dX1_ofOtherGoalness_30 := dc_cX1_ofOtherGoalness_dX1_ofOtherGoalness_26_1.2.2.2.2.1
def dX1_ofOtherGoalness_31 := dc_cX1_ofOtherGoalness_dX1_ofOtherGoalness_26_1.2.2.2.2.2.1
def dX1_ofOtherGoalness_34 := dc_cX1_ofOtherGoalness_dX1_ofOtherGoalness_26_1.2.2.2.2.2.2.1
def dX1_ofOtherGoalness_37 := dc_cX1_ofOtherGoalness_dX1_ofOtherGoalness_26_1.2.2.2.2.2.2.2.1
def dX1_ofOtherGoalness_38 := dc_cX1_ofOtherGoalness_dX1_ofOtherGoalness_26_1.2.2.2.2.2.2.2.2
set_option maxRecDepth 100000 in
theorem db_cX1_isLeadingToUnlike_dX1_isLeadingToUnlike_0_0 : zw [(0, .iconst 0, 1), (1, .istore 4, 2), (3, .iload 4, 2), (5, .iconst 3, 1), (6, .if_icmp .ge 38, 3), (9, .aload_n 0, 1), (10, .getfield 23, 3), (13, .aload_n 1, 1), (14, .iload_n 2, 1), (15, .iload 4, 2), (17, .invokevirtual 59, 3), (20, .invokevirtual 26, 3), (23, .aload_n 1, 1), (24, .iload_n 3, 1), (25, .iload 4, 2), (27, .invokevirtual 59, 3)] (cX1_isLeadingToUnlike.data.toList.drop 0) 0 = true := by decide +kernel
def dc_cX1_isLeadingToUnlike_dX1_isLeadingToUnlike_0_0 := zw_16 db_cX1_isLeadingToUnlike_dX1_isLeadingToUnlike_0_0
def dX1_isLeadingToUnlike_0 := dc_cX1_isLeadingToUnlike_dX1_isLeadingToUnlike_0_0.1
def dX1_isLeadingToUnlike_1 := dc_cX1_isLeadingToUnlike_dX1_isLeadingToUnlike_0_0.2.1
def dX1_isLeadingToUnlike_3 := dc_cX1_isLeadingToUnlike_dX1_isLeadingToUnlike_0_0.2.2.1
def dX1_isLeadingToUnlike_5 := dc_cX1_isLeadingToUnlike_dX1_isLeadingToUnlike_0_0.2.2.2.1
def dX1_isLeadingToUnlike_6 := dc_cX1_isLeadingToUnlike_dX1_isLeadingToUnlike_0_0.2.2.2.2.1
def dX1_isLeadingToUnlike_9 := dc_cX1_isLeadingToUnlike_dX1_isLeadingToUnlike_0_0.2.2.2.2.2.1
def dX1_isLeadingToUnlike_10 := dc_cX1_isLeadingToUnlike_dX1_isLeadingToUnlike_0_0.2.2.2.2.2.2.1
def dX1_isLeadingToUnlike_13 := dc_cX1_isLeadingToUnlike_dX1_isLeadingToUnlike_0_0.2.2.2.2.2.2.2.1
def dX1_isLeadingToUnlike_14 := dc_cX1_isLeadingToUnlike_dX1_isLeadingToUnlike_0_0.2.2.2.2.2.2.2.2.1
def dX1_isLeadingToUnlike_15 := dc_cX1_isLeadingToUnlike_dX1_isLeadingToUnlike_0_0.2.2.2.2.2.2.2.2.2.1
def dX1_isLeadingToUnlike_17 := dc_cX1_isLeadingToUnlike_dX1_isLeadingToUnlike_0_0.2.2.2.2.2.2.2.2.2.2.1
def dX1_isLeadingToUnlike_20 := dc_cX1_isLeadingToUnlike_dX1_isLeadingToUnlike_0_0.2.2.2.2.2.2.2.2.2.2.2.1
def dX1_isLeadingToUnlike_23 := dc_cX1_isLeadingToUnlike_dX1_isLeadingToUnlike_0_0.2.2.2.2.2.2.2.2.2.2.2.2.1
def dX1_isLeadingToUnlike_24 := dc_cX1_isLeadingToUnlike_dX1_isLeadingToUnlike_0_0.2.2.2.2.2.2.2.2.2.2.2.2.2.1
def dX1_isLeadingToUnlike_25 := dc_cX1_isLeadingToUnlike_dX1_isLeadingToUnlike_0_0.2.2.2.2.2.2.2.2.2.2.2.2.2.2.1
def dX1_isLeadingToUnlike_27 := dc_cX1_isLeadingToUnlike_dX1_isLeadingToUnlike_0_0.2.2.2.2.2.2.2.2.2.2.2.2.2.2.2
set_option maxRecDepth 100000 in
theorem db_cX1_isLeadingToUnlike_dX1_isLeadingToUnlike_30_1 : zw [(30, .invokestatic 70, 3), (33, .ifCond .eq 5, 3), (36, .iconst 1, 1), (37, .ireturn, 1), (38, .iinc 4 1, 3), (41, .goto (-38), 3), (44, .iconst 0, 1), (45, .ireturn, 1)] (cX1_isLeadingToUnlike.data.toList.drop 30) 30 = true := by decide +kernel
def dc_cX1_isLeadingToUnlike_dX1_isLeadingToUnlike_30_1 := zw_8 db_cX1_isLeadingToUnlike_dX1_isLeadingToUnlike_30_1
def dX1_isLeadingToUnlike_30 := dc_cX1_isLeadingToUnlike_dX1_isLeadingToUnlike_30_1.1
def dX1_isLeadingToUnlike_33 := dc_cX1_isLeadingToUnlike_dX1_isLeadingToUnlike_30_1.2.1
def dX1_isLeadingToUnlike_36 := dc_cX1_isLeadingToUnlike_dX1_isLeadingToUnlike_30_1.2.2.1
def dX1_isLeadingToUnlike_37 := dc_cX1_isLeadingToUnlike_dX1_isLeadingToUnlike_30_1.2.2.2.1
def dX1_isLeadingToUnlike_38 := dc_cX1_isLeadingToUnlike_dX1_isLeadingToUnlike_30_1.2.2.2.2.1
def dX1_isLeadingToUnlike_41 := dc_cX1_isLeadingToUnlike_dX1_isLeadingToUnlike_30_1.2.2.2.2.2.1
def dX1_isLeadingToUnlike_44 := dc_cX1_isLeadingToUnlike_dX1_isLeadingToUnlike_30_1.2.2.2.2.2.2.1
def dX1_isLeadingToUnlike_45 := dc_cX1_isLeadingToUnlike_dX1_isLeadingToUnlike_30_1.2.2.2.2.2.2.2
set_option maxRecDepth 100000 in
theorem db_cX1_tellFurther_dX1_tellFurther_0_0 : zw [(0, .iconst 0, 1), (1, .istore_n 2, 1), (2, .iconst 0, 1), (3, .istore_n 3, 1), (4, .iload_n 3, 1), (5, .aload_n 1, 1), (6, .getfield 30, 3), (9, .if_icmp .ge 96, 3), (12, .iconst 0, 1), (13, .istore 4, 2), (15, .iload 4, 2), (17, .iload_n 3, 1), (18, .if_icmp .ge 81, 3), (21, .aload_n 0, 1), (22, .getfield 23, 3), (25, .iload_n 3, 1)] (cX1_tellFurther.data.toList.drop 0) 0 = true := by decide +kernel
def dc_cX1_tellFurther_dX1_tellFurther_0_0 := zw_16 db_cX1_tellFurther_dX1_tellFurther_0_0
def dX1_tellFurther_0 := dc_cX1_tellFurther_dX1_tellFurther_0_0.1
def dX1_tellFurther_1 := dc_cX1_tellFurther_dX1_tellFurther_0_0.2.1
def dX1_tellFurther_2 := dc_cX1_tellFurther_dX1_tellFurther_0_0.2.2.1
def dX1_tellFurther_3 := dc_cX1_tellFurther_dX1_tellFurther_0_0.2.2.2.1
def dX1_tellFurther_4 := dc_cX1_tellFurther_dX1_tellFurther_0_0.2.2.2.2.1
def dX1_tellFurther_5 := dc_cX1_tellFurther_dX1_tellFurther_0_0.2.2.2.2.2.1
def dX1_tellFurther_6 := dc_cX1_tellFurther_dX1_tellFurther_0_0.2.2.2.2.2.2.1
def dX1_tellFurther_9 := dc_cX1_tellFurther_dX1_tellFurther_0_0.2.2.2.2.2.2.2.1
def dX1_tellFurther_12 := dc_cX1_tellFurther_dX1_tellFurther_0_0.2.2.2.2.2.2.2.2.1
def dX1_tellFurther_13 := dc_cX1_tellFurther_dX1_tellFurther_0_0.2.2.2.2.2.2.2.2.2.1
def dX1_tellFurther_15 := dc_cX1_tellFurther_dX1_tellFurther_0_0.2.2.2.2.2.2.2.2.2.2.1
def dX1_tellFurther_17 := dc_cX1_tellFurther_dX1_tellFurther_0_0.2.2.2.2.2.2.2.2.2.2.2.1
def dX1_tellFurther_18 := dc_cX1_tellFurther_dX1_tellFurther_0_0.2.2.2.2.2.2.2.2.2.2.2.2.1
def dX1_tellFurther_21 := dc_cX1_tellFurther_dX1_tellFurther_0_0.2.2.2.2.2.2.2.2.2.2.2.2.2.1
def dX1_tellFurther_22 := dc_cX1_tellFurther_dX1_tellFurther_0_0.2.2.2.2.2.2.2.2.2.2.2.2.2.2.1
def dX1_tellFurther_25 := dc_cX1_tellFurther_dX1_tellFurther_0_0.2.2.2.2.2.2.2.2.2.2.2.2.2.2.2
set_option maxRecDepth 100000 in
theorem db_cX1_tellFurther_dX1_tellFurther_26_1 : zw [(26, .invokevirtual 26, 3), (29, .iload 4, 2), (31, .invokestatic 70, 3), (34, .ifCond .ne 59, 3), (37, .aload_n 0, 1), (38, .aload_n 1, 1), (39, .iload_n 3, 1), (40, .iload 4, 2), (42, .invokevirtual 74, 3), (45, .ifCond .eq 48, 3), (48, .aload_n 0, 1), (49, .getfield 23, 3), (52, .iload_n 3, 1), (53, .aload_n 0, 1), (54, .getfield 23, 3), (57, .iload_n 3, 1)] (cX1_tellFurther.data.toList.drop 26) 26 = true := by decide +kernel
def dc_cX1_tellFurther_dX1_tellFurther_26_1 := zw_16 db_cX1_tellFurther_dX1_tellFurther_26_1
def dX1_tellFurther_26 := dc_cX1_tellFurther_dX1_tellFurther_26_1.1
def dX1_tellFurther_29 := dc_cX1_tellFurther_dX1_tellFurther_26_1.2.1
def dX1_tellFurther_31 := dc_cX1_tellFurther_dX1_tellFurther_26_1.2.2.1
def dX1_tellFurther_34 := dc_cX1_tellFurther_dX1_tellFurther_26_1.2.2.2.1
def dX1_tellFurther_37 := dc_cX1_tellFurther_dX1_tellFurther_26_1.2.2.2.2.1
def dX1_tellFurther_38 := dc_cX1_tellFurther_dX1_tellFurther_26_1.2.2.2.2.2.1
def dX1_tellFurther_39 := dc_cX1_tellFurther_dX1_tellFurther_26_1.2.2.2.2.2.2.1
def dX1_tellFurther_40 := dc_cX1_tellFurther_dX1_tellFurther_26_1.2.2.2.2.2.2.2.1
def dX1_tellFurther_42 := dc_cX1_tellFurther_dX1_tellFurther_26_1.2.2.2.2.2.2.2.2.1
def dX1_tellFurther_45 := dc_cX1_tellFurther_dX1_tellFurther_26_1.2.2.2.2.2.2.2.2.2.1
def dX1_tellFurther_48 := dc_cX1_tellFurther_dX1_tellFurther_26_1.2.2.2.2.2.2.2.2.2.2.1
def dX1_tellFurther_49 := dc_cX1_tellFurther_dX1_tellFurther_26_1.2.2.2.2.2.2.2.2.2.2.2.1
def dX1_tellFurther_52 := dc_cX1_tellFurther_dX1_tellFurther_26_1.2.2.2.2.2.2.2.2.2.2.2.2.1
def dX1_tellFurther_53 := dc_cX1_tellFurther_dX1_tellFurther_26_1.2.2.2.2.2.2.2.2.2.2.2.2.2.1
def dX1_tellFurther_54 := dc_cX1_tellFurther_dX1_tellFurther_26_1.2.2.2.2.2.2.2.2.2.2.2.2.2.2.1
def dX1_tellFurther_57 := dc_cX1_tellFurther_dX1_tellFurther_26_1.2.2.2.2.2.2.2.2.2.2.2.2.2.2.2
set_option maxRecDepth 100000 in
theorem db_cX1_tellFurther_dX1_tellFurther_58_2 : zw [(58, .invokevirtual 26, 3), (61, .iconst 1, 1), (62, .iload 4, 2), (64, .ishl, 1), (65, .ior, 1), (66, .invokevirtual 40, 3), (69, .aload_n 0, 1), (70, .getfield 23, 3), (73, .iload 4, 2), (75, .aload_n 0, 1), (76, .getfield 23, 3), (79, .iload 4, 2), (81, .invokevirtual 26, 3), (84, .iconst 1, 1), (85, .iload_n 3, 1), (86, .ishl, 1)] (cX1_tellFurther.data.toList.drop 58) 58 = true := by decide +kernel
def dc_cX1_tellFurther_dX1_tellFurther_58_2 := zw_16 db_cX1_tellFurther_dX1_tellFurther_58_2
def dX1_tellFurther_58 := dc_cX1_tellFurther_dX1_tellFurther_58_2.1
def dX1_tellFurther_61 := dc_cX1_tellFurther_dX1_tellFurther_58_2.2.1
def dX1_tellFurther_62 := dc_cX1_tellFurther_dX1_tellFurther_58_2.2.2.1
def dX1_tellFurther_64 := dc_cX1_tellFurther_dX1_tellFurther_58_2.2.2.2.1
def dX1_tellFurther_65 := dc_cX1_tellFurther_dX1_tellFurther_58_2.2.2.2.2.1
def dX1_tellFurther_66 := dc_cX1_tellFurther_dX1_tellFurther_58_2.2.2.2.2.2.1
def dX1_tellFurther_69 := dc_cX1_tellFurther_dX1_tellFurther_58_2.2.2.2.2.2.2.1
def dX1_tellFurther_70 := dc_cX1_tellFurther_dX1_tellFurther_58_2.2.2.2.2.2.2.2.1
def dX1_tellFurther_73 := dc_cX1_tellFurther_dX1_tellFurther_58_2.2.2.2.2.2.2.2.2.1
def dX1_tellFurther_75 := dc_cX1_tellFurther_dX1_tellFurther_58_2.2.2.2.2.2.2.2.2.2.1
def dX1_tellFurther_76 := dc_cX1_tellFurther_dX1_tellFurther_58_2.2.2.2.2.2.2.2.2.2.2.1
def dX1_tellFurther_79 := dc_cX1_tellFurther_dX1_tellFurther_58_2.2.2.2.2.2.2.2.2.2.2.2.1
def dX1_tellFurther_81 := dc_cX1_tellFurther_dX1_tellFurther_58_2.2.2.2.2.2.2.2.2.2.2.2.2.1
def dX1_tellFurther_84 := dc_cX1_tellFurther_dX1_tellFurther_58_2.2.2.2.2.2.2.2.2.2.2.2.2.2.1
def dX1_tellFurther_85 := dc_cX1_tellFurther_dX1_tellFurther_58_2.2.2.2.2.2.2.2.2.2.2.2.2.2.2.1
def dX1_tellFurther_86 := dc_cX1_tellFurther_dX1_tellFurther_58_2.2.2.2.2.2.2.2.2.2.2.2.2.2.2.2
set_option maxRecDepth 100000 in
theorem db_cX1_tellFurther_dX1_tellFurther_87_3 : zw [(87, .ior, 1), (88, .invokevirtual 40, 3), (91, .iconst 1, 1), (92, .istore_n 2, 1), (93, .iinc 4 1, 3), (96, .goto (-81), 3), (99, .iinc 3 1, 3), (102, .goto (-98), 3), (105, .iload_n 2, 1), (106, .ireturn, 1)] (cX1_tellFurther.data.toList.drop 87) 87 = true := by decide +kernel
def dc_cX1_tellFurther_dX1_tellFurther_87_3 := zw_10 db_cX1_tellFurther_dX1_tellFurther_87_3
def dX1_tellFurther_87 := dc_cX1_tellFurther_dX1_tellFurther_87_3.1
def dX1_tellFurther_88 := dc_cX1_tellFurther_dX1_tellFurther_87_3.2.1
def dX1_tellFurther_91 := dc_cX1_tellFurther_dX1_tellFurther_87_3.2.2.1
def dX1_tellFurther_92 := dc_cX1_tellFurther_dX1_tellFurther_87_3.2.2.2.1
def dX1_tellFurther_93 := dc_cX1_tellFurther_dX1_tellFurther_87_3.2.2.2.2.1
def dX1_tellFurther_96 := dc_cX1_tellFurther_dX1_tellFurther_87_3.2.2.2.2.2.1
def dX1_tellFurther_99 := dc_cX1_tellFurther_dX1_tellFurther_87_3.2.2.2.2.2.2.1
def dX1_tellFurther_102 := dc_cX1_tellFurther_dX1_tellFurther_87_3.2.2.2.2.2.2.2.1
def dX1_tellFurther_105 := dc_cX1_tellFurther_dX1_tellFurther_87_3.2.2.2.2.2.2.2.2.1
def dX1_tellFurther_106 := dc_cX1_tellFurther_dX1_tellFurther_87_3.2.2.2.2.2.2.2.2.2
set_option maxRecDepth 100000 in
theorem db_cX1_firstNotUnlike_dX1_firstNotUnlike_0_0 : zw [(0, .iconst 0, 1), (1, .istore_n 2, 1), (2, .iload_n 2, 1), (3, .iload_n 1, 1), (4, .if_icmp .ge 26, 3), (7, .aload_n 0, 1), (8, .getfield 23, 3), (11, .iload_n 1, 1), (12, .invokevirtual 26, 3), (15, .iload_n 2, 1), (16, .invokestatic 70, 3), (19, .ifCond .ne 5, 3), (22, .iload_n 2, 1), (23, .ireturn, 1), (24, .iinc 2 1, 3), (27, .goto (-25), 3)] (cX1_firstNotUnlike.data.toList.drop 0) 0 = true := by decide +kernel
def dc_cX1_firstNotUnlike_dX1_firstNotUnlike_0_0 := zw_16 db_cX1_firstNotUnlike_dX1_firstNotUnlike_0_0
def dX1_firstNotUnlike_0 := dc_cX1_firstNotUnlike_dX1_firstNotUnlike_0_0.1
def dX1_firstNotUnlike_1 := dc_cX1_firstNotUnlike_dX1_firstNotUnlike_0_0.2.1
def dX1_firstNotUnlike_2 := dc_cX1_firstNotUnlike_dX1_firstNotUnlike_0_0.2.2.1
def dX1_firstNotUnlike_3 := dc_cX1_firstNotUnlike_dX1_firstNotUnlike_0_0.2.2.2.1
def dX1_firstNotUnlike_4 := dc_cX1_firstNotUnlike_dX1_firstNotUnlike_0_0.2.2.2.2.1
def dX1_firstNotUnlike_7 := dc_cX1_firstNotUnlike_dX1_firstNotUnlike_0_0.2.2.2.2.2.1
def dX1_firstNotUnlike_8 := dc_cX1_firstNotUnlike_dX1_firstNotUnlike_0_0.2.2.2.2.2.2.1
def dX1_firstNotUnlike_11 := dc_cX1_firstNotUnlike_dX1_firstNotUnlike_0_0.2.2.2.2.2.2.2.1
def dX1_firstNotUnlike_12 := dc_cX1_firstNotUnlike_dX1_firstNotUnlike_0_0.2.2.2.2.2.2.2.2.1
def dX1_firstNotUnlike_15 := dc_cX1_firstNotUnlike_dX1_firstNotUnlike_0_0.2.2.2.2.2.2.2.2.2.1
def dX1_firstNotUnlike_16 := dc_cX1_firstNotUnlike_dX1_firstNotUnlike_0_0.2.2.2.2.2.2.2.2.2.2.1
def dX1_firstNotUnlike_19 := dc_cX1_firstNotUnlike_dX1_firstNotUnlike_0_0.2.2.2.2.2.2.2.2.2.2.2.1
def dX1_firstNotUnlike_22 := dc_cX1_firstNotUnlike_dX1_firstNotUnlike_0_0.2.2.2.2.2.2.2.2.2.2.2.2.1
def dX1_firstNotUnlike_23 := dc_cX1_firstNotUnlike_dX1_firstNotUnlike_0_0.2.2.2.2.2.2.2.2.2.2.2.2.2.1
def dX1_firstNotUnlike_24 := dc_cX1_firstNotUnlike_dX1_firstNotUnlike_0_0.2.2.2.2.2.2.2.2.2.2.2.2.2.2.1
def dX1_firstNotUnlike_27 := dc_cX1_firstNotUnlike_dX1_firstNotUnlike_0_0.2.2.2.2.2.2.2.2.2.2.2.2.2.2.2
set_option maxRecDepth 100000 in
theorem db_cX1_firstNotUnlike_dX1_firstNotUnlike_30_1 : zw [(30, .iload_n 1, 1), (31, .ireturn, 1)] (cX1_firstNotUnlike.data.toList.drop 30) 30 = true := by decide +kernel
def dc_cX1_firstNotUnlike_dX1_firstNotUnlike_30_1 := zw_2 db_cX1_firstNotUnlike_dX1_firstNotUnlike_30_1
def dX1_firstNotUnlike_30 := dc_cX1_firstNotUnlike_dX1_firstNotUnlike_30_1.1
def dX1_firstNotUnlike_31 := dc_cX1_firstNotUnlike_dX1_firstNotUnlike_30_1.2
set_option maxRecDepth 100000 in
theorem db_cX1_findByPairs_dX1_findByPairs_0_0 : zw [(0, .iconst 0, 1), (1, .istore_n 2, 1), (2, .iload_n 2, 1), (3, .aload_n 1, 1), (4, .getfield 30, 3), (7, .if_icmp .ge 22, 3), (10, .aload_n 0, 1), (11, .getfield 23, 3), (14, .iload_n 2, 1), (15, .aload_n 1, 1), (16, .iload_n 2, 1), (17, .invokestatic 61, 3), (20, .invokevirtual 40, 3), (23, .iinc 2 1, 3), (26, .goto (-24), 3), (29, .iconst 1, 1)] (cX1_findByPairs.data.toList.drop 0) 0 = true := by decide +kernel
def dc_cX1_findByPairs_dX1_findByPairs_0_0 := zw_16 db_cX1_findByPairs_dX1_findByPairs_0_0
def dX1_findByPairs_0 := dc_cX1_findByPairs_dX1_findByPairs_0_0.1
def dX1_findByPairs_1 := dc_cX1_findByPairs_dX1_findByPairs_0_0.2.1
def dX1_findByPairs_2 := dc_cX1_findByPairs_dX1_findByPairs_0_0.2.2.1
def dX1_findByPairs_3 := dc_cX1_findByPairs_dX1_findByPairs_0_0.2.2.2.1
def dX1_findByPairs_4 := dc_cX1_findByPairs_dX1_findByPairs_0_0.2.2.2.2.1
def dX1_findByPairs_7 := dc_cX1_findByPairs_dX1_findByPairs_0_0.2.2.2.2.2.1
def dX1_findByPairs_10 := dc_cX1_findByPairs_dX1_findByPairs_0_0.2.2.2.2.2.2.1
def dX1_findByPairs_11 := dc_cX1_findByPairs_dX1_findByPairs_0_0.2.2.2.2.2.2.2.1
def dX1_findByPairs_14 := dc_cX1_findByPairs_dX1_findByPairs_0_0.2.2.2.2.2.2.2.2.1
def dX1_findByPairs_15 := dc_cX1_findByPairs_dX1_findByPairs_0_0.2.2.2.2.2.2.2.2.2.1
def dX1_findByPairs_16 := dc_cX1_findByPairs_dX1_findByPairs_0_0.2.2.2.2.2.2.2.2.2.2.1
def dX1_findByPairs_17 := dc_cX1_findByPairs_dX1_findByPairs_0_0.2.2.2.2.2.2.2.2.2.2.2.1
def dX1_findByPairs_20 := dc_cX1_findByPairs_dX1_findByPairs_0_0.2.2.2.2.2.2.2.2.2.2.2.2.1
def dX1_findByPairs_23 := dc_cX1_findByPairs_dX1_findByPairs_0_0.2.2.2.2.2.2.2.2.2.2.2.2.2.1
def dX1_findByPairs_26 := dc_cX1_findByPairs_dX1_findByPairs_0_0.2.2.2.2.2.2.2.2.2.2.2.2.2.2.1
def dX1_findByPairs_29 := dc_cX1_findByPairs_dX1_findByPairs_0_0.2.2.2.2.2.2.2.2.2.2.2.2.2.2.2
set_option maxRecDepth 100000 in
theorem db_cX1_findByPairs_dX1_findByPairs_30_1 : zw [(30, .istore_n 2, 1), (31, .iconst 0, 1), (32, .istore_n 3, 1), (33, .iload_n 3, 1), (34, .sipush 1024, 3), (37, .if_icmp .ge 19, 3), (40, .iload_n 2, 1), (41, .ifCond .eq 15, 3), (44, .aload_n 0, 1), (45, .aload_n 1, 1), (46, .invokevirtual 64, 3), (49, .istore_n 2, 1), (50, .iinc 3 1, 3), (53, .goto (-20), 3), (56, .iconst 0, 1), (57, .istore_n 3, 1)] (cX1_findByPairs.data.toList.drop 30) 30 = true := by decide +kernel
def dc_cX1_findByPairs_dX1_findByPairs_30_1 := zw_16 db_cX1_findByPairs_dX1_findByPairs_30_1
def dX1_findByPairs_30 := dc_cX1_findByPairs_dX1_findByPairs_30_1.1
def dX1_findByPairs_31 := dc_cX1_findByPairs_dX1_findByPairs_30_1.2.1
def dX1_findByPairs_32 := dc_cX1_findByPairs_dX1_findByPairs_30_1.2.2.1
def dX1_findByPairs_33 := dc_cX1_findByPairs_dX1_findByPairs_30_1.2.2.2.1
def dX1_findByPairs_34 := dc_cX1_findByPairs_dX1_findByPairs_30_1.2.2.2.2.1
def dX1_findByPairs_37 := dc_cX1_findByPairs_dX1_findByPairs_30_1.2.2.2.2.2.1
def dX1_findByPairs_40 := dc_cX1_findByPairs_dX1_findByPairs_30_1.2.2.2.2.2.2.1
def dX1_findByPairs_41 := dc_cX1_findByPairs_dX1_findByPairs_30_1.2.2.2.2.2.2.2.1
def dX1_findByPairs_44 := dc_cX1_findByPairs_dX1_findByPairs_30_1.2.2.2.2.2.2.2.2.1
def dX1_findByPairs_45 := dc_cX1_findByPairs_dX1_findByPairs_30_1.2.2.2.2.2.2.2.2.2.1
def dX1_findByPairs_46 := dc_cX1_findByPairs_dX1_findByPairs_30_1.2.2.2.2.2.2.2.2.2.2.1
def dX1_findByPairs_49 := dc_cX1_findByPairs_dX1_findByPairs_30_1.2.2.2.2.2.2.2.2.2.2.2.1
def dX1_findByPairs_50 := dc_cX1_findByPairs_dX1_findByPairs_30_1.2.2.2.2.2.2.2.2.2.2.2.2.1
def dX1_findByPairs_53 := dc_cX1_findByPairs_dX1_findByPairs_30_1.2.2.2.2.2.2.2.2.2.2.2.2.2.1
def dX1_findByPairs_56 := dc_cX1_findByPairs_dX1_findByPairs_30_1.2.2.2.2.2.2.2.2.2.2.2.2.2.2.1
def dX1_findByPairs_57 := dc_cX1_findByPairs_dX1_findByPairs_30_1.2.2.2.2.2.2.2.2.2.2.2.2.2.2.2
set_option maxRecDepth 100000 in
theorem db_cX1_findByPairs_dX1_findByPairs_58_2 : zw [(58, .iload_n 3, 1), (59, .aload_n 1, 1), (60, .getfield 30, 3), (63, .if_icmp .ge 22, 3), (66, .aload_n 0, 1), (67, .getfield 14, 3), (70, .iload_n 3, 1), (71, .aload_n 0, 1), (72, .iload_n 3, 1), (73, .invokevirtual 67, 3), (76, .invokevirtual 40, 3), (79, .iinc 3 1, 3), (82, .goto (-24), 3), (85, .return_, 1)] (cX1_findByPairs.data.toList.drop 58) 58 = true := by decide +kernel
def dc_cX1_findByPairs_dX1_findByPairs_58_2 := zw_14 db_cX1_findByPairs_dX1_findByPairs_58_2
def dX1_findByPairs_58 := dc_cX1_findByPairs_dX1_findByPairs_58_2.1
def dX1_findByPairs_59 := dc_cX1_findByPairs_dX1_findByPairs_58_2.2.1
def dX1_findByPairs_60 := dc_cX1_findByPairs_dX1_findByPairs_58_2.2.2.1
def dX1_findByPairs_63 := dc_cX1_findByPairs_dX1_findByPairs_58_2.2.2.2.1
def dX1_findByPairs_66 := dc_cX1_findByPairs_dX1_findByPairs_58_2.2.2.2.2.1
def dX1_findByPairs_67 := dc_cX1_findByPairs_dX1_findByPairs_58_2.2.2.2.2.2.1
def dX1_findByPairs_70 := dc_cX1_findByPairs_dX1_findByPairs_58_2.2.2.2.2.2.2.1
def dX1_findByPairs_71 := dc_cX1_findByPairs_dX1_findByPairs_58_2.2.2.2.2.2.2.2.1
def dX1_findByPairs_72 := dc_cX1_findByPairs_dX1_findByPairs_58_2.2.2.2.2.2.2.2.2.1
def dX1_findByPairs_73 := dc_cX1_findByPairs_dX1_findByPairs_58_2.2.2.2.2.2.2.2.2.2.1
def dX1_findByPairs_76 := dc_cX1_findByPairs_dX1_findByPairs_58_2.2.2.2.2.2.2.2.2.2.2.1
def dX1_findByPairs_79 := dc_cX1_findByPairs_dX1_findByPairs_58_2.2.2.2.2.2.2.2.2.2.2.2.1
def dX1_findByPairs_82 := dc_cX1_findByPairs_dX1_findByPairs_58_2.2.2.2.2.2.2.2.2.2.2.2.2.1
def dX1_findByPairs_85 := dc_cX1_findByPairs_dX1_findByPairs_58_2.2.2.2.2.2.2.2.2.2.2.2.2.2
set_option maxRecDepth 100000 in
theorem db_cX2_addState_dX2_addState_0_0 : zw [(0, .iconst 0, 1), (1, .istore_n 1, 1), (2, .iload_n 1, 1), (3, .iconst 3, 1), (4, .if_icmp .ge 19, 3), (7, .aload_n 0, 1), (8, .aload_n 0, 1), (9, .getfield 15, 3), (12, .iload_n 1, 1), (13, .iconst 0, 1), (14, .invokevirtual 43, 3), (17, .iinc 1 1, 3), (20, .goto (-18), 3), (23, .aload_n 0, 1), (24, .dup, 1), (25, .getfield 15, 3)] (cX2_addState.data.toList.drop 0) 0 = true := by decide +kernel
def dc_cX2_addState_dX2_addState_0_0 := zw_16 db_cX2_addState_dX2_addState_0_0
def dX2_addState_0 := dc_cX2_addState_dX2_addState_0_0.1
def dX2_addState_1 := dc_cX2_addState_dX2_addState_0_0.2.1
def dX2_addState_2 := dc_cX2_addState_dX2_addState_0_0.2.2.1
def dX2_addState_3 := dc_cX2_addState_dX2_addState_0_0.2.2.2.1
def dX2_addState_4 := dc_cX2_addState_dX2_addState_0_0.2.2.2.2.1
def dX2_addState_7 := dc_cX2_addState_dX2_addState_0_0.2.2.2.2.2.1
def dX2_addState_8 := dc_cX2_addState_dX2_addState_0_0.2.2.2.2.2.2.1
def dX2_addState_9 := dc_cX2_addState_dX2_addState_0_0.2.2.2.2.2.2.2.1
def dX2_addState_12 := dc_cX2_addState_dX2_addState_0_0.2.2.2.2.2.2.2.2.1
def dX2_addState_13 := dc_cX2_addState_dX2_addState_0_0.2.2.2.2.2.2.2.2.2.1
def dX2_addState_14 := dc_cX2_addState_dX2_addState_0_0.2.2.2.2.2.2.2.2.2.2.1
def dX2_addState_17 := dc_cX2_addState_dX2_addState_0_0.2.2.2.2.2.2.2.2.2.2.2.1
def dX2_addState_20 := dc_cX2_addState_dX2_addState_0_0.2.2.2.2.2.2.2.2.2.2.2.2.1
def dX2_addState_23 := dc_cX2_addState_dX2_addState_0_0.2.2.2.2.2.2.2.2.2.2.2.2.2.1
def dX2_addState_24 := dc_cX2_addState_dX2_addState_0_0.2.2.2.2.2.2.2.2.2.2.2.2.2.2.1
def dX2_addState_25 := dc_cX2_addState_dX2_addState_0_0.2.2.2.2.2.2.2.2.2.2.2.2.2.2.2
set_option maxRecDepth 100000 in
theorem db_cX2_addState_dX2_addState_28_1 : zw [(28, .iconst 1, 1), (29, .iadd, 1), (30, .putfield 15, 3), (33, .return_, 1)] (cX2_addState.data.toList.drop 28) 28 = true := by decide +kernel
def dc_cX2_addState_dX2_addState_28_1 := zw_4 db_cX2_addState_dX2_addState_28_1
def dX2_addState_28 := dc_cX2_addState_dX2_addState_28_1.1
def dX2_addState_29 := dc_cX2_addState_dX2_addState_28_1.2.1
def dX2_addState_30 := dc_cX2_addState_dX2_addState_28_1.2.2.1
def dX2_addState_33 := dc_cX2_addState_dX2_addState_28_1.2.2.2
set_option maxRecDepth 100000 in
theorem db_cX2_clear_dX2_clear_0_0 : zw [(0, .aload_n 0, 1), (1, .iconst 0, 1), (2, .putfield 15, 3), (5, .aload_n 0, 1), (6, .iconst 0, 1), (7, .putfield 18, 3), (10, .iconst 0, 1), (11, .istore_n 2, 1), (12, .iload_n 2, 1), (13, .iload_n 1, 1), (14, .if_icmp .ge 13, 3), (17, .aload_n 0, 1), (18, .invokevirtual 21, 3), (21, .iinc 2 1, 3), (24, .goto (-12), 3), (27, .aload_n 0, 1)] (cX2_clear.data.toList.drop 0) 0 = true := by decide +kernel
def dc_cX2_clear_dX2_clear_0_0 := zw_16 db_cX2_clear_dX2_clear_0_0
def dX2_clear_0 := dc_cX2_clear_dX2_clear_0_0.1
def dX2_clear_1 := dc_cX2_clear_dX2_clear_0_0.2.1
def dX2_clear_2 := dc_cX2_clear_dX2_clear_0_0.2.2.1
def dX2_clear_5 := dc_cX2_clear_dX2_clear_0_0.2.2.2.1
def dX2_clear_6 := dc_cX2_clear_dX2_clear_0_0.2.2.2.2.1
def dX2_clear_7 := dc_cX2_clear_dX2_clear_0_0.2.2.2.2.2.1
def dX2_clear_10 := dc_cX2_clear_dX2_clear_0_0.2.2.2.2.2.2.1
def dX2_clear_11 := dc_cX2_clear_dX2_clear_0_0.2.2.2.2.2.2.2.1
def dX2_clear_12 := dc_cX2_clear_dX2_clear_0_0.2.2.2.2.2.2.2.2.1
def dX2_clear_13 := dc_cX2_clear_dX2_clear_0_0.2.2.2.2.2.2.2.2.2.1
def dX2_clear_14 := dc_cX2_clear_dX2_clear_0_0.2.2.2.2.2.2.2.2.2.2.1
def dX2_clear_17 := dc_cX2_clear_dX2_clear_0_0.2.2.2.2.2.2.2.2.2.2.2.1
def dX2_clear_18 := dc_cX2_clear_dX2_clear_0_0.2.2.2.2.2.2.2.2.2.2.2.2.1
def dX2_clear_21 := dc_cX2_clear_dX2_clear_0_0.2.2.2.2.2.2.2.2.2.2.2.2.2.1
def dX2_clear_24 := dc_cX2_clear_dX2_clear_0_0.2.2.2.2.2.2.2.2.2.2.2.2.2.2.1
def dX2_clear_27 := dc_cX2_clear_dX2_clear_0_0.2.2.2.2.2.2.2.2.2.2.2.2.2.2.2
set_option maxRecDepth 100000 in
theorem db_cX2_clear_dX2_clear_28_1 : zw [(28, .iconst 1, 1), (29, .putfield 9, 3), (32, .return_, 1)] (cX2_clear.data.toList.drop 28) 28 = true := by decide +kernel
def dc_cX2_clear_dX2_clear_28_1 := zw_3 db_cX2_clear_dX2_clear_28_1
def dX2_clear_28 := dc_cX2_clear_dX2_clear_28_1.1
def dX2_clear_29 := dc_cX2_clear_dX2_clear_28_1.2.1
def dX2_clear_32 := dc_cX2_clear_dX2_clear_28_1.2.2
set_option maxRecDepth 100000 in
theorem db_cX2_allStates_dX2_allStates_0_0 : zw [(0, .iconst 1, 1), (1, .aload_n 0, 1), (2, .getfield 15, 3), (5, .ishl, 1), (6, .iconst 1, 1), (7, .isub, 1), (8, .ireturn, 1)] (cX2_allStates.data.toList.drop 0) 0 = true := by decide +kernel
def dc_cX2_allStates_dX2_allStates_0_0 := zw_7 db_cX2_allStates_dX2_allStates_0_0
def dX2_allStates_0 := dc_cX2_allStates_dX2_allStates_0_0.1
def dX2_allStates_1 := dc_cX2_allStates_dX2_allStates_0_0.2.1
def dX2_allStates_2 := dc_cX2_allStates_dX2_allStates_0_0.2.2.1
def dX2_allStates_5 := dc_cX2_allStates_dX2_allStates_0_0.2.2.2.1
def dX2_allStates_6 := dc_cX2_allStates_dX2_allStates_0_0.2.2.2.2.1
def dX2_allStates_7 := dc_cX2_allStates_dX2_allStates_0_0.2.2.2.2.2.1
def dX2_allStates_8 := dc_cX2_allStates_dX2_allStates_0_0.2.2.2.2.2.2
set_option maxRecDepth 100000 in
theorem db_cX2_sowOne_dX2_sowOne_0_0 : zw [(0, .aload_n 1, 1), (1, .invokevirtual 47, 3), (4, .istore_n 2, 1), (5, .aload_n 0, 1), (6, .getfield 15, 3), (9, .ifCond .le 14, 3), (12, .iconst 1, 1), (13, .iload_n 2, 1), (14, .aload_n 0, 1), (15, .getfield 15, 3), (18, .irem, 1), (19, .ishl, 1), (20, .goto 4, 3), (23, .iconst 0, 1), (24, .ireturn, 1)] (cX2_sowOne.data.toList.drop 0) 0 = true := by decide +kernel
def dc_cX2_sowOne_dX2_sowOne_0_0 := zw_15 db_cX2_sowOne_dX2_sowOne_0_0
def dX2_sowOne_0 := dc_cX2_sowOne_dX2_sowOne_0_0.1
def dX2_sowOne_1 := dc_cX2_sowOne_dX2_sowOne_0_0.2.1
def dX2_sowOne_4 := dc_cX2_sowOne_dX2_sowOne_0_0.2.2.1
def dX2_sowOne_5 := dc_cX2_sowOne_dX2_sowOne_0_0.2.2.2.1
def dX2_sowOne_6 := dc_cX2_sowOne_dX2_sowOne_0_0.2.2.2.2.1
def dX2_sowOne_9 := dc_cX2_sowOne_dX2_sowOne_0_0.2.2.2.2.2.1
def dX2_sowOne_12 := dc_cX2_sowOne_dX2_sowOne_0_0.2.2.2.2.2.2.1
def dX2_sowOne_13 := dc_cX2_sowOne_dX2_sowOne_0_0.2.2.2.2.2.2.2.1
def dX2_sowOne_14 := dc_cX2_sowOne_dX2_sowOne_0_0.2.2.2.2.2.2.2.2.1
def dX2_sowOne_15 := dc_cX2_sowOne_dX2_sowOne_0_0.2.2.2.2.2.2.2.2.2.1
def dX2_sowOne_18 := dc_cX2_sowOne_dX2_sowOne_0_0.2.2.2.2.2.2.2.2.2.2.1
def dX2_sowOne_19 := dc_cX2_sowOne_dX2_sowOne_0_0.2.2.2.2.2.2.2.2.2.2.2.1
def dX2_sowOne_20 := dc_cX2_sowOne_dX2_sowOne_0_0.2.2.2.2.2.2.2.2.2.2.2.2.1
def dX2_sowOne_23 := dc_cX2_sowOne_dX2_sowOne_0_0.2.2.2.2.2.2.2.2.2.2.2.2.2.1
def dX2_sowOne_24 := dc_cX2_sowOne_dX2_sowOne_0_0.2.2.2.2.2.2.2.2.2.2.2.2.2.2
set_option maxRecDepth 100000 in
theorem db_cX2_sowSome_dX2_sowSome_0_0 : zw [(0, .iconst 0, 1), (1, .istore_n 3, 1), (2, .iconst 0, 1), (3, .istore 4, 2), (5, .iload 4, 2), (7, .aload_n 0, 1), (8, .getfield 15, 3), (11, .if_icmp .ge 35, 3), (14, .aload_n 1, 1), (15, .invokevirtual 47, 3), (18, .istore 5, 2), (20, .iload_n 2, 1), (21, .ifCond .lt 19, 3), (24, .iload 5, 2), (26, .iload_n 2, 1), (27, .iconst 1, 1)] (cX2_sowSome.data.toList.drop 0) 0 = true := by decide +kernel
def dc_cX2_sowSome_dX2_sowSome_0_0 := zw_16 db_cX2_sowSome_dX2_sowSome_0_0
def dX2_sowSome_0 := dc_cX2_sowSome_dX2_sowSome_0_0.1
def dX2_sowSome_1 := dc_cX2_sowSome_dX2_sowSome_0_0.2.1
def dX2_sowSome_2 := dc_cX2_sowSome_dX2_sowSome_0_0.2.2.1
def dX2_sowSome_3 := dc_cX2_sowSome_dX2_sowSome_0_0.2.2.2.1
def dX2_sowSome_5 := dc_cX2_sowSome_dX2_sowSome_0_0.2.2.2.2.1
def dX2_sowSome_7 := dc_cX2_sowSome_dX2_sowSome_0_0.2.2.2.2.2.1
def dX2_sowSome_8 := dc_cX2_sowSome_dX2_sowSome_0_0.2.2.2.2.2.2.1
def dX2_sowSome_11 := dc_cX2_sowSome_dX2_sowSome_0_0.2.2.2.2.2.2.2.1
def dX2_sowSome_14 := dc_cX2_sowSome_dX2_sowSome_0_0.2.2.2.2.2.2.2.2.1
def dX2_sowSome_15 := dc_cX2_sowSome_dX2_sowSome_0_0.2.2.2.2.2.2.2.2.2.1
def dX2_sowSome_18 := dc_cX2_sowSome_dX2_sowSome_0_0.2.2.2.2.2.2.2.2.2.2.1
def dX2_sowSome_20 := dc_cX2_sowSome_dX2_sowSome_0_0.2.2.2.2.2.2.2.2.2.2.2.1
def dX2_sowSome_21 := dc_cX2_sowSome_dX2_sowSome_0_0.2.2.2.2.2.2.2.2.2.2.2.2.1
def dX2_sowSome_24 := dc_cX2_sowSome_dX2_sowSome_0_0.2.2.2.2.2.2.2.2.2.2.2.2.2.1
def dX2_sowSome_26 := dc_cX2_sowSome_dX2_sowSome_0_0.2.2.2.2.2.2.2.2.2.2.2.2.2.2.1
def dX2_sowSome_27 := dc_cX2_sowSome_dX2_sowSome_0_0.2.2.2.2.2.2.2.2.2.2.2.2.2.2.2
set_option maxRecDepth 100000 in
theorem db_cX2_sowSome_dX2_sowSome_28_1 : zw [(28, .iadd, 1), (29, .irem, 1), (30, .ifCond .ne 10, 3), (33, .iload_n 3, 1), (34, .iconst 1, 1), (35, .iload 4, 2), (37, .ishl, 1), (38, .ior, 1), (39, .istore_n 3, 1), (40, .iinc 4 1, 3), (43, .goto (-38), 3), (46, .iload_n 3, 1), (47, .ireturn, 1)] (cX2_sowSome.data.toList.drop 28) 28 = true := by decide +kernel
def dc_cX2_sowSome_dX2_sowSome_28_1 := zw_13 db_cX2_sowSome_dX2_sowSome_28_1
def dX2_sowSome_28 := dc_cX2_sowSome_dX2_sowSome_28_1.1
def dX2_sowSome_29 := dc_cX2_sowSome_dX2_sowSome_28_1.2.1
def dX2_sowSome_30 := dc_cX2_sowSome_dX2_sowSome_28_1.2.2.1
def dX2_sowSome_33 := dc_cX2_sowSome_dX2_sowSome_28_1.2.2.2.1
def dX2_sowSome_34 := dc_cX2_sowSome_dX2_sowSome_28_1.2.2.2.2.1
def dX2_sowSome_35 := dc_cX2_sowSome_dX2_sowSome_28_1.2.2.2.2.2.1
def dX2_sowSome_37 := dc_cX2_sowSome_dX2_sowSome_28_1.2.2.2.2.2.2.1
def dX2_sowSome_38 := dc_cX2_sowSome_dX2_sowSome_28_1.2.2.2.2.2.2.2.1
def dX2_sowSome_39 := dc_cX2_sowSome_dX2_sowSome_28_1.2.2.2.2.2.2.2.2.1
def dX2_sowSome_40 := dc_cX2_sowSome_dX2_sowSome_28_1.2.2.2.2.2.2.2.2.2.1
def dX2_sowSome_43 := dc_cX2_sowSome_dX2_sowSome_28_1.2.2.2.2.2.2.2.2.2.2.1
def dX2_sowSome_46 := dc_cX2_sowSome_dX2_sowSome_28_1.2.2.2.2.2.2.2.2.2.2.2.1
def dX2_sowSome_47 := dc_cX2_sowSome_dX2_sowSome_28_1.2.2.2.2.2.2.2.2.2.2.2.2
set_option maxRecDepth 100000 in
theorem db_cX2_sowArrows_dX2_sowArrows_0_0 : zw [(0, .iconst 0, 1), (1, .istore_n 3, 1), (2, .iload_n 3, 1), (3, .aload_n 0, 1), (4, .getfield 15, 3), (7, .if_icmp .ge 49, 3), (10, .iconst 0, 1), (11, .istore 4, 2), (13, .iload 4, 2), (15, .iconst 3, 1), (16, .if_icmp .ge 34, 3), (19, .aload_n 0, 1), (20, .iload_n 3, 1), (21, .iload 4, 2), (23, .iload_n 2, 1), (24, .ifCond .ne 11, 3)] (cX2_sowArrows.data.toList.drop 0) 0 = true := by decide +kernel
def dc_cX2_sowArrows_dX2_sowArrows_0_0 := zw_16 db_cX2_sowArrows_dX2_sowArrows_0_0
def dX2_sowArrows_0 := dc_cX2_sowArrows_dX2_sowArrows_0_0.1
def dX2_sowArrows_1 := dc_cX2_sowArrows_dX2_sowArrows_0_0.2.1
def dX2_sowArrows_2 := dc_cX2_sowArrows_dX2_sowArrows_0_0.2.2.1
def dX2_sowArrows_3 := dc_cX2_sowArrows_dX2_sowArrows_0_0.2.2.2.1
def dX2_sowArrows_4 := dc_cX2_sowArrows_dX2_sowArrows_0_0.2.2.2.2.1
def dX2_sowArrows_7 := dc_cX2_sowArrows_dX2_sowArrows_0_0.2.2.2.2.2.1
def dX2_sowArrows_10 := dc_cX2_sowArrows_dX2_sowArrows_0_0.2.2.2.2.2.2.1
def dX2_sowArrows_11 := dc_cX2_sowArrows_dX2_sowArrows_0_0.2.2.2.2.2.2.2.1
def dX2_sowArrows_13 := dc_cX2_sowArrows_dX2_sowArrows_0_0.2.2.2.2.2.2.2.2.1
def dX2_sowArrows_15 := dc_cX2_sowArrows_dX2_sowArrows_0_0.2.2.2.2.2.2.2.2.2.1
def dX2_sowArrows_16 := dc_cX2_sowArrows_dX2_sowArrows_0_0.2.2.2.2.2.2.2.2.2.2.1
def dX2_sowArrows_19 := dc_cX2_sowArrows_dX2_sowArrows_0_0.2.2.2.2.2.2.2.2.2.2.2.1
def dX2_sowArrows_20 := dc_cX2_sowArrows_dX2_sowArrows_0_0.2.2.2.2.2.2.2.2.2.2.2.2.1
def dX2_sowArrows_21 := dc_cX2_sowArrows_dX2_sowArrows_0_0.2.2.2.2.2.2.2.2.2.2.2.2.2.1
def dX2_sowArrows_23 := dc_cX2_sowArrows_dX2_sowArrows_0_0.2.2.2.2.2.2.2.2.2.2.2.2.2.2.1
def dX2_sowArrows_24 := dc_cX2_sowArrows_dX2_sowArrows_0_0.2.2.2.2.2.2.2.2.2.2.2.2.2.2.2
set_option maxRecDepth 100000 in
theorem db_cX2_sowArrows_dX2_sowArrows_27_1 : zw [(27, .aload_n 0, 1), (28, .aload_n 1, 1), (29, .invokevirtual 35, 3), (32, .goto 9, 3), (35, .aload_n 0, 1), (36, .aload_n 1, 1), (37, .iload_n 2, 1), (38, .invokevirtual 39, 3), (41, .invokevirtual 43, 3), (44, .iinc 4 1, 3), (47, .goto (-34), 3), (50, .iinc 3 1, 3), (53, .goto (-51), 3), (56, .return_, 1)] (cX2_sowArrows.data.toList.drop 27) 27 = true := by decide +kernel
def dc_cX2_sowArrows_dX2_sowArrows_27_1 := zw_14 db_cX2_sowArrows_dX2_sowArrows_27_1
def dX2_sowArrows_27 := dc_cX2_sowArrows_dX2_sowArrows_27_1.1
def dX2_sowArrows_28 := dc_cX2_sowArrows_dX2_sowArrows_27_1.2.1
def dX2_sowArrows_29 := dc_cX2_sowArrows_dX2_sowArrows_27_1.2.2.1
def dX2_sowArrows_32 := dc_cX2_sowArrows_dX2_sowArrows_27_1.2.2.2.1
def dX2_sowArrows_35 := dc_cX2_sowArrows_dX2_sowArrows_27_1.2.2.2.2.1
def dX2_sowArrows_36 := dc_cX2_sowArrows_dX2_sowArrows_27_1.2.2.2.2.2.1
def dX2_sowArrows_37 := dc_cX2_sowArrows_dX2_sowArrows_27_1.2.2.2.2.2.2.1
def dX2_sowArrows_38 := dc_cX2_sowArrows_dX2_sowArrows_27_1.2.2.2.2.2.2.2.1
def dX2_sowArrows_41 := dc_cX2_sowArrows_dX2_sowArrows_27_1.2.2.2.2.2.2.2.2.1
def dX2_sowArrows_44 := dc_cX2_sowArrows_dX2_sowArrows_27_1.2.2.2.2.2.2.2.2.2.1
def dX2_sowArrows_47 := dc_cX2_sowArrows_dX2_sowArrows_27_1.2.2.2.2.2.2.2.2.2.2.1
def dX2_sowArrows_50 := dc_cX2_sowArrows_dX2_sowArrows_27_1.2.2.2.2.2.2.2.2.2.2.2.1
def dX2_sowArrows_53 := dc_cX2_sowArrows_dX2_sowArrows_27_1.2.2.2.2.2.2.2.2.2.2.2.2.1
def dX2_sowArrows_56 := dc_cX2_sowArrows_dX2_sowArrows_27_1.2.2.2.2.2.2.2.2.2.2.2.2.2
set_option maxRecDepth 100000 in
theorem db_cX2_sowGoals_dX2_sowGoals_0_0 : zw [(0, .iconst 0, 1), (1, .istore_n 2, 1), (2, .iload_n 2, 1), (3, .aload_n 0, 1), (4, .getfield 15, 3), (7, .if_icmp .ge 30, 3), (10, .aload_n 1, 1), (11, .invokevirtual 47, 3), (14, .iconst 2, 1), (15, .irem, 1), (16, .ifCond .ne 15, 3), (19, .aload_n 0, 1), (20, .dup, 1), (21, .getfield 18, 3), (24, .iconst 1, 1), (25, .iload_n 2, 1)] (cX2_sowGoals.data.toList.drop 0) 0 = true := by decide +kernel
def dc_cX2_sowGoals_dX2_sowGoals_0_0 := zw_16 db_cX2_sowGoals_dX2_sowGoals_0_0
def dX2_sowGoals_0 := dc_cX2_sowGoals_dX2_sowGoals_0_0.1
def dX2_sowGoals_1 := dc_cX2_sowGoals_dX2_sowGoals_0_0.2.1
def dX2_sowGoals_2 := dc_cX2_sowGoals_dX2_sowGoals_0_0.2.2.1
def dX2_sowGoals_3 := dc_cX2_sowGoals_dX2_sowGoals_0_0.2.2.2.1
def dX2_sowGoals_4 := dc_cX2_sowGoals_dX2_sowGoals_0_0.2.2.2.2.1
def dX2_sowGoals_7 := dc_cX2_sowGoals_dX2_sowGoals_0_0.2.2.2.2.2.1
def dX2_sowGoals_10 := dc_cX2_sowGoals_dX2_sowGoals_0_0.2.2.2.2.2.2.1
def dX2_sowGoals_11 := dc_cX2_sowGoals_dX2_sowGoals_0_0.2.2.2.2.2.2.2.1
def dX2_sowGoals_14 := dc_cX2_sowGoals_dX2_sowGoals_0_0.2.2.2.2.2.2.2.2.1
def dX2_sowGoals_15 := dc_cX2_sowGoals_dX2_sowGoals_0_0.2.2.2.2.2.2.2.2.2.1
def dX2_sowGoals_16 := dc_cX2_sowGoals_dX2_sowGoals_0_0.2.2.2.2.2.2.2.2.2.2.1
def dX2_sowGoals_19 := dc_cX2_sowGoals_dX2_sowGoals_0_0.2.2.2.2.2.2.2.2.2.2.2.1
def dX2_sowGoals_20 := dc_cX2_sowGoals_dX2_sowGoals_0_0.2.2.2.2.2.2.2.2.2.2.2.2.1
def dX2_sowGoals_21 := dc_cX2_sowGoals_dX2_sowGoals_0_0.2.2.2.2.2.2.2.2.2.2.2.2.2.1
def dX2_sowGoals_24 := dc_cX2_sowGoals_dX2_sowGoals_0_0.2.2.2.2.2.2.2.2.2.2.2.2.2.2.1
def dX2_sowGoals_25 := dc_cX2_sowGoals_dX2_sowGoals_0_0.2.2.2.2.2.2.2.2.2.2.2.2.2.2.2
set_option maxRecDepth 100000 in
theorem db_cX2_sowGoals_dX2_sowGoals_26_1 : zw [(26, .ishl, 1), (27, .ior, 1), (28, .putfield 18, 3), (31, .iinc 2 1, 3), (34, .goto (-32), 3), (37, .return_, 1)] (cX2_sowGoals.data.toList.drop 26) 26 = true := by decide +kernel
def dc_cX2_sowGoals_dX2_sowGoals_26_1 := zw_6 db_cX2_sowGoals_dX2_sowGoals_26_1
def dX2_sowGoals_26 := dc_cX2_sowGoals_dX2_sowGoals_26_1.1
def dX2_sowGoals_27 := dc_cX2_sowGoals_dX2_sowGoals_26_1.2.1
def dX2_sowGoals_28 := dc_cX2_sowGoals_dX2_sowGoals_26_1.2.2.1
def dX2_sowGoals_31 := dc_cX2_sowGoals_dX2_sowGoals_26_1.2.2.2.1
def dX2_sowGoals_34 := dc_cX2_sowGoals_dX2_sowGoals_26_1.2.2.2.2.1
def dX2_sowGoals_37 := dc_cX2_sowGoals_dX2_sowGoals_26_1.2.2.2.2.2
set_option maxRecDepth 100000 in
theorem db_cX7_isSameTable_dX7_isSameTable_0_0 : zw [(0, .aload_n 0, 1), (1, .getfield 9, 3), (4, .aload_n 1, 1), (5, .getfield 9, 3), (8, .if_icmp .ne 14, 3), (11, .aload_n 0, 1), (12, .getfield 19, 3), (15, .aload_n 1, 1), (16, .getfield 19, 3), (19, .if_icmp .eq 5, 3), (22, .iconst 0, 1), (23, .ireturn, 1), (24, .iconst 0, 1), (25, .istore_n 2, 1), (26, .iload_n 2, 1), (27, .aload_n 0, 1)] (cX7_isSameTable.data.toList.drop 0) 0 = true := by decide +kernel
def dc_cX7_isSameTable_dX7_isSameTable_0_0 := zw_16 db_cX7_isSameTable_dX7_isSameTable_0_0
def dX7_isSameTable_0 := dc_cX7_isSameTable_dX7_isSameTable_0_0.1
def dX7_isSameTable_1 := dc_cX7_isSameTable_dX7_isSameTable_0_0.2.1
def dX7_isSameTable_4 := dc_cX7_isSameTable_dX7_isSameTable_0_0.2.2.1
def dX7_isSameTable_5 := dc_cX7_isSameTable_dX7_isSameTable_0_0.2.2.2.1
def dX7_isSameTable_8 := dc_cX7_isSameTable_dX7_isSameTable_0_0.2.2.2.2.1
def dX7_isSameTable_11 := dc_cX7_isSameTable_dX7_isSameTable_0_0.2.2.2.2.2.1
def dX7_isSameTable_12 := dc_cX7_isSameTable_dX7_isSameTable_0_0.2.2.2.2.2.2.1
def dX7_isSameTable_15 := dc_cX7_isSameTable_dX7_isSameTable_0_0.2.2.2.2.2.2.2.1
def dX7_isSameTable_16 := dc_cX7_isSameTable_dX7_isSameTable_0_0.2.2.2.2.2.2.2.2.1
def dX7_isSameTable_19 := dc_cX7_isSameTable_dX7_isSameTable_0_0.2.2.2.2.2.2.2.2.2.1
def dX7_isSameTable_22 := dc_cX7_isSameTable_dX7_isSameTable_0_0.2.2.2.2.2.2.2.2.2.2.1
def dX7_isSameTable_23 := dc_cX7_isSameTable_dX7_isSameTable_0_0.2.2.2.2.2.2.2.2.2.2.2.1
def dX7_isSameTable_24 := dc_cX7_isSameTable_dX7_isSameTable_0_0.2.2.2.2.2.2.2.2.2.2.2.2.1
def dX7_isSameTable_25 := dc_cX7_isSameTable_dX7_isSameTable_0_0.2.2.2.2.2.2.2.2.2.2.2.2.2.1
def dX7_isSameTable_26 := dc_cX7_isSameTable_dX7_isSameTable_0_0.2.2.2.2.2.2.2.2.2.2.2.2.2.2.1
def dX7_isSameTable_27 := dc_cX7_isSameTable_dX7_isSameTable_0_0.2.2.2.2.2.2.2.2.2.2.2.2.2.2.2
set_option maxRecDepth 100000 in
theorem db_cX7_isSameTable_dX7_isSameTable_28_1 : zw [(28, .getfield 9, 3), (31, .if_icmp .ge 39, 3), (34, .iconst 0, 1), (35, .istore_n 3, 1), (36, .iload_n 3, 1), (37, .iconst 3, 1), (38, .if_icmp .ge 26, 3), (41, .aload_n 0, 1), (42, .iload_n 2, 1), (43, .iload_n 3, 1), (44, .invokevirtual 22, 3), (47, .aload_n 1, 1), (48, .iload_n 2, 1), (49, .iload_n 3, 1), (50, .invokevirtual 22, 3), (53, .if_icmp .eq 5, 3)] (cX7_isSameTable.data.toList.drop 28) 28 = true := by decide +kernel
def dc_cX7_isSameTable_dX7_isSameTable_28_1 := zw_16 db_cX7_isSameTable_dX7_isSameTable_28_1
def dX7_isSameTable_28 := dc_cX7_isSameTable_dX7_isSameTable_28_1.1
def dX7_isSameTable_31 := dc_cX7_isSameTable_dX7_isSameTable_28_1.2.1
def dX7_isSameTable_34 := dc_cX7_isSameTable_dX7_isSameTable_28_1.2.2.1
def dX7_isSameTable_35 := dc_cX7_isSameTable_dX7_isSameTable_28_1.2.2.2.1
def dX7_isSameTable_36 := dc_cX7_isSameTable_dX7_isSameTable_28_1.2.2.2.2.1
def dX7_isSameTable_37 := dc_cX7_isSameTable_dX7_isSameTable_28_1.2.2.2.2.2.1
def dX7_isSameTable_38 := dc_cX7_isSameTable_dX7_isSameTable_28_1.2.2.2.2.2.2.1
def dX7_isSameTable_41 := dc_cX7_isSameTable_dX7_isSameTable_28_1.2.2.2.2.2.2.2.1
def dX7_isSameTable_42 := dc_cX7_isSameTable_dX7_isSameTable_28_1.2.2.2.2.2.2.2.2.1
def dX7_isSameTable_43 := dc_cX7_isSameTable_dX7_isSameTable_28_1.2.2.2.2.2.2.2.2.2.1
def dX7_isSameTable_44 := dc_cX7_isSameTable_dX7_isSameTable_28_1.2.2.2.2.2.2.2.2.2.2.1
def dX7_isSameTable_47 := dc_cX7_isSameTable_dX7_isSameTable_28_1.2.2.2.2.2.2.2.2.2.2.2.1
def dX7_isSameTable_48 := dc_cX7_isSameTable_dX7_isSameTable_28_1.2.2.2.2.2.2.2.2.2.2.2.2.1
def dX7_isSameTable_49 := dc_cX7_isSameTable_dX7_isSameTable_28_1.2.2.2.2.2.2.2.2.2.2.2.2.2.1
def dX7_isSameTable_50 := dc_cX7_isSameTable_dX7_isSameTable_28_1.2.2.2.2.2.2.2.2.2.2.2.2.2.2.1
def dX7_isSameTable_53 := dc_cX7_isSameTable_dX7_isSameTable_28_1.2.2.2.2.2.2.2.2.2.2.2.2.2.2.2
set_option maxRecDepth 100000 in
theorem db_cX7_isSameTable_dX7_isSameTable_56_2 : zw [(56, .iconst 0, 1), (57, .ireturn, 1), (58, .iinc 3 1, 3), (61, .goto (-25), 3), (64, .iinc 2 1, 3), (67, .goto (-41), 3), (70, .iconst 1, 1), (71, .ireturn, 1)] (cX7_isSameTable.data.toList.drop 56) 56 = true := by decide +kernel
def dc_cX7_isSameTable_dX7_isSameTable_56_2 := zw_8 db_cX7_isSameTable_dX7_isSameTable_56_2
def dX7_isSameTable_56 := dc_cX7_isSameTable_dX7_isSameTable_56_2.1
def dX7_isSameTable_57 := dc_cX7_isSameTable_dX7_isSameTable_56_2.2.1
def dX7_isSameTable_58 := dc_cX7_isSameTable_dX7_isSameTable_56_2.2.2.1
def dX7_isSameTable_61 := dc_cX7_isSameTable_dX7_isSameTable_56_2.2.2.2.1
def dX7_isSameTable_64 := dc_cX7_isSameTable_dX7_isSameTable_56_2.2.2.2.2.1
def dX7_isSameTable_67 := dc_cX7_isSameTable_dX7_isSameTable_56_2.2.2.2.2.2.1
def dX7_isSameTable_70 := dc_cX7_isSameTable_dX7_isSameTable_56_2.2.2.2.2.2.2.1
def dX7_isSameTable_71 := dc_cX7_isSameTable_dX7_isSameTable_56_2.2.2.2.2.2.2.2
set_option maxRecDepth 100000 in
theorem db_cX2_isSameAs_dX2_isSameAs_0_0 : zw [(0, .aload_n 0, 1), (1, .getfield 9, 3), (4, .aload_n 1, 1), (5, .getfield 9, 3), (8, .if_icmp .ne 15, 3), (11, .aload_n 0, 1), (12, .aload_n 1, 1), (13, .invokevirtual 53, 3), (16, .ifCond .eq 7, 3), (19, .iconst 1, 1), (20, .goto 4, 3), (23, .iconst 0, 1), (24, .ireturn, 1)] (cX2_isSameAs.data.toList.drop 0) 0 = true := by decide +kernel
def dc_cX2_isSameAs_dX2_isSameAs_0_0 := zw_13 db_cX2_isSameAs_dX2_isSameAs_0_0
def dX2_isSameAs_0 := dc_cX2_isSameAs_dX2_isSameAs_0_0.1
def dX2_isSameAs_1 := dc_cX2_isSameAs_dX2_isSameAs_0_0.2.1
def dX2_isSameAs_4 := dc_cX2_isSameAs_dX2_isSameAs_0_0.2.2.1
def dX2_isSameAs_5 := dc_cX2_isSameAs_dX2_isSameAs_0_0.2.2.2.1
def dX2_isSameAs_8 := dc_cX2_isSameAs_dX2_isSameAs_0_0.2.2.2.2.1
def dX2_isSameAs_11 := dc_cX2_isSameAs_dX2_isSameAs_0_0.2.2.2.2.2.1
def dX2_isSameAs_12 := dc_cX2_isSameAs_dX2_isSameAs_0_0.2.2.2.2.2.2.1
def dX2_isSameAs_13 := dc_cX2_isSameAs_dX2_isSameAs_0_0.2.2.2.2.2.2.2.1
def dX2_isSameAs_16 := dc_cX2_isSameAs_dX2_isSameAs_0_0.2.2.2.2.2.2.2.2.1
def dX2_isSameAs_19 := dc_cX2_isSameAs_dX2_isSameAs_0_0.2.2.2.2.2.2.2.2.2.1
def dX2_isSameAs_20 := dc_cX2_isSameAs_dX2_isSameAs_0_0.2.2.2.2.2.2.2.2.2.2.1
def dX2_isSameAs_23 := dc_cX2_isSameAs_dX2_isSameAs_0_0.2.2.2.2.2.2.2.2.2.2.2.1
def dX2_isSameAs_24 := dc_cX2_isSameAs_dX2_isSameAs_0_0.2.2.2.2.2.2.2.2.2.2.2.2
set_option maxRecDepth 100000 in
theorem db_cX2_become_dX2_become_0_0 : zw [(0, .aload_n 0, 1), (1, .aload_n 1, 1), (2, .getfield 15, 3), (5, .putfield 15, 3), (8, .aload_n 0, 1), (9, .aload_n 1, 1), (10, .getfield 9, 3), (13, .putfield 9, 3), (16, .aload_n 0, 1), (17, .aload_n 1, 1), (18, .getfield 18, 3), (21, .putfield 18, 3), (24, .iconst 0, 1), (25, .istore_n 2, 1), (26, .iload_n 2, 1), (27, .aload_n 0, 1)] (cX2_become.data.toList.drop 0) 0 = true := by decide +kernel
def dc_cX2_become_dX2_become_0_0 := zw_16 db_cX2_become_dX2_become_0_0
def dX2_become_0 := dc_cX2_become_dX2_become_0_0.1
def dX2_become_1 := dc_cX2_become_dX2_become_0_0.2.1
def dX2_become_2 := dc_cX2_become_dX2_become_0_0.2.2.1
def dX2_become_5 := dc_cX2_become_dX2_become_0_0.2.2.2.1
def dX2_become_8 := dc_cX2_become_dX2_become_0_0.2.2.2.2.1
def dX2_become_9 := dc_cX2_become_dX2_become_0_0.2.2.2.2.2.1
def dX2_become_10 := dc_cX2_become_dX2_become_0_0.2.2.2.2.2.2.1
def dX2_become_13 := dc_cX2_become_dX2_become_0_0.2.2.2.2.2.2.2.1
def dX2_become_16 := dc_cX2_become_dX2_become_0_0.2.2.2.2.2.2.2.2.1
def dX2_become_17 := dc_cX2_become_dX2_become_0_0.2.2.2.2.2.2.2.2.2.1
def dX2_become_18 := dc_cX2_become_dX2_become_0_0.2.2.2.2.2.2.2.2.2.2.1
def dX2_become_21 := dc_cX2_become_dX2_become_0_0.2.2.2.2.2.2.2.2.2.2.2.1
def dX2_become_24 := dc_cX2_become_dX2_become_0_0.2.2.2.2.2.2.2.2.2.2.2.2.1
def dX2_become_25 := dc_cX2_become_dX2_become_0_0.2.2.2.2.2.2.2.2.2.2.2.2.2.1
def dX2_become_26 := dc_cX2_become_dX2_become_0_0.2.2.2.2.2.2.2.2.2.2.2.2.2.2.1
def dX2_become_27 := dc_cX2_become_dX2_become_0_0.2.2.2.2.2.2.2.2.2.2.2.2.2.2.2
set_option maxRecDepth 100000 in
theorem db_cX2_become_dX2_become_28_1 : zw [(28, .getfield 15, 3), (31, .if_icmp .ge 34, 3), (34, .iconst 0, 1), (35, .istore_n 3, 1), (36, .iload_n 3, 1), (37, .iconst 3, 1), (38, .if_icmp .ge 21, 3), (41, .aload_n 0, 1), (42, .iload_n 2, 1), (43, .iload_n 3, 1), (44, .aload_n 1, 1), (45, .iload_n 2, 1), (46, .iload_n 3, 1), (47, .invokevirtual 25, 3), (50, .invokevirtual 43, 3), (53, .iinc 3 1, 3)] (cX2_become.data.toList.drop 28) 28 = true := by decide +kernel
def dc_cX2_become_dX2_become_28_1 := zw_16 db_cX2_become_dX2_become_28_1
def dX2_become_28 := dc_cX2_become_dX2_become_28_1.1
def dX2_become_31 := dc_cX2_become_dX2_become_28_1.2.1
def dX2_become_34 := dc_cX2_become_dX2_become_28_1.2.2.1
def dX2_become_35 := dc_cX2_become_dX2_become_28_1.2.2.2.1
def dX2_become_36 := dc_cX2_become_dX2_become_28_1.2.2.2.2.1
def dX2_become_37 := dc_cX2_become_dX2_become_28_1.2.2.2.2.2.1
def dX2_become_38 := dc_cX2_become_dX2_become_28_1.2.2.2.2.2.2.1
def dX2_become_41 := dc_cX2_become_dX2_become_28_1.2.2.2.2.2.2.2.1
def dX2_become_42 := dc_cX2_become_dX2_become_28_1.2.2.2.2.2.2.2.2.1
def dX2_become_43 := dc_cX2_become_dX2_become_28_1.2.2.2.2.2.2.2.2.2.1
def dX2_become_44 := dc_cX2_become_dX2_become_28_1.2.2.2.2.2.2.2.2.2.2.1
def dX2_become_45 := dc_cX2_become_dX2_become_28_1.2.2.2.2.2.2.2.2.2.2.2.1
def dX2_become_46 := dc_cX2_become_dX2_become_28_1.2.2.2.2.2.2.2.2.2.2.2.2.1
def dX2_become_47 := dc_cX2_become_dX2_become_28_1.2.2.2.2.2.2.2.2.2.2.2.2.2.1
def dX2_become_50 := dc_cX2_become_dX2_become_28_1.2.2.2.2.2.2.2.2.2.2.2.2.2.2.1
def dX2_become_53 := dc_cX2_become_dX2_become_28_1.2.2.2.2.2.2.2.2.2.2.2.2.2.2.2
set_option maxRecDepth 100000 in
theorem db_cX2_become_dX2_become_56_2 : zw [(56, .goto (-20), 3), (59, .iinc 2 1, 3), (62, .goto (-36), 3), (65, .return_, 1)] (cX2_become.data.toList.drop 56) 56 = true := by decide +kernel
def dc_cX2_become_dX2_become_56_2 := zw_4 db_cX2_become_dX2_become_56_2
def dX2_become_56 := dc_cX2_become_dX2_become_56_2.1
def dX2_become_59 := dc_cX2_become_dX2_become_56_2.2.1
def dX2_become_62 := dc_cX2_become_dX2_become_56_2.2.2.1
def dX2_become_65 := dc_cX2_become_dX2_become_56_2.2.2.2
set_option maxRecDepth 100000 in
theorem db_cX2_sources_dX2_sources_0_0 : zw [(0, .iconst 0, 1), (1, .istore_n 3, 1), (2, .iconst 0, 1), (3, .istore 4, 2), (5, .iload 4, 2), (7, .aload_n 0, 1), (8, .getfield 15, 3), (11, .if_icmp .ge 30, 3), (14, .aload_n 0, 1), (15, .iload 4, 2), (17, .iload_n 2, 1), (18, .invokevirtual 25, 3), (21, .iload_n 1, 1), (22, .invokestatic 65, 3), (25, .ifCond .eq 10, 3), (28, .iload_n 3, 1)] (cX2_sources.data.toList.drop 0) 0 = true := by decide +kernel
def dc_cX2_sources_dX2_sources_0_0 := zw_16 db_cX2_sources_dX2_sources_0_0
def dX2_sources_0 := dc_cX2_sources_dX2_sources_0_0.1
def dX2_sources_1 := dc_cX2_sources_dX2_sources_0_0.2.1
def dX2_sources_2 := dc_cX2_sources_dX2_sources_0_0.2.2.1
def dX2_sources_3 := dc_cX2_sources_dX2_sources_0_0.2.2.2.1
def dX2_sources_5 := dc_cX2_sources_dX2_sources_0_0.2.2.2.2.1
def dX2_sources_7 := dc_cX2_sources_dX2_sources_0_0.2.2.2.2.2.1
def dX2_sources_8 := dc_cX2_sources_dX2_sources_0_0.2.2.2.2.2.2.1
def dX2_sources_11 := dc_cX2_sources_dX2_sources_0_0.2.2.2.2.2.2.2.1
def dX2_sources_14 := dc_cX2_sources_dX2_sources_0_0.2.2.2.2.2.2.2.2.1
def dX2_sources_15 := dc_cX2_sources_dX2_sources_0_0.2.2.2.2.2.2.2.2.2.1
def dX2_sources_17 := dc_cX2_sources_dX2_sources_0_0.2.2.2.2.2.2.2.2.2.2.1
def dX2_sources_18 := dc_cX2_sources_dX2_sources_0_0.2.2.2.2.2.2.2.2.2.2.2.1
def dX2_sources_21 := dc_cX2_sources_dX2_sources_0_0.2.2.2.2.2.2.2.2.2.2.2.2.1
def dX2_sources_22 := dc_cX2_sources_dX2_sources_0_0.2.2.2.2.2.2.2.2.2.2.2.2.2.1
def dX2_sources_25 := dc_cX2_sources_dX2_sources_0_0.2.2.2.2.2.2.2.2.2.2.2.2.2.2.1
def dX2_sources_28 := dc_cX2_sources_dX2_sources_0_0.2.2.2.2.2.2.2.2.2.2.2.2.2.2.2
set_option maxRecDepth 100000 in
theorem db_cX2_sources_dX2_sources_29_1 : zw [(29, .iconst 1, 1), (30, .iload 4, 2), (32, .ishl, 1), (33, .ior, 1), (34, .istore_n 3, 1), (35, .iinc 4 1, 3), (38, .goto (-33), 3), (41, .iload_n 3, 1), (42, .ireturn, 1)] (cX2_sources.data.toList.drop 29) 29 = true := by decide +kernel
def dc_cX2_sources_dX2_sources_29_1 := zw_9 db_cX2_sources_dX2_sources_29_1
def dX2_sources_29 := dc_cX2_sources_dX2_sources_29_1.1
def dX2_sources_30 := dc_cX2_sources_dX2_sources_29_1.2.1
def dX2_sources_32 := dc_cX2_sources_dX2_sources_29_1.2.2.1
def dX2_sources_33 := dc_cX2_sources_dX2_sources_29_1.2.2.2.1
def dX2_sources_34 := dc_cX2_sources_dX2_sources_29_1.2.2.2.2.1
def dX2_sources_35 := dc_cX2_sources_dX2_sources_29_1.2.2.2.2.2.1
def dX2_sources_38 := dc_cX2_sources_dX2_sources_29_1.2.2.2.2.2.2.1
def dX2_sources_41 := dc_cX2_sources_dX2_sources_29_1.2.2.2.2.2.2.2.1
def dX2_sources_42 := dc_cX2_sources_dX2_sources_29_1.2.2.2.2.2.2.2.2
set_option maxRecDepth 100000 in
theorem db_cX2_becomeRound_dX2_becomeRound_0_0 : zw [(0, .aload_n 0, 1), (1, .aload_n 1, 1), (2, .getfield 15, 3), (5, .putfield 15, 3), (8, .aload_n 0, 1), (9, .aload_n 1, 1), (10, .getfield 18, 3), (13, .putfield 9, 3), (16, .aload_n 0, 1), (17, .aload_n 1, 1), (18, .getfield 9, 3), (21, .putfield 18, 3), (24, .iconst 0, 1), (25, .istore_n 2, 1), (26, .iload_n 2, 1), (27, .aload_n 0, 1)] (cX2_becomeRound.data.toList.drop 0) 0 = true := by decide +kernel
def dc_cX2_becomeRound_dX2_becomeRound_0_0 := zw_16 db_cX2_becomeRound_dX2_becomeRound_0_0
def dX2_becomeRound_0 := dc_cX2_becomeRound_dX2_becomeRound_0_0.1
def dX2_becomeRound_1 := dc_cX2_becomeRound_dX2_becomeRound_0_0.2.1
def dX2_becomeRound_2 := dc_cX2_becomeRound_dX2_becomeRound_0_0.2.2.1
def dX2_becomeRound_5 := dc_cX2_becomeRound_dX2_becomeRound_0_0.2.2.2.1
def dX2_becomeRound_8 := dc_cX2_becomeRound_dX2_becomeRound_0_0.2.2.2.2.1
def dX2_becomeRound_9 := dc_cX2_becomeRound_dX2_becomeRound_0_0.2.2.2.2.2.1
def dX2_becomeRound_10 := dc_cX2_becomeRound_dX2_becomeRound_0_0.2.2.2.2.2.2.1
def dX2_becomeRound_13 := dc_cX2_becomeRound_dX2_becomeRound_0_0.2.2.2.2.2.2.2.1
def dX2_becomeRound_16 := dc_cX2_becomeRound_dX2_becomeRound_0_0.2.2.2.2.2.2.2.2.1
def dX2_becomeRound_17 := dc_cX2_becomeRound_dX2_becomeRound_0_0.2.2.2.2.2.2.2.2.2.1
def dX2_becomeRound_18 := dc_cX2_becomeRound_dX2_becomeRound_0_0.2.2.2.2.2.2.2.2.2.2.1
def dX2_becomeRound_21 := dc_cX2_becomeRound_dX2_becomeRound_0_0.2.2.2.2.2.2.2.2.2.2.2.1
def dX2_becomeRound_24 := dc_cX2_becomeRound_dX2_becomeRound_0_0.2.2.2.2.2.2.2.2.2.2.2.2.1
def dX2_becomeRound_25 := dc_cX2_becomeRound_dX2_becomeRound_0_0.2.2.2.2.2.2.2.2.2.2.2.2.2.1
def dX2_becomeRound_26 := dc_cX2_becomeRound_dX2_becomeRound_0_0.2.2.2.2.2.2.2.2.2.2.2.2.2.2.1
def dX2_becomeRound_27 := dc_cX2_becomeRound_dX2_becomeRound_0_0.2.2.2.2.2.2.2.2.2.2.2.2.2.2.2
set_option maxRecDepth 100000 in
theorem db_cX2_becomeRound_dX2_becomeRound_28_1 : zw [(28, .getfield 15, 3), (31, .if_icmp .ge 34, 3), (34, .iconst 0, 1), (35, .istore_n 3, 1), (36, .iload_n 3, 1), (37, .iconst 3, 1), (38, .if_icmp .ge 21, 3), (41, .aload_n 0, 1), (42, .iload_n 2, 1), (43, .iload_n 3, 1), (44, .aload_n 1, 1), (45, .iload_n 2, 1), (46, .iload_n 3, 1), (47, .invokevirtual 62, 3), (50, .invokevirtual 43, 3), (53, .iinc 3 1, 3)] (cX2_becomeRound.data.toList.drop 28) 28 = true := by decide +kernel
def dc_cX2_becomeRound_dX2_becomeRound_28_1 := zw_16 db_cX2_becomeRound_dX2_becomeRound_28_1
def dX2_becomeRound_28 := dc_cX2_becomeRound_dX2_becomeRound_28_1.1
def dX2_becomeRound_31 := dc_cX2_becomeRound_dX2_becomeRound_28_1.2.1
def dX2_becomeRound_34 := dc_cX2_becomeRound_dX2_becomeRound_28_1.2.2.1
def dX2_becomeRound_35 := dc_cX2_becomeRound_dX2_becomeRound_28_1.2.2.2.1
def dX2_becomeRound_36 := dc_cX2_becomeRound_dX2_becomeRound_28_1.2.2.2.2.1
def dX2_becomeRound_37 := dc_cX2_becomeRound_dX2_becomeRound_28_1.2.2.2.2.2.1
def dX2_becomeRound_38 := dc_cX2_becomeRound_dX2_becomeRound_28_1.2.2.2.2.2.2.1
def dX2_becomeRound_41 := dc_cX2_becomeRound_dX2_becomeRound_28_1.2.2.2.2.2.2.2.1
def dX2_becomeRound_42 := dc_cX2_becomeRound_dX2_becomeRound_28_1.2.2.2.2.2.2.2.2.1
def dX2_becomeRound_43 := dc_cX2_becomeRound_dX2_becomeRound_28_1.2.2.2.2.2.2.2.2.2.1
def dX2_becomeRound_44 := dc_cX2_becomeRound_dX2_becomeRound_28_1.2.2.2.2.2.2.2.2.2.2.1
def dX2_becomeRound_45 := dc_cX2_becomeRound_dX2_becomeRound_28_1.2.2.2.2.2.2.2.2.2.2.2.1
def dX2_becomeRound_46 := dc_cX2_becomeRound_dX2_becomeRound_28_1.2.2.2.2.2.2.2.2.2.2.2.2.1
def dX2_becomeRound_47 := dc_cX2_becomeRound_dX2_becomeRound_28_1.2.2.2.2.2.2.2.2.2.2.2.2.2.1
def dX2_becomeRound_50 := dc_cX2_becomeRound_dX2_becomeRound_28_1.2.2.2.2.2.2.2.2.2.2.2.2.2.2.1
def dX2_becomeRound_53 := dc_cX2_becomeRound_dX2_becomeRound_28_1.2.2.2.2.2.2.2.2.2.2.2.2.2.2.2
set_option maxRecDepth 100000 in
theorem db_cX2_becomeRound_dX2_becomeRound_56_2 : zw [(56, .goto (-20), 3), (59, .iinc 2 1, 3), (62, .goto (-36), 3), (65, .return_, 1)] (cX2_becomeRound.data.toList.drop 56) 56 = true := by decide +kernel
def dc_cX2_becomeRound_dX2_becomeRound_56_2 := zw_4 db_cX2_becomeRound_dX2_becomeRound_56_2
def dX2_becomeRound_56 := dc_cX2_becomeRound_dX2_becomeRound_56_2.1
def dX2_becomeRound_59 := dc_cX2_becomeRound_dX2_becomeRound_56_2.2.1
def dX2_becomeRound_62 := dc_cX2_becomeRound_dX2_becomeRound_56_2.2.2.1
def dX2_becomeRound_65 := dc_cX2_becomeRound_dX2_becomeRound_56_2.2.2.2
set_option maxRecDepth 100000 in
theorem db_cX2_closeUp_dX2_closeUp_0_0 : zw [(0, .iload_n 0, 1), (1, .iconst 1, 1), (2, .iload_n 1, 1), (3, .ishl, 1), (4, .iconst 1, 1), (5, .isub, 1), (6, .iand, 1), (7, .istore_n 2, 1), (8, .iload_n 0, 1), (9, .iload_n 1, 1), (10, .iconst 1, 1), (11, .iadd, 1), (12, .ishr, 1), (13, .istore_n 3, 1), (14, .iload_n 2, 1), (15, .iload_n 3, 1)] (cX2_closeUp.data.toList.drop 0) 0 = true := by decide +kernel
def dc_cX2_closeUp_dX2_closeUp_0_0 := zw_16 db_cX2_closeUp_dX2_closeUp_0_0
def dX2_closeUp_0 := dc_cX2_closeUp_dX2_closeUp_0_0.1
def dX2_closeUp_1 := dc_cX2_closeUp_dX2_closeUp_0_0.2.1
def dX2_closeUp_2 := dc_cX2_closeUp_dX2_closeUp_0_0.2.2.1
def dX2_closeUp_3 := dc_cX2_closeUp_dX2_closeUp_0_0.2.2.2.1
def dX2_closeUp_4 := dc_cX2_closeUp_dX2_closeUp_0_0.2.2.2.2.1
def dX2_closeUp_5 := dc_cX2_closeUp_dX2_closeUp_0_0.2.2.2.2.2.1
def dX2_closeUp_6 := dc_cX2_closeUp_dX2_closeUp_0_0.2.2.2.2.2.2.1
def dX2_closeUp_7 := dc_cX2_closeUp_dX2_closeUp_0_0.2.2.2.2.2.2.2.1
def dX2_closeUp_8 := dc_cX2_closeUp_dX2_closeUp_0_0.2.2.2.2.2.2.2.2.1
def dX2_closeUp_9 := dc_cX2_closeUp_dX2_closeUp_0_0.2.2.2.2.2.2.2.2.2.1
def dX2_closeUp_10 := dc_cX2_closeUp_dX2_closeUp_0_0.2.2.2.2.2.2.2.2.2.2.1
def dX2_closeUp_11 := dc_cX2_closeUp_dX2_closeUp_0_0.2.2.2.2.2.2.2.2.2.2.2.1
def dX2_closeUp_12 := dc_cX2_closeUp_dX2_closeUp_0_0.2.2.2.2.2.2.2.2.2.2.2.2.1
def dX2_closeUp_13 := dc_cX2_closeUp_dX2_closeUp_0_0.2.2.2.2.2.2.2.2.2.2.2.2.2.1
def dX2_closeUp_14 := dc_cX2_closeUp_dX2_closeUp_0_0.2.2.2.2.2.2.2.2.2.2.2.2.2.2.1
def dX2_closeUp_15 := dc_cX2_closeUp_dX2_closeUp_0_0.2.2.2.2.2.2.2.2.2.2.2.2.2.2.2
set_option maxRecDepth 100000 in
theorem db_cX2_closeUp_dX2_closeUp_16_1 : zw [(16, .iload_n 1, 1), (17, .ishl, 1), (18, .ior, 1), (19, .ireturn, 1)] (cX2_closeUp.data.toList.drop 16) 16 = true := by decide +kernel
def dc_cX2_closeUp_dX2_closeUp_16_1 := zw_4 db_cX2_closeUp_dX2_closeUp_16_1
def dX2_closeUp_16 := dc_cX2_closeUp_dX2_closeUp_16_1.1
def dX2_closeUp_17 := dc_cX2_closeUp_dX2_closeUp_16_1.2.1
def dX2_closeUp_18 := dc_cX2_closeUp_dX2_closeUp_16_1.2.2.1
def dX2_closeUp_19 := dc_cX2_closeUp_dX2_closeUp_16_1.2.2.2
set_option maxRecDepth 100000 in
theorem db_cX2_removeState_dX2_removeState_0_0 : zw [(0, .iconst 0, 1), (1, .istore_n 2, 1), (2, .iload_n 2, 1), (3, .aload_n 0, 1), (4, .getfield 15, 3), (7, .iconst 1, 1), (8, .isub, 1), (9, .if_icmp .ge 55, 3), (12, .iload_n 2, 1), (13, .iload_n 1, 1), (14, .if_icmp .ge 7, 3), (17, .iload_n 2, 1), (18, .goto 6, 3), (21, .iload_n 2, 1), (22, .iconst 1, 1), (23, .iadd, 1)] (cX2_removeState.data.toList.drop 0) 0 = true := by decide +kernel
def dc_cX2_removeState_dX2_removeState_0_0 := zw_16 db_cX2_removeState_dX2_removeState_0_0
def dX2_removeState_0 := dc_cX2_removeState_dX2_removeState_0_0.1
def dX2_removeState_1 := dc_cX2_removeState_dX2_removeState_0_0.2.1
def dX2_removeState_2 := dc_cX2_removeState_dX2_removeState_0_0.2.2.1
def dX2_removeState_3 := dc_cX2_removeState_dX2_removeState_0_0.2.2.2.1
def dX2_removeState_4 := dc_cX2_removeState_dX2_removeState_0_0.2.2.2.2.1
def dX2_removeState_7 := dc_cX2_removeState_dX2_removeState_0_0.2.2.2.2.2.1
def dX2_removeState_8 := dc_cX2_removeState_dX2_removeState_0_0.2.2.2.2.2.2.1
def dX2_removeState_9 := dc_cX2_removeState_dX2_removeState_0_0.2.2.2.2.2.2.2.1
def dX2_removeState_12 := dc_cX2_removeState_dX2_removeState_0_0.2.2.2.2.2.2.2.2.1
def dX2_removeState_13 := dc_cX2_removeState_dX2_removeState_0_0.2.2.2.2.2.2.2.2.2.1
def dX2_removeState_14 := dc_cX2_removeState_dX2_removeState_0_0.2.2.2.2.2.2.2.2.2.2.1
def dX2_removeState_17 := dc_cX2_removeState_dX2_removeState_0_0.2.2.2.2.2.2.2.2.2.2.2.1
def dX2_removeState_18 := dc_cX2_removeState_dX2_removeState_0_0.2.2.2.2.2.2.2.2.2.2.2.2.1
def dX2_removeState_21 := dc_cX2_removeState_dX2_removeState_0_0.2.2.2.2.2.2.2.2.2.2.2.2.2.1
def dX2_removeState_22 := dc_cX2_removeState_dX2_removeState_0_0.2.2.2.2.2.2.2.2.2.2.2.2.2.2.1
def dX2_removeState_23 := dc_cX2_removeState_dX2_removeState_0_0.2.2.2.2.2.2.2.2.2.2.2.2.2.2.2
set_option maxRecDepth 100000 in
theorem db_cX2_removeState_dX2_removeState_24_1 : zw [(24, .istore_n 3, 1), (25, .iconst 0, 1), (26, .istore 4, 2), (28, .iload 4, 2), (30, .iconst 3, 1), (31, .if_icmp .ge 27, 3), (34, .aload_n 0, 1), (35, .iload_n 2, 1), (36, .iload 4, 2), (38, .aload_n 0, 1), (39, .iload_n 3, 1), (40, .iload 4, 2), (42, .invokevirtual 25, 3), (45, .iload_n 1, 1), (46, .invokestatic 69, 3), (49, .invokevirtual 43, 3)] (cX2_removeState.data.toList.drop 24) 24 = true := by decide +kernel
def dc_cX2_removeState_dX2_removeState_24_1 := zw_16 db_cX2_removeState_dX2_removeState_24_1
def dX2_removeState_24 := dc_cX2_removeState_dX2_removeState_24_1.1
def dX2_removeState_25 := dc_cX2_removeState_dX2_removeState_24_1.2.1
def dX2_removeState_26 := dc_cX2_removeState_dX2_removeState_24_1.2.2.1
def dX2_removeState_28 := dc_cX2_removeState_dX2_removeState_24_1.2.2.2.1
def dX2_removeState_30 := dc_cX2_removeState_dX2_removeState_24_1.2.2.2.2.1
def dX2_removeState_31 := dc_cX2_removeState_dX2_removeState_24_1.2.2.2.2.2.1
def dX2_removeState_34 := dc_cX2_removeState_dX2_removeState_24_1.2.2.2.2.2.2.1
def dX2_removeState_35 := dc_cX2_removeState_dX2_removeState_24_1.2.2.2.2.2.2.2.1
def dX2_removeState_36 := dc_cX2_removeState_dX2_removeState_24_1.2.2.2.2.2.2.2.2.1
def dX2_removeState_38 := dc_cX2_removeState_dX2_removeState_24_1.2.2.2.2.2.2.2.2.2.1
def dX2_removeState_39 := dc_cX2_removeState_dX2_removeState_24_1.2.2.2.2.2.2.2.2.2.2.1
def dX2_removeState_40 := dc_cX2_removeState_dX2_removeState_24_1.2.2.2.2.2.2.2.2.2.2.2.1
def dX2_removeState_42 := dc_cX2_removeState_dX2_removeState_24_1.2.2.2.2.2.2.2.2.2.2.2.2.1
def dX2_removeState_45 := dc_cX2_removeState_dX2_removeState_24_1.2.2.2.2.2.2.2.2.2.2.2.2.2.1
def dX2_removeState_46 := dc_cX2_removeState_dX2_removeState_24_1.2.2.2.2.2.2.2.2.2.2.2.2.2.2.1
def dX2_removeState_49 := dc_cX2_removeState_dX2_removeState_24_1.2.2.2.2.2.2.2.2.2.2.2.2.2.2.2
set_option maxRecDepth 100000 in
theorem db_cX2_removeState_dX2_removeState_52_2 : zw [(52, .iinc 4 1, 3), (55, .goto (-27), 3), (58, .iinc 2 1, 3), (61, .goto (-59), 3), (64, .aload_n 0, 1), (65, .aload_n 0, 1), (66, .getfield 9, 3), (69, .iload_n 1, 1), (70, .invokestatic 69, 3), (73, .putfield 9, 3), (76, .aload_n 0, 1), (77, .aload_n 0, 1), (78, .getfield 18, 3), (81, .iload_n 1, 1), (82, .invokestatic 69, 3), (85, .putfield 18, 3)] (cX2_removeState.data.toList.drop 52) 52 = true := by decide +kernel
def dc_cX2_removeState_dX2_removeState_52_2 := zw_16 db_cX2_removeState_dX2_removeState_52_2
def dX2_removeState_52 := dc_cX2_removeState_dX2_removeState_52_2.1
def dX2_removeState_55 := dc_cX2_removeState_dX2_removeState_52_2.2.1
def dX2_removeState_58 := dc_cX2_removeState_dX2_removeState_52_2.2.2.1
def dX2_removeState_61 := dc_cX2_removeState_dX2_removeState_52_2.2.2.2.1
def dX2_removeState_64 := dc_cX2_removeState_dX2_removeState_52_2.2.2.2.2.1
def dX2_removeState_65 := dc_cX2_removeState_dX2_removeState_52_2.2.2.2.2.2.1
def dX2_removeState_66 := dc_cX2_removeState_dX2_removeState_52_2.2.2.2.2.2.2.1
def dX2_removeState_69 := dc_cX2_removeState_dX2_removeState_52_2.2.2.2.2.2.2.2.1
def dX2_removeState_70 := dc_cX2_removeState_dX2_removeState_52_2.2.2.2.2.2.2.2.2.1
def dX2_removeState_73 := dc_cX2_removeState_dX2_removeState_52_2.2.2.2.2.2.2.2.2.2.1
def dX2_removeState_76 := dc_cX2_removeState_dX2_removeState_52_2.2.2.2.2.2.2.2.2.2.2.1
def dX2_removeState_77 := dc_cX2_removeState_dX2_removeState_52_2.2.2.2.2.2.2.2.2.2.2.2.1
def dX2_removeState_78 := dc_cX2_removeState_dX2_removeState_52_2.2.2.2.2.2.2.2.2.2.2.2.2.1
def dX2_removeState_81 := dc_cX2_removeState_dX2_removeState_52_2.2.2.2.2.2.2.2.2.2.2.2.2.2.1
def dX2_removeState_82 := dc_cX2_removeState_dX2_removeState_52_2.2.2.2.2.2.2.2.2.2.2.2.2.2.2.1
def dX2_removeState_85 := dc_cX2_removeState_dX2_removeState_52_2.2.2.2.2.2.2.2.2.2.2.2.2.2.2.2
set_option maxRecDepth 100000 in
theorem db_cX2_removeState_dX2_removeState_88_3 : zw [(88, .aload_n 0, 1), (89, .dup, 1), (90, .getfield 15, 3), (93, .iconst 1, 1), (94, .isub, 1), (95, .putfield 15, 3), (98, .return_, 1)] (cX2_removeState.data.toList.drop 88) 88 = true := by decide +kernel
def dc_cX2_removeState_dX2_removeState_88_3 := zw_7 db_cX2_removeState_dX2_removeState_88_3
def dX2_removeState_88 := dc_cX2_removeState_dX2_removeState_88_3.1
def dX2_removeState_89 := dc_cX2_removeState_dX2_removeState_88_3.2.1
def dX2_removeState_90 := dc_cX2_removeState_dX2_removeState_88_3.2.2.1
def dX2_removeState_93 := dc_cX2_removeState_dX2_removeState_88_3.2.2.2.1
def dX2_removeState_94 := dc_cX2_removeState_dX2_removeState_88_3.2.2.2.2.1
def dX2_removeState_95 := dc_cX2_removeState_dX2_removeState_88_3.2.2.2.2.2.1
def dX2_removeState_98 := dc_cX2_removeState_dX2_removeState_88_3.2.2.2.2.2.2
set_option maxRecDepth 100000 in
theorem db_cX2_countOneByOne_dX2_countOneByOne_0_0 : zw [(0, .iload_n 1, 1), (1, .invokestatic 78, 3), (4, .istore_n 2, 1), (5, .iconst 0, 1), (6, .istore_n 3, 1), (7, .iconst 0, 1), (8, .istore 4, 2), (10, .iload 4, 2), (12, .iload_n 2, 1), (13, .if_icmp .ge 22, 3), (16, .aload_n 0, 1), (17, .iload_n 1, 1), (18, .iload 4, 2), (20, .invokevirtual 81, 3), (23, .ifCond .eq 6, 3), (26, .iinc 3 1, 3)] (cX2_countOneByOne.data.toList.drop 0) 0 = true := by decide +kernel
def dc_cX2_countOneByOne_dX2_countOneByOne_0_0 := zw_16 db_cX2_countOneByOne_dX2_countOneByOne_0_0
def dX2_countOneByOne_0 := dc_cX2_countOneByOne_dX2_countOneByOne_0_0.1
def dX2_countOneByOne_1 := dc_cX2_countOneByOne_dX2_countOneByOne_0_0.2.1
def dX2_countOneByOne_4 := dc_cX2_countOneByOne_dX2_countOneByOne_0_0.2.2.1
def dX2_countOneByOne_5 := dc_cX2_countOneByOne_dX2_countOneByOne_0_0.2.2.2.1
def dX2_countOneByOne_6 := dc_cX2_countOneByOne_dX2_countOneByOne_0_0.2.2.2.2.1
def dX2_countOneByOne_7 := dc_cX2_countOneByOne_dX2_countOneByOne_0_0.2.2.2.2.2.1
def dX2_countOneByOne_8 := dc_cX2_countOneByOne_dX2_countOneByOne_0_0.2.2.2.2.2.2.1
def dX2_countOneByOne_10 := dc_cX2_countOneByOne_dX2_countOneByOne_0_0.2.2.2.2.2.2.2.1
def dX2_countOneByOne_12 := dc_cX2_countOneByOne_dX2_countOneByOne_0_0.2.2.2.2.2.2.2.2.1
def dX2_countOneByOne_13 := dc_cX2_countOneByOne_dX2_countOneByOne_0_0.2.2.2.2.2.2.2.2.2.1
def dX2_countOneByOne_16 := dc_cX2_countOneByOne_dX2_countOneByOne_0_0.2.2.2.2.2.2.2.2.2.2.1
def dX2_countOneByOne_17 := dc_cX2_countOneByOne_dX2_countOneByOne_0_0.2.2.2.2.2.2.2.2.2.2.2.1
def dX2_countOneByOne_18 := dc_cX2_countOneByOne_dX2_countOneByOne_0_0.2.2.2.2.2.2.2.2.2.2.2.2.1
def dX2_countOneByOne_20 := dc_cX2_countOneByOne_dX2_countOneByOne_0_0.2.2.2.2.2.2.2.2.2.2.2.2.2.1
def dX2_countOneByOne_23 := dc_cX2_countOneByOne_dX2_countOneByOne_0_0.2.2.2.2.2.2.2.2.2.2.2.2.2.2.1
def dX2_countOneByOne_26 := dc_cX2_countOneByOne_dX2_countOneByOne_0_0.2.2.2.2.2.2.2.2.2.2.2.2.2.2.2
set_option maxRecDepth 100000 in
theorem db_cX2_countOneByOne_dX2_countOneByOne_29_1 : zw [(29, .iinc 4 1, 3), (32, .goto (-22), 3), (35, .iload_n 3, 1), (36, .ireturn, 1)] (cX2_countOneByOne.data.toList.drop 29) 29 = true := by decide +kernel
def dc_cX2_countOneByOne_dX2_countOneByOne_29_1 := zw_4 db_cX2_countOneByOne_dX2_countOneByOne_29_1
def dX2_countOneByOne_29 := dc_cX2_countOneByOne_dX2_countOneByOne_29_1.1
def dX2_countOneByOne_32 := dc_cX2_countOneByOne_dX2_countOneByOne_29_1.2.1
def dX2_countOneByOne_35 := dc_cX2_countOneByOne_dX2_countOneByOne_29_1.2.2.1
def dX2_countOneByOne_36 := dc_cX2_countOneByOne_dX2_countOneByOne_29_1.2.2.2
set_option maxRecDepth 100000 in
theorem db_cX3_makeByTurning_dX3_makeByTurning_0_0 : zw [(0, .aload_n 0, 1), (1, .getfield 40, 3), (4, .aload_n 1, 1), (5, .invokevirtual 68, 3), (8, .aload_n 0, 1), (9, .aload_n 0, 1), (10, .getfield 40, 3), (13, .aload_n 0, 1), (14, .getfield 46, 3), (17, .invokevirtual 50, 3), (20, .ifCond .ne 5, 3), (23, .iconst 0, 1), (24, .ireturn, 1), (25, .aload_n 0, 1), (26, .getfield 36, 3), (29, .aload_n 0, 1)] (cX3_makeByTurning.data.toList.drop 0) 0 = true := by decide +kernel
def dc_cX3_makeByTurning_dX3_makeByTurning_0_0 := zw_16 db_cX3_makeByTurning_dX3_makeByTurning_0_0
def dX3_makeByTurning_0 := dc_cX3_makeByTurning_dX3_makeByTurning_0_0.1
def dX3_makeByTurning_1 := dc_cX3_makeByTurning_dX3_makeByTurning_0_0.2.1
def dX3_makeByTurning_4 := dc_cX3_makeByTurning_dX3_makeByTurning_0_0.2.2.1
def dX3_makeByTurning_5 := dc_cX3_makeByTurning_dX3_makeByTurning_0_0.2.2.2.1
def dX3_makeByTurning_8 := dc_cX3_makeByTurning_dX3_makeByTurning_0_0.2.2.2.2.1
def dX3_makeByTurning_9 := dc_cX3_makeByTurning_dX3_makeByTurning_0_0.2.2.2.2.2.1
def dX3_makeByTurning_10 := dc_cX3_makeByTurning_dX3_makeByTurning_0_0.2.2.2.2.2.2.1
def dX3_makeByTurning_13 := dc_cX3_makeByTurning_dX3_makeByTurning_0_0.2.2.2.2.2.2.2.1
def dX3_makeByTurning_14 := dc_cX3_makeByTurning_dX3_makeByTurning_0_0.2.2.2.2.2.2.2.2.1
def dX3_makeByTurning_17 := dc_cX3_makeByTurning_dX3_makeByTurning_0_0.2.2.2.2.2.2.2.2.2.1
def dX3_makeByTurning_20 := dc_cX3_makeByTurning_dX3_makeByTurning_0_0.2.2.2.2.2.2.2.2.2.2.1
def dX3_makeByTurning_23 := dc_cX3_makeByTurning_dX3_makeByTurning_0_0.2.2.2.2.2.2.2.2.2.2.2.1
def dX3_makeByTurning_24 := dc_cX3_makeByTurning_dX3_makeByTurning_0_0.2.2.2.2.2.2.2.2.2.2.2.2.1
def dX3_makeByTurning_25 := dc_cX3_makeByTurning_dX3_makeByTurning_0_0.2.2.2.2.2.2.2.2.2.2.2.2.2.1
def dX3_makeByTurning_26 := dc_cX3_makeByTurning_dX3_makeByTurning_0_0.2.2.2.2.2.2.2.2.2.2.2.2.2.2.1
def dX3_makeByTurning_29 := dc_cX3_makeByTurning_dX3_makeByTurning_0_0.2.2.2.2.2.2.2.2.2.2.2.2.2.2.2
set_option maxRecDepth 100000 in
theorem db_cX3_makeByTurning_dX3_makeByTurning_30_1 : zw [(30, .getfield 46, 3), (33, .invokevirtual 72, 3), (36, .aload_n 0, 1), (37, .getfield 40, 3), (40, .aload_n 0, 1), (41, .getfield 36, 3), (44, .invokevirtual 68, 3), (47, .aload_n 0, 1), (48, .aload_n 0, 1), (49, .getfield 40, 3), (52, .aload_n 2, 1), (53, .invokevirtual 50, 3), (56, .ireturn, 1)] (cX3_makeByTurning.data.toList.drop 30) 30 = true := by decide +kernel
def dc_cX3_makeByTurning_dX3_makeByTurning_30_1 := zw_13 db_cX3_makeByTurning_dX3_makeByTurning_30_1
def dX3_makeByTurning_30 := dc_cX3_makeByTurning_dX3_makeByTurning_30_1.1
def dX3_makeByTurning_33 := dc_cX3_makeByTurning_dX3_makeByTurning_30_1.2.1
def dX3_makeByTurning_36 := dc_cX3_makeByTurning_dX3_makeByTurning_30_1.2.2.1
def dX3_makeByTurning_37 := dc_cX3_makeByTurning_dX3_makeByTurning_30_1.2.2.2.1
def dX3_makeByTurning_40 := dc_cX3_makeByTurning_dX3_makeByTurning_30_1.2.2.2.2.1
def dX3_makeByTurning_41 := dc_cX3_makeByTurning_dX3_makeByTurning_30_1.2.2.2.2.2.1
def dX3_makeByTurning_44 := dc_cX3_makeByTurning_dX3_makeByTurning_30_1.2.2.2.2.2.2.1
def dX3_makeByTurning_47 := dc_cX3_makeByTurning_dX3_makeByTurning_30_1.2.2.2.2.2.2.2.1
def dX3_makeByTurning_48 := dc_cX3_makeByTurning_dX3_makeByTurning_30_1.2.2.2.2.2.2.2.2.1
def dX3_makeByTurning_49 := dc_cX3_makeByTurning_dX3_makeByTurning_30_1.2.2.2.2.2.2.2.2.2.1
def dX3_makeByTurning_52 := dc_cX3_makeByTurning_dX3_makeByTurning_30_1.2.2.2.2.2.2.2.2.2.2.1
def dX3_makeByTurning_53 := dc_cX3_makeByTurning_dX3_makeByTurning_30_1.2.2.2.2.2.2.2.2.2.2.2.1
def dX3_makeByTurning_56 := dc_cX3_makeByTurning_dX3_makeByTurning_30_1.2.2.2.2.2.2.2.2.2.2.2.2
set_option maxRecDepth 100000 in
theorem db_cX3_makeBy_dX3_makeBy_0_0 : zw [(0, .iload_n 1, 1), (1, .iconst 3, 1), (2, .if_icmp .ne 10, 3), (5, .aload_n 0, 1), (6, .aload_n 2, 1), (7, .aload_n 3, 1), (8, .invokevirtual 50, 3), (11, .ireturn, 1), (12, .iload_n 1, 1), (13, .iconst 2, 1), (14, .if_icmp .ne 10, 3), (17, .aload_n 0, 1), (18, .aload_n 2, 1), (19, .aload_n 3, 1), (20, .invokevirtual 54, 3), (23, .ireturn, 1)] (cX3_makeBy.data.toList.drop 0) 0 = true := by decide +kernel
def dc_cX3_makeBy_dX3_makeBy_0_0 := zw_16 db_cX3_makeBy_dX3_makeBy_0_0
def dX3_makeBy_0 := dc_cX3_makeBy_dX3_makeBy_0_0.1
def dX3_makeBy_1 := dc_cX3_makeBy_dX3_makeBy_0_0.2.1
def dX3_makeBy_2 := dc_cX3_makeBy_dX3_makeBy_0_0.2.2.1
def dX3_makeBy_5 := dc_cX3_makeBy_dX3_makeBy_0_0.2.2.2.1
def dX3_makeBy_6 := dc_cX3_makeBy_dX3_makeBy_0_0.2.2.2.2.1
def dX3_makeBy_7 := dc_cX3_makeBy_dX3_makeBy_0_0.2.2.2.2.2.1
def dX3_makeBy_8 := dc_cX3_makeBy_dX3_makeBy_0_0.2.2.2.2.2.2.1
def dX3_makeBy_11 := dc_cX3_makeBy_dX3_makeBy_0_0.2.2.2.2.2.2.2.1
def dX3_makeBy_12 := dc_cX3_makeBy_dX3_makeBy_0_0.2.2.2.2.2.2.2.2.1
def dX3_makeBy_13 := dc_cX3_makeBy_dX3_makeBy_0_0.2.2.2.2.2.2.2.2.2.1
def dX3_makeBy_14 := dc_cX3_makeBy_dX3_makeBy_0_0.2.2.2.2.2.2.2.2.2.2.1
def dX3_makeBy_17 := dc_cX3_makeBy_dX3_makeBy_0_0.2.2.2.2.2.2.2.2.2.2.2.1
def dX3_makeBy_18 := dc_cX3_makeBy_dX3_makeBy_0_0.2.2.2.2.2.2.2.2.2.2.2.2.1
def dX3_makeBy_19 := dc_cX3_makeBy_dX3_makeBy_0_0.2.2.2.2.2.2.2.2.2.2.2.2.2.1
def dX3_makeBy_20 := dc_cX3_makeBy_dX3_makeBy_0_0.2.2.2.2.2.2.2.2.2.2.2.2.2.2.1
def dX3_makeBy_23 := dc_cX3_makeBy_dX3_makeBy_0_0.2.2.2.2.2.2.2.2.2.2.2.2.2.2.2
set_option maxRecDepth 100000 in
theorem db_cX3_makeBy_dX3_makeBy_24_1 : zw [(24, .aload_n 0, 1), (25, .aload_n 2, 1), (26, .aload_n 0, 1), (27, .getfield 46, 3), (30, .invokevirtual 50, 3), (33, .ifCond .ne 5, 3), (36, .iconst 0, 1), (37, .ireturn, 1), (38, .iload_n 1, 1), (39, .iconst 1, 1), (40, .if_icmp .ne 17, 3), (43, .aload_n 0, 1), (44, .getfield 29, 3), (47, .aload_n 0, 1), (48, .getfield 46, 3), (51, .invokevirtual 57, 3)] (cX3_makeBy.data.toList.drop 24) 24 = true := by decide +kernel
def dc_cX3_makeBy_dX3_makeBy_24_1 := zw_16 db_cX3_makeBy_dX3_makeBy_24_1
def dX3_makeBy_24 := dc_cX3_makeBy_dX3_makeBy_24_1.1
def dX3_makeBy_25 := dc_cX3_makeBy_dX3_makeBy_24_1.2.1
def dX3_makeBy_26 := dc_cX3_makeBy_dX3_makeBy_24_1.2.2.1
def dX3_makeBy_27 := dc_cX3_makeBy_dX3_makeBy_24_1.2.2.2.1
def dX3_makeBy_30 := dc_cX3_makeBy_dX3_makeBy_24_1.2.2.2.2.1
def dX3_makeBy_33 := dc_cX3_makeBy_dX3_makeBy_24_1.2.2.2.2.2.1
def dX3_makeBy_36 := dc_cX3_makeBy_dX3_makeBy_24_1.2.2.2.2.2.2.1
def dX3_makeBy_37 := dc_cX3_makeBy_dX3_makeBy_24_1.2.2.2.2.2.2.2.1
def dX3_makeBy_38 := dc_cX3_makeBy_dX3_makeBy_24_1.2.2.2.2.2.2.2.2.1
def dX3_makeBy_39 := dc_cX3_makeBy_dX3_makeBy_24_1.2.2.2.2.2.2.2.2.2.1
def dX3_makeBy_40 := dc_cX3_makeBy_dX3_makeBy_24_1.2.2.2.2.2.2.2.2.2.2.1
def dX3_makeBy_43 := dc_cX3_makeBy_dX3_makeBy_24_1.2.2.2.2.2.2.2.2.2.2.2.1
def dX3_makeBy_44 := dc_cX3_makeBy_dX3_makeBy_24_1.2.2.2.2.2.2.2.2.2.2.2.2.1
def dX3_makeBy_47 := dc_cX3_makeBy_dX3_makeBy_24_1.2.2.2.2.2.2.2.2.2.2.2.2.2.1
def dX3_makeBy_48 := dc_cX3_makeBy_dX3_makeBy_24_1.2.2.2.2.2.2.2.2.2.2.2.2.2.2.1
def dX3_makeBy_51 := dc_cX3_makeBy_dX3_makeBy_24_1.2.2.2.2.2.2.2.2.2.2.2.2.2.2.2
set_option maxRecDepth 100000 in
theorem db_cX3_makeBy_dX3_makeBy_54_2 : zw [(54, .goto 14, 3), (57, .aload_n 0, 1), (58, .getfield 29, 3), (61, .aload_n 0, 1), (62, .getfield 46, 3), (65, .invokevirtual 61, 3), (68, .aload_n 0, 1), (69, .aload_n 0, 1), (70, .getfield 46, 3), (73, .aload_n 3, 1), (74, .invokevirtual 64, 3), (77, .iconst 1, 1), (78, .ireturn, 1)] (cX3_makeBy.data.toList.drop 54) 54 = true := by decide +kernel
def dc_cX3_makeBy_dX3_makeBy_54_2 := zw_13 db_cX3_makeBy_dX3_makeBy_54_2
def dX3_makeBy_54 := dc_cX3_makeBy_dX3_makeBy_54_2.1
def dX3_makeBy_57 := dc_cX3_makeBy_dX3_makeBy_54_2.2.1
def dX3_makeBy_58 := dc_cX3_makeBy_dX3_makeBy_54_2.2.2.1
def dX3_makeBy_61 := dc_cX3_makeBy_dX3_makeBy_54_2.2.2.2.1
def dX3_makeBy_62 := dc_cX3_makeBy_dX3_makeBy_54_2.2.2.2.2.1
def dX3_makeBy_65 := dc_cX3_makeBy_dX3_makeBy_54_2.2.2.2.2.2.1
def dX3_makeBy_68 := dc_cX3_makeBy_dX3_makeBy_54_2.2.2.2.2.2.2.1
def dX3_makeBy_69 := dc_cX3_makeBy_dX3_makeBy_54_2.2.2.2.2.2.2.2.1
def dX3_makeBy_70 := dc_cX3_makeBy_dX3_makeBy_54_2.2.2.2.2.2.2.2.2.1
def dX3_makeBy_73 := dc_cX3_makeBy_dX3_makeBy_54_2.2.2.2.2.2.2.2.2.2.1
def dX3_makeBy_74 := dc_cX3_makeBy_dX3_makeBy_54_2.2.2.2.2.2.2.2.2.2.2.1
def dX3_makeBy_77 := dc_cX3_makeBy_dX3_makeBy_54_2.2.2.2.2.2.2.2.2.2.2.2.1
def dX3_makeBy_78 := dc_cX3_makeBy_dX3_makeBy_54_2.2.2.2.2.2.2.2.2.2.2.2.2
set_option maxRecDepth 100000 in
theorem db_cX5_isSameAs_dX5_isSameAs_0_0 : zw [(0, .aload_n 0, 1), (1, .aload_n 1, 1), (2, .invokevirtual 19, 3), (5, .ireturn, 1)] (cX5_isSameAs.data.toList.drop 0) 0 = true := by decide +kernel
def dc_cX5_isSameAs_dX5_isSameAs_0_0 := zw_4 db_cX5_isSameAs_dX5_isSameAs_0_0
def dX5_isSameAs_0 := dc_cX5_isSameAs_dX5_isSameAs_0_0.1
def dX5_isSameAs_1 := dc_cX5_isSameAs_dX5_isSameAs_0_0.2.1
def dX5_isSameAs_2 := dc_cX5_isSameAs_dX5_isSameAs_0_0.2.2.1
def dX5_isSameAs_5 := dc_cX5_isSameAs_dX5_isSameAs_0_0.2.2.2
set_option maxRecDepth 100000 in
theorem db_cX5_ledInto_dX5_ledInto_0_0 : zw [(0, .iconst 0, 1), (1, .istore_n 2, 1), (2, .iconst 0, 1), (3, .istore_n 3, 1), (4, .iload_n 3, 1), (5, .aload_n 0, 1), (6, .getfield 28, 3), (9, .if_icmp .ge 44, 3), (12, .iconst 0, 1), (13, .istore 4, 2), (15, .iload 4, 2), (17, .iconst 3, 1), (18, .if_icmp .ge 29, 3), (21, .iload_n 1, 1), (22, .aload_n 0, 1), (23, .iload_n 3, 1)] (cX5_ledInto.data.toList.drop 0) 0 = true := by decide +kernel
def dc_cX5_ledInto_dX5_ledInto_0_0 := zw_16 db_cX5_ledInto_dX5_ledInto_0_0
def dX5_ledInto_0 := dc_cX5_ledInto_dX5_ledInto_0_0.1
def dX5_ledInto_1 := dc_cX5_ledInto_dX5_ledInto_0_0.2.1
def dX5_ledInto_2 := dc_cX5_ledInto_dX5_ledInto_0_0.2.2.1
def dX5_ledInto_3 := dc_cX5_ledInto_dX5_ledInto_0_0.2.2.2.1
def dX5_ledInto_4 := dc_cX5_ledInto_dX5_ledInto_0_0.2.2.2.2.1
def dX5_ledInto_5 := dc_cX5_ledInto_dX5_ledInto_0_0.2.2.2.2.2.1
def dX5_ledInto_6 := dc_cX5_ledInto_dX5_ledInto_0_0.2.2.2.2.2.2.1
def dX5_ledInto_9 := dc_cX5_ledInto_dX5_ledInto_0_0.2.2.2.2.2.2.2.1
def dX5_ledInto_12 := dc_cX5_ledInto_dX5_ledInto_0_0.2.2.2.2.2.2.2.2.1
def dX5_ledInto_13 := dc_cX5_ledInto_dX5_ledInto_0_0.2.2.2.2.2.2.2.2.2.1
def dX5_ledInto_15 := dc_cX5_ledInto_dX5_ledInto_0_0.2.2.2.2.2.2.2.2.2.2.1
def dX5_ledInto_17 := dc_cX5_ledInto_dX5_ledInto_0_0.2.2.2.2.2.2.2.2.2.2.2.1
def dX5_ledInto_18 := dc_cX5_ledInto_dX5_ledInto_0_0.2.2.2.2.2.2.2.2.2.2.2.2.1
def dX5_ledInto_21 := dc_cX5_ledInto_dX5_ledInto_0_0.2.2.2.2.2.2.2.2.2.2.2.2.2.1
def dX5_ledInto_22 := dc_cX5_ledInto_dX5_ledInto_0_0.2.2.2.2.2.2.2.2.2.2.2.2.2.2.1
def dX5_ledInto_23 := dc_cX5_ledInto_dX5_ledInto_0_0.2.2.2.2.2.2.2.2.2.2.2.2.2.2.2
set_option maxRecDepth 100000 in
theorem db_cX5_ledInto_dX5_ledInto_24_1 : zw [(24, .iload 4, 2), (26, .invokevirtual 46, 3), (29, .invokestatic 15, 3), (32, .ifCond .eq 9, 3), (35, .iload_n 2, 1), (36, .iconst 1, 1), (37, .iload_n 3, 1), (38, .ishl, 1), (39, .ior, 1), (40, .istore_n 2, 1), (41, .iinc 4 1, 3), (44, .goto (-29), 3), (47, .iinc 3 1, 3), (50, .goto (-46), 3), (53, .iload_n 2, 1), (54, .ireturn, 1)] (cX5_ledInto.data.toList.drop 24) 24 = true := by decide +kernel
def dc_cX5_ledInto_dX5_ledInto_24_1 := zw_16 db_cX5_ledInto_dX5_ledInto_24_1
def dX5_ledInto_24 := dc_cX5_ledInto_dX5_ledInto_24_1.1
def dX5_ledInto_26 := dc_cX5_ledInto_dX5_ledInto_24_1.2.1
def dX5_ledInto_29 := dc_cX5_ledInto_dX5_ledInto_24_1.2.2.1
def dX5_ledInto_32 := dc_cX5_ledInto_dX5_ledInto_24_1.2.2.2.1
def dX5_ledInto_35 := dc_cX5_ledInto_dX5_ledInto_24_1.2.2.2.2.1
def dX5_ledInto_36 := dc_cX5_ledInto_dX5_ledInto_24_1.2.2.2.2.2.1
def dX5_ledInto_37 := dc_cX5_ledInto_dX5_ledInto_24_1.2.2.2.2.2.2.1
def dX5_ledInto_38 := dc_cX5_ledInto_dX5_ledInto_24_1.2.2.2.2.2.2.2.1
def dX5_ledInto_39 := dc_cX5_ledInto_dX5_ledInto_24_1.2.2.2.2.2.2.2.2.1
def dX5_ledInto_40 := dc_cX5_ledInto_dX5_ledInto_24_1.2.2.2.2.2.2.2.2.2.1
def dX5_ledInto_41 := dc_cX5_ledInto_dX5_ledInto_24_1.2.2.2.2.2.2.2.2.2.2.1
def dX5_ledInto_44 := dc_cX5_ledInto_dX5_ledInto_24_1.2.2.2.2.2.2.2.2.2.2.2.1
def dX5_ledInto_47 := dc_cX5_ledInto_dX5_ledInto_24_1.2.2.2.2.2.2.2.2.2.2.2.2.1
def dX5_ledInto_50 := dc_cX5_ledInto_dX5_ledInto_24_1.2.2.2.2.2.2.2.2.2.2.2.2.2.1
def dX5_ledInto_53 := dc_cX5_ledInto_dX5_ledInto_24_1.2.2.2.2.2.2.2.2.2.2.2.2.2.2.1
def dX5_ledInto_54 := dc_cX5_ledInto_dX5_ledInto_24_1.2.2.2.2.2.2.2.2.2.2.2.2.2.2.2
set_option maxRecDepth 100000 in
theorem db_cX5_isTakingLongOnes_dX5_isTakingLongOnes_0_0 : zw [(0, .aload_n 0, 1), (1, .getfield 9, 3), (4, .istore_n 1, 1), (5, .iconst 1, 1), (6, .istore_n 2, 1), (7, .iload_n 2, 1), (8, .iconst 2, 1), (9, .aload_n 0, 1), (10, .getfield 28, 3), (13, .imul, 1), (14, .if_icmp .ge 33, 3), (17, .aload_n 0, 1), (18, .iload_n 1, 1), (19, .invokevirtual 49, 3), (22, .istore_n 1, 1), (23, .iload_n 2, 1)] (cX5_isTakingLongOnes.data.toList.drop 0) 0 = true := by decide +kernel
def dc_cX5_isTakingLongOnes_dX5_isTakingLongOnes_0_0 := zw_16 db_cX5_isTakingLongOnes_dX5_isTakingLongOnes_0_0
def dX5_isTakingLongOnes_0 := dc_cX5_isTakingLongOnes_dX5_isTakingLongOnes_0_0.1
def dX5_isTakingLongOnes_1 := dc_cX5_isTakingLongOnes_dX5_isTakingLongOnes_0_0.2.1
def dX5_isTakingLongOnes_4 := dc_cX5_isTakingLongOnes_dX5_isTakingLongOnes_0_0.2.2.1
def dX5_isTakingLongOnes_5 := dc_cX5_isTakingLongOnes_dX5_isTakingLongOnes_0_0.2.2.2.1
def dX5_isTakingLongOnes_6 := dc_cX5_isTakingLongOnes_dX5_isTakingLongOnes_0_0.2.2.2.2.1
def dX5_isTakingLongOnes_7 := dc_cX5_isTakingLongOnes_dX5_isTakingLongOnes_0_0.2.2.2.2.2.1
def dX5_isTakingLongOnes_8 := dc_cX5_isTakingLongOnes_dX5_isTakingLongOnes_0_0.2.2.2.2.2.2.1
def dX5_isTakingLongOnes_9 := dc_cX5_isTakingLongOnes_dX5_isTakingLongOnes_0_0.2.2.2.2.2.2.2.1
def dX5_isTakingLongOnes_10 := dc_cX5_isTakingLongOnes_dX5_isTakingLongOnes_0_0.2.2.2.2.2.2.2.2.1
def dX5_isTakingLongOnes_13 := dc_cX5_isTakingLongOnes_dX5_isTakingLongOnes_0_0.2.2.2.2.2.2.2.2.2.1
def dX5_isTakingLongOnes_14 := dc_cX5_isTakingLongOnes_dX5_isTakingLongOnes_0_0.2.2.2.2.2.2.2.2.2.2.1
def dX5_isTakingLongOnes_17 := dc_cX5_isTakingLongOnes_dX5_isTakingLongOnes_0_0.2.2.2.2.2.2.2.2.2.2.2.1
def dX5_isTakingLongOnes_18 := dc_cX5_isTakingLongOnes_dX5_isTakingLongOnes_0_0.2.2.2.2.2.2.2.2.2.2.2.2.1
def dX5_isTakingLongOnes_19 := dc_cX5_isTakingLongOnes_dX5_isTakingLongOnes_0_0.2.2.2.2.2.2.2.2.2.2.2.2.2.1
def dX5_isTakingLongOnes_22 := dc_cX5_isTakingLongOnes_dX5_isTakingLongOnes_0_0.2.2.2.2.2.2.2.2.2.2.2.2.2.2.1
def dX5_isTakingLongOnes_23 := dc_cX5_isTakingLongOnes_dX5_isTakingLongOnes_0_0.2.2.2.2.2.2.2.2.2.2.2.2.2.2.2
set_option maxRecDepth 100000 in
theorem db_cX5_isTakingLongOnes_dX5_isTakingLongOnes_24_1 : zw [(24, .aload_n 0, 1), (25, .getfield 28, 3), (28, .if_icmp .lt 13, 3), (31, .iload_n 1, 1), (32, .iconst 0, 1), (33, .invokestatic 15, 3), (36, .ifCond .eq 5, 3), (39, .iconst 1, 1), (40, .ireturn, 1), (41, .iinc 2 1, 3), (44, .goto (-37), 3), (47, .iconst 0, 1), (48, .ireturn, 1)] (cX5_isTakingLongOnes.data.toList.drop 24) 24 = true := by decide +kernel
def dc_cX5_isTakingLongOnes_dX5_isTakingLongOnes_24_1 := zw_13 db_cX5_isTakingLongOnes_dX5_isTakingLongOnes_24_1
def dX5_isTakingLongOnes_24 := dc_cX5_isTakingLongOnes_dX5_isTakingLongOnes_24_1.1
def dX5_isTakingLongOnes_25 := dc_cX5_isTakingLongOnes_dX5_isTakingLongOnes_24_1.2.1
def dX5_isTakingLongOnes_28 := dc_cX5_isTakingLongOnes_dX5_isTakingLongOnes_24_1.2.2.1
def dX5_isTakingLongOnes_31 := dc_cX5_isTakingLongOnes_dX5_isTakingLongOnes_24_1.2.2.2.1
def dX5_isTakingLongOnes_32 := dc_cX5_isTakingLongOnes_dX5_isTakingLongOnes_24_1.2.2.2.2.1
def dX5_isTakingLongOnes_33 := dc_cX5_isTakingLongOnes_dX5_isTakingLongOnes_24_1.2.2.2.2.2.1
def dX5_isTakingLongOnes_36 := dc_cX5_isTakingLongOnes_dX5_isTakingLongOnes_24_1.2.2.2.2.2.2.1
def dX5_isTakingLongOnes_39 := dc_cX5_isTakingLongOnes_dX5_isTakingLongOnes_24_1.2.2.2.2.2.2.2.1
def dX5_isTakingLongOnes_40 := dc_cX5_isTakingLongOnes_dX5_isTakingLongOnes_24_1.2.2.2.2.2.2.2.2.1
def dX5_isTakingLongOnes_41 := dc_cX5_isTakingLongOnes_dX5_isTakingLongOnes_24_1.2.2.2.2.2.2.2.2.2.1
def dX5_isTakingLongOnes_44 := dc_cX5_isTakingLongOnes_dX5_isTakingLongOnes_24_1.2.2.2.2.2.2.2.2.2.2.1
def dX5_isTakingLongOnes_47 := dc_cX5_isTakingLongOnes_dX5_isTakingLongOnes_24_1.2.2.2.2.2.2.2.2.2.2.2.1
def dX5_isTakingLongOnes_48 := dc_cX5_isTakingLongOnes_dX5_isTakingLongOnes_24_1.2.2.2.2.2.2.2.2.2.2.2.2
set_option maxRecDepth 100000 in
theorem db_cX8_from_dX8_from_0_0 : zw [(0, .aload_n 0, 1), (1, .getfield 14, 3), (4, .iload_n 2, 1), (5, .bipush 32, 2), (7, .imul, 1), (8, .iload_n 1, 1), (9, .iadd, 1), (10, .invokevirtual 20, 3), (13, .ireturn, 1)] (cX8_from.data.toList.drop 0) 0 = true := by decide +kernel
def dc_cX8_from_dX8_from_0_0 := zw_9 db_cX8_from_dX8_from_0_0
def dX8_from_0 := dc_cX8_from_dX8_from_0_0.1
def dX8_from_1 := dc_cX8_from_dX8_from_0_0.2.1
def dX8_from_4 := dc_cX8_from_dX8_from_0_0.2.2.1
def dX8_from_5 := dc_cX8_from_dX8_from_0_0.2.2.2.1
def dX8_from_7 := dc_cX8_from_dX8_from_0_0.2.2.2.2.1
def dX8_from_8 := dc_cX8_from_dX8_from_0_0.2.2.2.2.2.1
def dX8_from_9 := dc_cX8_from_dX8_from_0_0.2.2.2.2.2.2.1
def dX8_from_10 := dc_cX8_from_dX8_from_0_0.2.2.2.2.2.2.2.1
def dX8_from_13 := dc_cX8_from_dX8_from_0_0.2.2.2.2.2.2.2.2
set_option maxRecDepth 100000 in
theorem db_cX8_sumOver_dX8_sumOver_0_0 : zw [(0, .iconst 0, 1), (1, .istore 4, 2), (3, .iconst 0, 1), (4, .istore 5, 2), (6, .iload 5, 2), (8, .iconst 3, 1), (9, .if_icmp .ge 26, 3), (12, .iload 4, 2), (14, .aload_n 0, 1), (15, .aload_n 1, 1), (16, .iload_n 2, 1), (17, .iload 5, 2), (19, .invokevirtual 42, 3), (22, .iload_n 3, 1), (23, .invokevirtual 45, 3), (26, .iadd, 1)] (cX8_sumOver.data.toList.drop 0) 0 = true := by decide +kernel
def dc_cX8_sumOver_dX8_sumOver_0_0 := zw_16 db_cX8_sumOver_dX8_sumOver_0_0
def dX8_sumOver_0 := dc_cX8_sumOver_dX8_sumOver_0_0.1
def dX8_sumOver_1 := dc_cX8_sumOver_dX8_sumOver_0_0.2.1
def dX8_sumOver_3 := dc_cX8_sumOver_dX8_sumOver_0_0.2.2.1
def dX8_sumOver_4 := dc_cX8_sumOver_dX8_sumOver_0_0.2.2.2.1
def dX8_sumOver_6 := dc_cX8_sumOver_dX8_sumOver_0_0.2.2.2.2.1
def dX8_sumOver_8 := dc_cX8_sumOver_dX8_sumOver_0_0.2.2.2.2.2.1
def dX8_sumOver_9 := dc_cX8_sumOver_dX8_sumOver_0_0.2.2.2.2.2.2.1
def dX8_sumOver_12 := dc_cX8_sumOver_dX8_sumOver_0_0.2.2.2.2.2.2.2.1
def dX8_sumOver_14 := dc_cX8_sumOver_dX8_sumOver_0_0.2.2.2.2.2.2.2.2.1
def dX8_sumOver_15 := dc_cX8_sumOver_dX8_sumOver_0_0.2.2.2.2.2.2.2.2.2.1
def dX8_sumOver_16 := dc_cX8_sumOver_dX8_sumOver_0_0.2.2.2.2.2.2.2.2.2.2.1
def dX8_sumOver_17 := dc_cX8_sumOver_dX8_sumOver_0_0.2.2.2.2.2.2.2.2.2.2.2.1
def dX8_sumOver_19 := dc_cX8_sumOver_dX8_sumOver_0_0.2.2.2.2.2.2.2.2.2.2.2.2.1
def dX8_sumOver_22 := dc_cX8_sumOver_dX8_sumOver_0_0.2.2.2.2.2.2.2.2.2.2.2.2.2.1
def dX8_sumOver_23 := dc_cX8_sumOver_dX8_sumOver_0_0.2.2.2.2.2.2.2.2.2.2.2.2.2.2.1
def dX8_sumOver_26 := dc_cX8_sumOver_dX8_sumOver_0_0.2.2.2.2.2.2.2.2.2.2.2.2.2.2.2
set_option maxRecDepth 100000 in
theorem db_cX8_sumOver_dX8_sumOver_27_1 : zw [(27, .istore 4, 2), (29, .iinc 5 1, 3), (32, .goto (-26), 3), (35, .iload 4, 2), (37, .ireturn, 1)] (cX8_sumOver.data.toList.drop 27) 27 = true := by decide +kernel
def dc_cX8_sumOver_dX8_sumOver_27_1 := zw_5 db_cX8_sumOver_dX8_sumOver_27_1
def dX8_sumOver_27 := dc_cX8_sumOver_dX8_sumOver_27_1.1
def dX8_sumOver_29 := dc_cX8_sumOver_dX8_sumOver_27_1.2.1
def dX8_sumOver_32 := dc_cX8_sumOver_dX8_sumOver_27_1.2.2.1
def dX8_sumOver_35 := dc_cX8_sumOver_dX8_sumOver_27_1.2.2.2.1
def dX8_sumOver_37 := dc_cX8_sumOver_dX8_sumOver_27_1.2.2.2.2
set_option maxRecDepth 100000 in
theorem db_cX8_count_dX8_count_0_0 : zw [(0, .iconst 0, 1), (1, .istore_n 2, 1), (2, .iload_n 2, 1), (3, .aload_n 1, 1), (4, .getfield 24, 3), (7, .if_icmp .ge 30, 3), (10, .aload_n 0, 1), (11, .getfield 14, 3), (14, .iload_n 2, 1), (15, .aload_n 1, 1), (16, .iload_n 2, 1), (17, .invokevirtual 30, 3), (20, .ifCond .eq 7, 3), (23, .iconst 1, 1), (24, .goto 4, 3), (27, .iconst 0, 1)] (cX8_count.data.toList.drop 0) 0 = true := by decide +kernel
def dc_cX8_count_dX8_count_0_0 := zw_16 db_cX8_count_dX8_count_0_0
def dX8_count_0 := dc_cX8_count_dX8_count_0_0.1
def dX8_count_1 := dc_cX8_count_dX8_count_0_0.2.1
def dX8_count_2 := dc_cX8_count_dX8_count_0_0.2.2.1
def dX8_count_3 := dc_cX8_count_dX8_count_0_0.2.2.2.1
def dX8_count_4 := dc_cX8_count_dX8_count_0_0.2.2.2.2.1
def dX8_count_7 := dc_cX8_count_dX8_count_0_0.2.2.2.2.2.1
def dX8_count_10 := dc_cX8_count_dX8_count_0_0.2.2.2.2.2.2.1
def dX8_count_11 := dc_cX8_count_dX8_count_0_0.2.2.2.2.2.2.2.1
def dX8_count_14 := dc_cX8_count_dX8_count_0_0.2.2.2.2.2.2.2.2.1
def dX8_count_15 := dc_cX8_count_dX8_count_0_0.2.2.2.2.2.2.2.2.2.1
def dX8_count_16 := dc_cX8_count_dX8_count_0_0.2.2.2.2.2.2.2.2.2.2.1
def dX8_count_17 := dc_cX8_count_dX8_count_0_0.2.2.2.2.2.2.2.2.2.2.2.1
def dX8_count_20 := dc_cX8_count_dX8_count_0_0.2.2.2.2.2.2.2.2.2.2.2.2.1
def dX8_count_23 := dc_cX8_count_dX8_count_0_0.2.2.2.2.2.2.2.2.2.2.2.2.2.1
def dX8_count_24 := dc_cX8_count_dX8_count_0_0.2.2.2.2.2.2.2.2.2.2.2.2.2.2.1
def dX8_count_27 := dc_cX8_count_dX8_count_0_0.2.2.2.2.2.2.2.2.2.2.2.2.2.2.2
set_option maxRecDepth 100000 in
theorem db_cX8_count_dX8_count_28_1 : zw [(28, .invokevirtual 34, 3), (31, .iinc 2 1, 3), (34, .goto (-32), 3), (37, .iconst 1, 1), (38, .istore_n 2, 1), (39, .iload_n 2, 1), (40, .bipush 12, 2), (42, .if_icmp .gt 47, 3), (45, .iconst 0, 1), (46, .istore_n 3, 1), (47, .iload_n 3, 1), (48, .aload_n 1, 1), (49, .getfield 24, 3), (52, .if_icmp .ge 31, 3), (55, .aload_n 0, 1), (56, .getfield 14, 3)] (cX8_count.data.toList.drop 28) 28 = true := by decide +kernel
def dc_cX8_count_dX8_count_28_1 := zw_16 db_cX8_count_dX8_count_28_1
def dX8_count_28 := dc_cX8_count_dX8_count_28_1.1
def dX8_count_31 := dc_cX8_count_dX8_count_28_1.2.1
def dX8_count_34 := dc_cX8_count_dX8_count_28_1.2.2.1
def dX8_count_37 := dc_cX8_count_dX8_count_28_1.2.2.2.1
def dX8_count_38 := dc_cX8_count_dX8_count_28_1.2.2.2.2.1
def dX8_count_39 := dc_cX8_count_dX8_count_28_1.2.2.2.2.2.1
def dX8_count_40 := dc_cX8_count_dX8_count_28_1.2.2.2.2.2.2.1
def dX8_count_42 := dc_cX8_count_dX8_count_28_1.2.2.2.2.2.2.2.1
def dX8_count_45 := dc_cX8_count_dX8_count_28_1.2.2.2.2.2.2.2.2.1
def dX8_count_46 := dc_cX8_count_dX8_count_28_1.2.2.2.2.2.2.2.2.2.1
def dX8_count_47 := dc_cX8_count_dX8_count_28_1.2.2.2.2.2.2.2.2.2.2.1
def dX8_count_48 := dc_cX8_count_dX8_count_28_1.2.2.2.2.2.2.2.2.2.2.2.1
def dX8_count_49 := dc_cX8_count_dX8_count_28_1.2.2.2.2.2.2.2.2.2.2.2.2.1
def dX8_count_52 := dc_cX8_count_dX8_count_28_1.2.2.2.2.2.2.2.2.2.2.2.2.2.1
def dX8_count_55 := dc_cX8_count_dX8_count_28_1.2.2.2.2.2.2.2.2.2.2.2.2.2.2.1
def dX8_count_56 := dc_cX8_count_dX8_count_28_1.2.2.2.2.2.2.2.2.2.2.2.2.2.2.2
set_option maxRecDepth 100000 in
theorem db_cX8_count_dX8_count_59_2 : zw [(59, .iload_n 2, 1), (60, .bipush 32, 2), (62, .imul, 1), (63, .iload_n 3, 1), (64, .iadd, 1), (65, .aload_n 0, 1), (66, .aload_n 1, 1), (67, .iload_n 3, 1), (68, .iload_n 2, 1), (69, .iconst 1, 1), (70, .isub, 1), (71, .invokevirtual 38, 3), (74, .invokevirtual 34, 3), (77, .iinc 3 1, 3), (80, .goto (-33), 3), (83, .iinc 2 1, 3)] (cX8_count.data.toList.drop 59) 59 = true := by decide +kernel
def dc_cX8_count_dX8_count_59_2 := zw_16 db_cX8_count_dX8_count_59_2
def dX8_count_59 := dc_cX8_count_dX8_count_59_2.1
def dX8_count_60 := dc_cX8_count_dX8_count_59_2.2.1
def dX8_count_62 := dc_cX8_count_dX8_count_59_2.2.2.1
def dX8_count_63 := dc_cX8_count_dX8_count_59_2.2.2.2.1
def dX8_count_64 := dc_cX8_count_dX8_count_59_2.2.2.2.2.1
def dX8_count_65 := dc_cX8_count_dX8_count_59_2.2.2.2.2.2.1
def dX8_count_66 := dc_cX8_count_dX8_count_59_2.2.2.2.2.2.2.1
def dX8_count_67 := dc_cX8_count_dX8_count_59_2.2.2.2.2.2.2.2.1
def dX8_count_68 := dc_cX8_count_dX8_count_59_2.2.2.2.2.2.2.2.2.1
def dX8_count_69 := dc_cX8_count_dX8_count_59_2.2.2.2.2.2.2.2.2.2.1
def dX8_count_70 := dc_cX8_count_dX8_count_59_2.2.2.2.2.2.2.2.2.2.2.1
def dX8_count_71 := dc_cX8_count_dX8_count_59_2.2.2.2.2.2.2.2.2.2.2.2.1
def dX8_count_74 := dc_cX8_count_dX8_count_59_2.2.2.2.2.2.2.2.2.2.2.2.2.1
def dX8_count_77 := dc_cX8_count_dX8_count_59_2.2.2.2.2.2.2.2.2.2.2.2.2.2.1
def dX8_count_80 := dc_cX8_count_dX8_count_59_2.2.2.2.2.2.2.2.2.2.2.2.2.2.2.1
def dX8_count_83 := dc_cX8_count_dX8_count_59_2.2.2.2.2.2.2.2.2.2.2.2.2.2.2.2
set_option maxRecDepth 100000 in
theorem db_cX8_count_dX8_count_86_3 : zw [(86, .goto (-47), 3), (89, .return_, 1)] (cX8_count.data.toList.drop 86) 86 = true := by decide +kernel
def dc_cX8_count_dX8_count_86_3 := zw_2 db_cX8_count_dX8_count_86_3
def dX8_count_86 := dc_cX8_count_dX8_count_86_3.1
def dX8_count_89 := dc_cX8_count_dX8_count_86_3.2
