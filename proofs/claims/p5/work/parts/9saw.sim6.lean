section SIMX
variable {μ ν : TMem} {S : Nat → AM} {a r k t : Int32} {a1 a2 a3 a4 a5 : Int32} {m m' : Nat} {A B : AM} {D D1 D2 : DF} {Q : Int32 → TMem → Prop} {X : String → TMem → Prop} {Qi : Int32 → Prop} {Qo : Option AI → Prop} {P : PP}
theorem ZF.r50 {μ9 : TMem} (h : ∀ k, k ≠ 50 → μ9 k = μ k) : ZF μ μ9 := ⟨fun k hk => h k (by omega), fun g i => by rw [h 43 (by decide)]; exact g i⟩
/-- the class's count of words by their tails -/
theorem e_ways {l : Nat} (hP : HP μ 57 D) (hl : l ≤ 12) (h : ∀ μ9, ZF μ μ9 → Q (WYS D l 0) μ9) : wp_X8_count 57 μ (fun μ8 => wp_X8_from μ8 0 (nI l) (fun r9 => Q r9 μ8)) := by
  have d1 := hP.1
  refine e_tails hP (fun μ9 hw hf => ?_)
  refine e_from (i := 0) hl (by omega) ?_
  rw [hw l 0 hl (by omega)]
  exact h μ9 (ZF.r50 hf)
/-- the reference's -/
theorem rr_waysQ {l nf : Nat} {f : Nat → Int32} (hF : HF nf f D) (hl : l ≤ 12) (h : Q (WYS D l 0) ν) : wp_X11_ways nf f (nI l) (fun (n34 : Nat) (f35 : Nat → Int32) => vp_in ((nI l) * ((nI nf) / (4 : Int32))) n34 ∧ (Q (f35 ((nI l) * ((nI nf) / (4 : Int32))).toNatClampNeg) ν)) := by
  have h4 := hF.2.2.2.1
  have h2 := hF.2.1
  have e4 : (nI nf) / (4 : Int32) = nI D.1 := by
    rw [show (4 : Int32) = nI 4 from rfl, s_div (by decide) (by omega) (by decide), h4, Nat.mul_div_cancel_left _ (by decide)]
  have b : l * D.1 ≤ 12 * 32 := Nat.mul_le_mul hl h2
  rw [e4, s_mul]
  refine rr_ways hF hl (fun n g hn hg => ⟨s_in hn (by omega), ?_⟩)
  rw [nI_clamp (by omega), hg]
  exact h
theorem n4_div {nf : Nat} {f : Nat → Int32} (hF : HF nf f D) : (nI nf) / (4 : Int32) = nI D.1 := by
  have h4 := hF.2.2.2.1
  have h2 := hF.2.1
  rw [show (4 : Int32) = nI 4 from rfl, s_div (by decide) (by omega) (by decide), h4, Nat.mul_div_cancel_left _ (by decide)]
/-- what together tells -/
def TGV (A B : AM) (w h : Int32) : Option Int32 := (BLS A B (nn w)).map fun D => if h = -1 then nI D.1 else WYS D (nn h) 0
abbrev TGK (a3 a4 : Int32) : Prop := IN a3 0 3 ∧ IN a4 (-1) 12
theorem ee_together (hc : CSt μ S a r k) (hv : AVs S) (hok : ∀ m m' v, AL1 a1 a2 m m' → TGK a3 a4 → TGV (S m) (S m') a3 a4 = some v → ∀ μ9, CSt μ9 S a r k → Q v μ9) (h1 : ¬ ONE2 a1 a2 → X "java/lang/IndexOutOfBoundsException" μ) (h2 : ONE2 a1 a2 → ¬ TGK a3 a4 → X "java/lang/IllegalArgumentException" μ) (h3 : ∀ m m', AL1 a1 a2 m m' → TGK a3 a4 → TGV (S m) (S m') a3 a4 = none → ∀ μ9, CSt μ9 S a r k → X "java/lang/IllegalStateException" μ9) : wp_X9_together μ a1 a2 a3 a4 Q X := by
  refine e_mach (fun m hm em => e_mach (fun m' hm' em' => e_rng (fun z3 => e_rng (fun z4 => ?_) (fun z => h2 ⟨em ▸ M1_nI hm, em' ▸ M1_nI hm'⟩ (fun w => z w.2))) (fun z => h2 ⟨em ▸ M1_nI hm, em' ▸ M1_nI hm'⟩ (fun w => z w.1))) (fun z => h1 (fun w => z w.2))) (fun z => h1 (fun w => z w.1))
  have hA := hc.1 m hm
  have hB := hc.1 m' hm'
  have v7 := (hv m hm).2.1
  have v7' := (hv m' hm').2.1
  have tm := tlm hm
  have tm' := tlm hm'
  have hok' := fun v => hok m m' v ⟨hm, hm', em, em'⟩ ⟨z3, z4⟩
  have h3' := h3 m m' ⟨hm, hm', em, em'⟩ ⟨z3, z4⟩
  obtain ⟨w, ew, w0, w3⟩ := IN_ex z3 (by decide)
  have w3' : (w : Int) ≤ 3 := w3
  have en : nn a3 = w := by rw [ew, nn_nI (by omega)]
  rw [TGV, en] at hok' h3'
  rw [ew]
  refine e_putTogether (kdm hm) (kdm hm') hA hB (by omega) (by omega) (by omega) (by omega) (by omega) hc.2.2.2.2 (fun D μ7 e p z => ⟨fun _ => ⟨fun n1 => ?_, fun e1 => ?_⟩, fun q => absurd q (by decide)⟩) (fun e μ7 z => ⟨fun q => absurd rfl q, fun _ => h3' (by rw [e]; rfl) μ7 (hc.keep z)⟩)
  · have c9 : a4.toInt ≠ -1 := fun e => n1 (l_eq.mpr (by rw [e]; rfl))
    obtain ⟨l, el, l0, l12⟩ := IN_ex (show IN a4 0 12 from ⟨by have := z4.1; have e : (-1 : Int32).toInt = -1 := rfl; omega, z4.2⟩) (by decide)
    have l12' : (l : Int) ≤ 12 := l12
    rw [el]
    refine e_ways p (by omega) (fun μ9 z9 => hok' _ ?_ μ9 ((hc.keep z).keep z9))
    rw [e, Option.map_some, if_neg n1, el, nn_nI (by omega)]
  · have e7 : μ7 57 1 = nI D.1 := p.2.2.2.1
    show Q (μ7 57 1) μ7
    rw [e7]
    refine hok' _ ?_ μ7 (hc.keep z)
    rw [e, Option.map_some, if_pos e1]
theorem rr_together (h : RSt ν S a r k t) (hv : AVs S) (hok : ∀ m m' v, AL1 a1 a2 m m' → TGK a3 a4 → TGV (S m) (S m') a3 a4 = some v → ∀ ν9, RSt ν9 S a r k 0 → Q v ν9) (h1 : ¬ ONE2 a1 a2 → ∀ b ν9, RSt ν9 S a r k 1 → Q b ν9) (h2 : ONE2 a1 a2 → ¬ TGK a3 a4 → ∀ b ν9, RSt ν9 S a r k 2 → Q b ν9) (h3 : ∀ m m', AL1 a1 a2 m m' → TGK a3 a4 → TGV (S m) (S m') a3 a4 = none → ∀ b ν9, RSt ν9 S a r k 3 → Q b ν9) : wp_X11_together ν a1 a2 a3 a4 Q := by
  refine rr_two (fun m m' hm hm' em em' => rr_in (fun z3 J hJ => ⟨fun q => absurd q (by decide), fun _ => rr_in (fun z4 => ⟨fun q => absurd q (by decide), fun _ => hJ _ (th_ok ⟨fun _ => ?_, fun q => absurd rfl q⟩)⟩) (fun z => ⟨fun _ => hJ _ (th_2 ⟨fun q => absurd q (by decide), fun _ => h2 ⟨em ▸ M1_nI hm, em' ▸ M1_nI hm'⟩ (fun w => z w.2) _ _ (h.thr 2)⟩), fun q => absurd rfl q⟩)⟩) (fun z J hJ => ⟨fun _ => hJ _ (th_2 ⟨fun q => absurd q (by decide), fun _ => h2 ⟨em ▸ M1_nI hm, em' ▸ M1_nI hm'⟩ (fun w => z w.1) _ _ (h.thr 2)⟩), fun q => absurd rfl q⟩)) (fun z => rr_in (fun _ J hJ => ⟨fun q => absurd q (by decide), fun _ => rr_in (fun _ => ⟨fun q => absurd q (by decide), fun _ => hJ _ (th_1 ⟨fun q => absurd q (by decide), fun _ => h1 z _ _ (h.thr 1)⟩)⟩) (fun _ => ⟨fun _ => hJ _ (th_1 ⟨fun q => absurd q (by decide), fun _ => h1 z _ _ (h.thr 1)⟩), fun q => absurd rfl q⟩)⟩) (fun _ J hJ => ⟨fun _ => hJ _ (th_1 ⟨fun q => absurd q (by decide), fun _ => h1 z _ _ (h.thr 1)⟩), fun q => absurd rfl q⟩))
  have h0 := h.thr 0
  have hA := h0.1 m hm
  have hB := h0.1 m' hm'
  have hok' := fun v => hok m m' v ⟨hm, hm', em, em'⟩ ⟨z3, z4⟩
  have h3' := h3 m m' ⟨hm, hm', em, em'⟩ ⟨z3, z4⟩
  obtain ⟨w, ew, w0, w3⟩ := IN_ex z3 (by decide)
  have w3' : (w : Int) ≤ 3 := w3
  have en : nn a3 = w := by rw [ew, nn_nI (by omega)]
  rw [TGV, en] at hok' h3'
  rw [em, em', ew]
  generalize hN : tms ν 0 7 0 = N at *
  refine rr_both (by omega) hm hm' hA hB (hv m hm) (hv m' hm') (fun D nf g e F => ⟨(fun z => nomatch z), fun n13 f14 z => ?_⟩) (fun e => ⟨fun _ => ⟨fun _ => ⟨fun q => absurd q (by decide), fun _ => h3' (by rw [BLS, e]; rfl) _ _ (h0.thr 3)⟩, (fun _ _ z => nomatch z)⟩, (fun _ _ z => nomatch z)⟩)
  cases z
  refine rr_least F (fun D' nf' g' e' F' => ⟨(fun z => nomatch z), fun n32 f33 z => ⟨fun _ => ?_, fun q => absurd rfl q⟩⟩)
  cases z
  have eb : BLS (S m) (S m') w = some D' := by rw [BLS, e]; exact e'
  refine ⟨fun n1 => ?_, fun e1 => ?_⟩
  · have c9 : a4.toInt ≠ -1 := fun e => n1 (l_eq.mpr (by rw [e]; rfl))
    obtain ⟨l, el, l0, l12⟩ := IN_ex (show IN a4 0 12 from ⟨by have := z4.1; have e : (-1 : Int32).toInt = -1 := rfl; omega, z4.2⟩) (by decide)
    have l12' : (l : Int) ≤ 12 := l12
    have g9 := hok' (WYS D' l 0) (by rw [eb, Option.map_some, if_neg n1, el, nn_nI (by omega)]) _ (h0.thr 0)
    rw [el]
    exact rr_waysQ F' (by omega) g9
  · rw [n4_div F']
    exact hok' _ (by rw [eb, Option.map_some, if_pos e1]) _ (h0.thr 0)
theorem gs_together (hP : HPP P) (h : SIM μ ν) (nv : Int64) : wp_X9_together μ a1 a2 a3 a4 (fun r μ9 => wp_X11_together ν a1 a2 a3 a4 (fun b ν9 => P 0 r.toInt64 μ9 b ν9)) (fun E μ9 => (E = IOBn ∧ wp_X11_together ν a1 a2 a3 a4 (fun b ν9 => P 1 nv μ9 b ν9)) ∨ (E = IAEn ∧ wp_X11_together ν a1 a2 a3 a4 (fun b ν9 => P 2 nv μ9 b ν9)) ∨ (E = ISEn ∧ wp_X11_together ν a1 a2 a3 a4 (fun b ν9 => P 3 nv μ9 b ν9))) := by
  obtain ⟨S, a, r, k, t, hv, hc, hr⟩ := h
  refine ee_together hc hv (fun m m' v g z ev μ9 c9 => ?_) (fun z => Or.inl ⟨rfl, ?_⟩) (fun w z => Or.inr (Or.inl ⟨rfl, ?_⟩)) (fun m m' g z ev μ9 c9 => Or.inr (Or.inr ⟨rfl, ?_⟩))
  · refine rr_together hr hv (fun n n' v' g' z' ev' ν9 r9 => ?_) (fun q => absurd g.one q) (fun _ q => absurd z q) (fun n n' g' z' ev' b ν9 r9 => ?_)
    all_goals
      obtain ⟨rfl, rfl⟩ := g.uq g'
      rw [ev] at ev'
      cases ev'
    exact ph_ok hP hv c9 r9
  · exact rr_together hr hv (fun n n' v' g' z' ev' ν9 r9 => absurd g'.one z) (fun _ b ν9 r9 => ph_x hP hv hc r9 (by decide)) (fun q => absurd q z) (fun n n' g' z' ev' b ν9 r9 => absurd g'.one z)
  · exact rr_together hr hv (fun n n' v' g' z' ev' ν9 r9 => absurd z' z) (fun q => absurd w q) (fun _ _ b ν9 r9 => ph_x hP hv hc r9 (by decide)) (fun n n' g' z' ev' b ν9 r9 => absurd z' z)
  · refine rr_together hr hv (fun n n' v' g' z' ev' ν9 r9 => ?_) (fun q => absurd g.one q) (fun _ q => absurd z q) (fun n n' g' z' ev' b ν9 r9 => ph_x hP hv c9 r9 (by decide))
    obtain ⟨rfl, rfl⟩ := g.uq g'
    rw [ev] at ev'
    cases ev'
/-- words taken, one by one -/
def OBn (A : AM) (l : Nat) : Nat → Int32
  | 0 => 0
  | n + 1 => OBn A l n + TKv A l n
theorem TKv_01 {l w : Nat} : (TKv A l w = 0 ∧ SAf (RA9 A) l w (nn A.2.1) &&& nn A.2.2.1 = 0) ∨ (TKv A l w = 1 ∧ ¬ SAf (RA9 A) l w (nn A.2.1) &&& nn A.2.2.1 = 0) := by
  by_cases z : SAf (RA9 A) l w (nn A.2.1) &&& nn A.2.2.1 = 0
  · exact Or.inl ⟨by rw [TKv, if_pos z], z⟩
  · exact Or.inr ⟨by rw [TKv, if_neg z], z⟩
theorem e_isTaking {l w k0 : Nat} (hM : HM μ k0 A) (h32 : A.1 ≤ 32) (hr : 3 * A.1 ≤ tl (k0 + 1)) (hl : l < 2 ^ 30) (hw : w < 2 ^ 31) (h : Qi (TKv A l w)) : wp_X2_isTaking k0 μ (nI l) (nI w) Qi := by
  refine e_statesAfter hM h32 hr hl hw (fun x hx => ?_)
  have e : x &&& A.2.2.1 = 0 ↔ SAf (RA9 A) l w (nn A.2.1) &&& nn A.2.2.1 = 0 := by rw [← hx, ← nn_and, nn_eq, nn_0]
  rw [hM.2.2.1, e]
  rcases TKv_01 (A := A) (l := l) (w := w) with ⟨e1, e2⟩ | ⟨e1, e2⟩
  · rw [e1] at h
    exact ⟨fun _ => h, fun z => absurd e2 z⟩
  · rw [e1] at h
    exact ⟨fun z => absurd z e2, fun _ => h⟩
theorem e_oneByOne {l k0 : Nat} (hM : HM μ k0 A) (h32 : A.1 ≤ 32) (hr : 3 * A.1 ≤ tl (k0 + 1)) (hl : l ≤ 12) (h : Qi (OBn A l (3 ^ l))) : wp_X2_countOneByOne k0 μ (nI l) Qi := by
  have p3 := (p3_le hl).2
  refine e_codes hl ?_
  generalize 3 ^ l = N at *
  have L : ∀ (nf i : Nat), N - i < nf → i ≤ N → wpl_X2_countOneByOne_10 k0 μ (nI N) (nI l) Qi nf (nI i) (OBn A l i) := by
    intro nf
    induction nf with
    | zero => intro i hk; exact absurd hk (Nat.not_lt_zero _)
    | succ nf ih =>
      intro i hk hi
      refine ⟨fun c => ?_, fun c => ?_⟩
      · rw [nI_leI (by omega) (by omega)] at c
        rw [show i = N by omega]
        exact h
      rw [nI_leI (by omega) (by omega)] at c
      have g := ih (i + 1) (by omega) (by omega)
      refine e_isTaking hM h32 hr (by omega) (by omega) ?_
      rw [nI_1]
      rw [OBn] at g
      rcases TKv_01 (A := A) (l := l) (w := i) with ⟨e1, _⟩ | ⟨e1, _⟩
      · rw [e1] at g ⊢
        rw [Int32.add_zero] at g
        exact ⟨fun _ => g, fun q => absurd rfl q⟩
      · rw [e1] at g ⊢
        exact ⟨fun q => absurd q (by decide), fun _ => g⟩
  have g := L (N + 1) 0 (by omega) (Nat.zero_le _)
  rw [nI_0] at g
  exact ⟨_, g⟩
theorem rr_oneByOne {l : Nat} (hm : m < 4) (hR : HR ν m A) (hv : AV A) (hl : l ≤ 12) (h : Q (OBn A l (3 ^ l)) ν) : ∃ z, wpl_X11_many_94 ν (nI m) (nI l) Q z 0 0 := by
  have p3 := (p3_le hl).2
  have im : (nI m).toNatClampNeg = m := nI_clamp (by omega)
  obtain ⟨N, hN⟩ : ∃ N, N = 3 ^ l := ⟨_, rfl⟩
  rw [← hN] at p3 h
  have L : ∀ (nf i : Nat), N - i < nf → i ≤ N → wpl_X11_many_94 ν (nI m) (nI l) Q nf (nI i) (OBn A l i) := by
    intro nf
    induction nf with
    | zero => intro i hk; exact absurd hk (Nat.not_lt_zero _)
    | succ nf ih =>
      intro i hk hi
      refine rr_power hl ?_
      rw [← hN]
      refine ⟨fun c => ?_, fun c => ?_⟩
      · rw [nI_leI (by omega) (by omega)] at c
        rw [show i = N by omega]
        exact h
      rw [nI_leI (by omega) (by omega)] at c
      have g := ih (i + 1) (by omega) (by omega)
      refine rr_setAfter hm hR hv (by omega) (by omega) (fun x hx => ⟨s_in hm (by omega), ?_⟩)
      have e : x &&& A.2.2.1 = 0 ↔ SAf (RA9 A) l i (nn A.2.1) &&& nn A.2.2.1 = 0 := by rw [← hx, ← nn_and, nn_eq, nn_0]
      rw [im, hR.2.2.1, e, nI_1]
      rw [OBn] at g
      rcases TKv_01 (A := A) (l := l) (w := i) with ⟨e1, e2⟩ | ⟨e1, e2⟩
      · rw [e1] at g
        exact ⟨fun _ => g, fun z => absurd e2 z⟩
      · rw [e1] at g
        exact ⟨fun z => absurd z e2, fun _ => g⟩
  have g := L (N + 1) 0 (by omega) (Nat.zero_le _)
  rw [nI_0] at g
  exact ⟨_, g⟩
/-- what many tells -/
def MNV (A : AM) (x h : Int32) : Option Int32 := if h = 1 then some (OBn A (nn x) (3 ^ nn x)) else (LSM A).map fun D => WYS D (nn x) 0
def MNK (a2 a3 : Int32) : Prop := IN a3 0 1 ∧ IN a2 0 (if a3 = 1 then 5 else 12)
theorem ee_many (hc : CSt μ S a r k) (hv : AVs S) (hok : ∀ m v, m < 4 → a1 = nI m → MNK a2 a3 → MNV (S m) a2 a3 = some v → ∀ μ9, CSt μ9 S a r k → Q v μ9) (h1 : ¬ M1 a1 → X "java/lang/IndexOutOfBoundsException" μ) (h2 : M1 a1 → ¬ MNK a2 a3 → X "java/lang/IllegalArgumentException" μ) (h3 : ∀ m, m < 4 → a1 = nI m → MNK a2 a3 → MNV (S m) a2 a3 = none → ∀ μ9, CSt μ9 S a r k → X "java/lang/IllegalStateException" μ9) : wp_X9_many μ a1 a2 a3 Q X := by
  refine e_mach (fun m hm em => e_rng (fun z3 => ?_) (fun z => h2 (em ▸ M1_nI hm) (fun w => z w.1))) h1
  have hM := hc.1 m hm
  have v7 := (hv m hm).2.1
  have tm := tlm hm
  have hok' := fun v => hok m v hm em
  have h3' := h3 m hm em
  refine ⟨fun n1 => e_rng (fun z2 => ⟨fun _ => ?_, fun e1 => absurd e1 n1⟩) (fun z => h2 (em ▸ M1_nI hm) (fun w => z (by have := w.2; rw [if_neg n1] at this; exact this))), fun e1 => e_rng (fun z2 => ⟨fun n1 => absurd e1 n1, fun _ => ?_⟩) (fun z => h2 (em ▸ M1_nI hm) (fun w => z (by have := w.2; rw [if_pos e1] at this; exact this)))⟩
  · have hk : MNK a2 a3 := ⟨z3, by rw [if_neg n1]; exact z2⟩
    obtain ⟨l, el, l0, l12⟩ := IN_ex z2 (by decide)
    have l12' : (l : Int) ≤ 12 := l12
    have en : nn a2 = l := by rw [el, nn_nI (by omega)]
    have ea : MNV (S m) a2 a3 = (LSM (S m)).map fun D => WYS D l 0 := by rw [MNV, if_neg n1, en]
    refine e_makeBy0 (kdm hm) (k2 := 57) rfl (by decide) hM (by omega) (by omega) (fun D μ7 e p z => ⟨fun _ => ?_, fun q => absurd q (by decide)⟩) (fun e μ7 z => ⟨fun q => absurd rfl q, fun _ => h3' hk (by rw [ea, e]; rfl) μ7 (hc.keep z)⟩)
    rw [el]
    exact e_ways p (by omega) (fun μ9 z9 => hok' _ hk (by rw [ea, e]; rfl) μ9 ((hc.keep z).keep z9))
  · have hk : MNK a2 a3 := ⟨z3, by rw [if_pos e1]; exact z2⟩
    obtain ⟨l, el, l0, l5⟩ := IN_ex z2 (by decide)
    have l5' : (l : Int) ≤ 5 := l5
    have en : nn a2 = l := by rw [el, nn_nI (by omega)]
    have ea : MNV (S m) a2 a3 = some (OBn (S m) l (3 ^ l)) := by rw [MNV, if_pos e1, en]
    rw [el]
    exact e_oneByOne hM (by omega) (by omega) (by omega) (hok' _ hk ea μ hc)
theorem rr_many (h : RSt ν S a r k t) (hv : AVs S) (hok : ∀ m v, m < 4 → a1 = nI m → MNK a2 a3 → MNV (S m) a2 a3 = some v → ∀ ν9, RSt ν9 S a r k 0 → Q v ν9) (h1 : ¬ M1 a1 → ∀ b ν9, RSt ν9 S a r k 1 → Q b ν9) (h2 : M1 a1 → ¬ MNK a2 a3 → ∀ b ν9, RSt ν9 S a r k 2 → Q b ν9) (h3 : ∀ m, m < 4 → a1 = nI m → MNK a2 a3 → MNV (S m) a2 a3 = none → ∀ b ν9, RSt ν9 S a r k 3 → Q b ν9) : wp_X11_many ν a1 a2 a3 Q := by
  have walk : ∀ (F : Int32 → Prop), (MNK a2 a3 → F 1) → (¬ MNK a2 a3 → F 0) → wp_X11_isIn a2 (0 : Int32) (12 : Int32) (fun (r2 : Int32) => ∀ J : Int32 → Prop, (∀ j4 : Int32, F j4 → J j4) → (r2 = 0 → (J (0 : Int32))) ∧ (¬ r2 = 0 → (wp_X11_isIn a3 (0 : Int32) (1 : Int32) (fun (r39 : Int32) => (r39 = 0 → (J (0 : Int32))) ∧ (¬ r39 = 0 → ((a3 = 0 → (J (1 : Int32))) ∧ (¬ a3 = 0 → (((6 : Int32) ≤ a2 → (J (0 : Int32))) ∧ (¬ (6 : Int32) ≤ a2 → (J (1 : Int32))))))))))) := fun F f1 f0 => by
    refine rr_in (fun z2 J hJ => ⟨fun q => absurd q (by decide), fun _ => rr_in (fun z3 => ⟨fun q => absurd q (by decide), fun _ => ⟨fun e0 => hJ _ (f1 ⟨z3, ?_⟩), fun n0 => ?_⟩⟩) (fun z => ⟨fun _ => hJ _ (f0 (fun w => z w.1)), fun q => absurd rfl q⟩)⟩) (fun z J hJ => ⟨fun _ => hJ _ (f0 (fun w => z ⟨w.2.1, ?_⟩)), fun q => absurd rfl q⟩)
    · rw [e0, if_neg (by decide)]; exact z2
    · have e1 : a3 = 1 := by
        have x1 : 0 ≤ a3.toInt := z3.1
        have x2 : a3.toInt ≤ 1 := z3.2
        have x3 : a3.toInt ≠ 0 := fun e => n0 (l_eq.mpr (by rw [e]; rfl))
        exact l_eq.mpr (by rw [show (1 : Int32).toInt = 1 from rfl]; omega)
      have y1 : 0 ≤ a2.toInt := z2.1
      rw [l_le, show (6 : Int32).toInt = 6 from rfl]
      exact ⟨fun c => hJ _ (f0 (fun w => by have := w.2.2; rw [if_pos e1] at this; omega)), fun c => hJ _ (f1 ⟨z3, by rw [if_pos e1]; exact ⟨y1, by omega⟩⟩)⟩
    · have := w.2.2
      show a2.toInt ≤ 12
      split at this <;> omega
  refine rr_one (fun m hm em => walk _ (fun hk => th_ok ⟨fun _ => ?_, fun q => absurd rfl q⟩) (fun z => th_2 ⟨fun q => absurd q (by decide), fun _ => h2 (em ▸ M1_nI hm) z _ _ (h.thr 2)⟩)) (fun z => walk _ (fun _ => th_1 ⟨fun q => absurd q (by decide), fun _ => h1 z _ _ (h.thr 1)⟩) (fun _ => th_1 ⟨fun q => absurd q (by decide), fun _ => h1 z _ _ (h.thr 1)⟩))
  have h0 := h.thr 0
  have hR := h0.1 m hm
  have vA := hv m hm
  have hok' := fun v => hok m v hm em hk
  have h3' := h3 m hm em hk
  rw [em]
  generalize hN : tms ν 0 7 0 = N at *
  have x1 : 0 ≤ a3.toInt := hk.1.1
  have x2 : a3.toInt ≤ 1 := hk.1.2
  refine ⟨fun n0 => ?_, fun e0 => ?_⟩
  · have e1 : a3 = 1 := by
      have x3 : a3.toInt ≠ 0 := fun e => n0 (l_eq.mpr (by rw [e]; rfl))
      exact l_eq.mpr (by rw [show (1 : Int32).toInt = 1 from rfl]; omega)
    have z2 := hk.2
    rw [if_pos e1] at z2
    obtain ⟨l, el, l0, l5⟩ := IN_ex z2 (by decide)
    have l5' : (l : Int) ≤ 5 := l5
    have en : nn a2 = l := by rw [el, nn_nI (by omega)]
    have ea : MNV (S m) a2 a3 = some (OBn (S m) l (3 ^ l)) := by rw [MNV, if_pos e1, en]
    rw [el]
    exact rr_oneByOne hm hR vA (by omega) (hok' _ ea _ h0)
  · have n1 : ¬ a3 = 1 := by rw [e0]; decide
    have z2 := hk.2
    rw [if_neg n1] at z2
    obtain ⟨l, el, l0, l12⟩ := IN_ex z2 (by decide)
    have l12' : (l : Int) ≤ 12 := l12
    have en : nn a2 = l := by rw [el, nn_nI (by omega)]
    have ea : MNV (S m) a2 a3 = (LSM (S m)).map fun D => WYS D l 0 := by rw [MNV, if_neg n1, en]
    rw [el]
    refine rr_found0 hm hR vA (fun D nf g e F => ⟨(fun z => nomatch z), fun n25 f26 z => ⟨fun _ => ?_, fun q => absurd rfl q⟩⟩) (fun e => ⟨fun _ => ⟨fun q => absurd q (by decide), fun _ => h3' (by rw [ea, e]; rfl) _ _ (h0.thr 3)⟩, (fun _ _ z => nomatch z)⟩)
    cases z
    exact rr_waysQ F (by omega) (hok' _ (by rw [ea, e]; rfl) _ (h0.thr 0))
theorem gs_many (hP : HPP P) (h : SIM μ ν) (nv : Int64) : wp_X9_many μ a1 a2 a3 (fun r μ9 => wp_X11_many ν a1 a2 a3 (fun b ν9 => P 0 r.toInt64 μ9 b ν9)) (fun E μ9 => (E = IOBn ∧ wp_X11_many ν a1 a2 a3 (fun b ν9 => P 1 nv μ9 b ν9)) ∨ (E = IAEn ∧ wp_X11_many ν a1 a2 a3 (fun b ν9 => P 2 nv μ9 b ν9)) ∨ (E = ISEn ∧ wp_X11_many ν a1 a2 a3 (fun b ν9 => P 3 nv μ9 b ν9))) := by
  obtain ⟨S, a, r, k, t, hv, hc, hr⟩ := h
  refine ee_many hc hv (fun m v hm e z ev μ9 c9 => ?_) (fun z => Or.inl ⟨rfl, ?_⟩) (fun w z => Or.inr (Or.inl ⟨rfl, ?_⟩)) (fun m hm e z ev μ9 c9 => Or.inr (Or.inr ⟨rfl, ?_⟩))
  · refine rr_many hr hv (fun n v' hn e' z' ev' ν9 r9 => ?_) (fun q => absurd (e ▸ M1_nI hm) q) (fun _ q => absurd z q) (fun n hn e' z' ev' b ν9 r9 => ?_)
    all_goals
      cases nI_injS e e' (by omega) (by omega)
      rw [ev] at ev'
      cases ev'
    exact ph_ok hP hv c9 r9
  · exact rr_many hr hv (fun n v' hn e' z' ev' ν9 r9 => absurd (e' ▸ M1_nI hn) z) (fun _ b ν9 r9 => ph_x hP hv hc r9 (by decide)) (fun q => absurd q z) (fun n hn e' z' ev' b ν9 r9 => absurd (e' ▸ M1_nI hn) z)
  · exact rr_many hr hv (fun n v' hn e' z' ev' ν9 r9 => absurd z' z) (fun q => absurd w q) (fun _ _ b ν9 r9 => ph_x hP hv hc r9 (by decide)) (fun n hn e' z' ev' b ν9 r9 => absurd z' z)
  · refine rr_many hr hv (fun n v' hn e' z' ev' ν9 r9 => ?_) (fun q => absurd (e ▸ M1_nI hm) q) (fun _ q => absurd z q) (fun n hn e' z' ev' b ν9 r9 => ph_x hP hv c9 r9 (by decide))
    cases nI_injS e e' (by omega) (by omega)
    rw [ev] at ev'
    cases ev'
end SIMX
