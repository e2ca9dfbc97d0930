section SIMT
variable {μ ν : TMem} {S : Nat → AM} {a r k t : Int32} {a1 a2 a3 a4 a5 : Int32} {m : Nat} {A : AM} {Q : Int32 → TMem → Prop} {X : String → TMem → Prop} {Qi : Int32 → Prop} {P : PP}
theorem RSt.fa {ν9 : TMem} (h : RSt ν S a r k t) (f : FA ν ν9) : RSt ν9 S a r k (ν9 0 7) := by
  obtain ⟨h1, h2, h3, h4, h5⟩ := h
  have f2 := f.2
  refine ⟨fun i hi => ?_, by rw [f2 0 4 (Or.inr (by decide))]; exact h2, by rw [f2 0 5 (Or.inr (by decide))]; exact h3, by rw [f2 0 6 (Or.inr (by decide))]; exact h4, rfl⟩
  obtain ⟨g1, g2, g3, g4⟩ := h1 i hi
  exact ⟨by rw [f2 1 i (Or.inl (by decide))]; exact g1, by rw [f2 2 i (Or.inl (by decide))]; exact g2, by rw [f2 3 i (Or.inl (by decide))]; exact g3, fun j hj => by rw [f2 4 _ (Or.inl (by decide))]; exact g4 j hj⟩
theorem SIM.pass {lv : Nat} {μ9 ν9 : TMem} (h : SIM μ ν) (f : Zr lv μ μ9) (g : FA ν ν9) : SIM μ9 ν9 := by
  obtain ⟨S, a, r, k, t, hv, hc, hr⟩ := h
  exact ⟨S, a, r, k, _, hv, hc.keep f.zf, hr.fa g⟩
/-- one thing told of a machine -/
noncomputable def TLV (A : AM) (w : Int32) : Int32 := if w = 0 then nI A.1 else if w = 1 then AC A else if w = 2 then A.2.1 else if w = 3 then A.2.2.1 else @ite _ (aPl A) (Classical.propDecidable _) 1 0
theorem ee_tell (hc : CSt μ S a r k) (hv : AVs S) (hok : ∀ m, m < 4 → a1 = nI m → IN a2 0 4 → Q (TLV (S m) a2) μ) (h1 : ¬ M1 a1 → X "java/lang/IndexOutOfBoundsException" μ) (h2 : M1 a1 → ¬ IN a2 0 4 → X "java/lang/IllegalArgumentException" μ) : wp_X9_tell μ a1 a2 Q X := by
  refine e_mach (fun m hm em => e_rng (fun w => ?_) (fun z => h2 (em ▸ M1_nI hm) z)) h1
  have hM := hc.1 m hm
  have v7 := (hv m hm).2.1
  have tm := tlm hm
  have g := hok m hm em w
  refine ⟨fun e => ?_, fun n0 => ⟨fun e => ?_, fun n1 => ⟨fun e => ?_, fun n2 => ⟨fun e => ?_, fun n3 => ?_⟩⟩⟩⟩
  · rw [TLV, if_pos e] at g
    rw [hM.1]; exact g
  · rw [TLV, if_neg n0, if_pos e] at g
    exact e_countA hM.1 (by omega) (by omega) hM.2.2.2 g
  · rw [TLV, if_neg n0, if_neg n1, if_pos e] at g
    rw [hM.2.1]; exact g
  · rw [TLV, if_neg n0, if_neg n1, if_neg n2, if_pos e] at g
    rw [hM.2.2.1]; exact g
  · rw [TLV, if_neg n0, if_neg n1, if_neg n2, if_neg n3] at g
    refine e_isPlain hM (by omega) (by omega) (fun p => ⟨fun z => absurd z (by decide), fun _ => ?_⟩) (fun p => ⟨fun _ => ?_, fun z => absurd rfl z⟩)
    · rw [if_pos p] at g; exact g
    · rw [if_neg p] at g; exact g
theorem rr_tell (h : RSt ν S a r k t) (hv : AVs S) (hok : ∀ m, m < 4 → a1 = nI m → IN a2 0 4 → ∀ ν9, RSt ν9 S a r k 0 → Q (TLV (S m) a2) ν9) (h1 : ¬ M1 a1 → ∀ b ν9, RSt ν9 S a r k 1 → Q b ν9) (h2 : M1 a1 → ¬ IN a2 0 4 → ∀ b ν9, RSt ν9 S a r k 2 → Q b ν9) : wp_X11_tell ν a1 a2 Q := by
  refine rr_one (fun m hm em => rr_in (fun w => th_ok ⟨fun _ => ?_, fun q => absurd rfl q⟩) (fun z => th_2 ⟨fun q => absurd q (by decide), fun _ => h2 (em ▸ M1_nI hm) z _ _ (h.thr 2)⟩)) (fun z => rr_in (fun w => th_1 ⟨fun q => absurd q (by decide), fun _ => h1 z _ _ (h.thr 1)⟩) (fun w => th_1 ⟨fun q => absurd q (by decide), fun _ => h1 z _ _ (h.thr 1)⟩))
  have h0 := h.thr 0
  have hR := h0.1 m hm
  have g := hok m hm em w _ h0
  have im : (nI m).toNatClampNeg = m := nI_clamp (by omega)
  rw [em]
  generalize hN : tms ν 0 7 0 = N at *
  refine ⟨fun n0 => ⟨fun n1 => ⟨fun n2 => ⟨fun n3 => ?_, fun e => ?_⟩, fun e => ?_⟩, fun e => ?_⟩, fun e => ?_⟩
  · rw [TLV, if_neg n0, if_neg n1, if_neg n2, if_neg n3] at g
    refine rr_isPlain hm hR (hv m hm) (fun p => ⟨fun z => absurd z (by decide), fun _ => ?_⟩) (fun p => ⟨fun _ => ?_, fun z => absurd rfl z⟩)
    · rw [if_pos p] at g; exact g
    · rw [if_neg p] at g; exact g
  · rw [TLV, if_neg n0, if_neg n1, if_neg n2, if_pos e] at g
    refine ⟨s_in hm (by omega), ?_⟩
    rw [im, hR.2.2.1]; exact g
  · rw [TLV, if_neg n0, if_neg n1, if_pos e] at g
    refine ⟨s_in hm (by omega), ?_⟩
    rw [im, hR.2.1]; exact g
  · rw [TLV, if_neg n0, if_pos e] at g
    exact rr_arrowsOf hm hR (hv m hm) g
  · rw [TLV, if_pos e] at g
    refine ⟨s_in hm (by omega), ?_⟩
    rw [im, hR.1]; exact g
theorem gs_tell (hP : HPP P) (h : SIM μ ν) (nv : Int64) : wp_X9_tell μ a1 a2 (fun r μ9 => wp_X11_tell ν a1 a2 (fun b ν9 => P 0 r.toInt64 μ9 b ν9)) (fun E μ9 => (E = IOBn ∧ wp_X11_tell ν a1 a2 (fun b ν9 => P 1 nv μ9 b ν9)) ∨ (E = IAEn ∧ wp_X11_tell ν a1 a2 (fun b ν9 => P 2 nv μ9 b ν9))) := by
  obtain ⟨S, a, r, k, t, hv, hc, hr⟩ := h
  refine ee_tell hc hv (fun m hm e w => ?_) (fun z => Or.inl ⟨rfl, ?_⟩) (fun w z => Or.inr ⟨rfl, ?_⟩)
  · refine rr_tell hr hv (fun m' hm' e' w' ν9 r9 => ?_) (fun z => absurd (e ▸ M1_nI hm) z) (fun _ z => absurd w z)
    cases nI_injS e e' (by omega) (by omega)
    exact ph_ok hP hv hc r9
  · exact rr_tell hr hv (fun m' hm' e' w' ν9 r9 => absurd (e' ▸ M1_nI hm') z) (fun _ b ν9 r9 => ph_x hP hv hc r9 (by decide)) (fun w => absurd w z)
  · exact rr_tell hr hv (fun m' hm' e' w' ν9 r9 => absurd w' z) (fun w' => absurd w w') (fun _ _ b ν9 r9 => ph_x hP hv hc r9 (by decide))
/-- a machine and one of its states -/
def MST (S : Nat → AM) (x y : Int32) : Prop := ∃ m, m < 4 ∧ x = nI m ∧ STn y (S m).1
theorem MST.mk {f : Nat} (hm : m < 4) (e : a1 = nI m) (e2 : a2 = nI f) (hf : f < (S m).1) (hv : AVs S) : MST S a1 a2 := ⟨m, hm, e, e2 ▸ STn_nI hf (by have := (hv m hm).2.1; omega)⟩
theorem MST.no (hm : m < 4) (e : a1 = nI m) (z : ¬ STn a2 (S m).1) : ¬ MST S a1 a2 := fun ⟨m', hm', e', e4⟩ => z (by rw [nI_inj4 hm hm' (e.symm.trans e')]; exact e4)
theorem ee_arrows (hc : CSt μ S a r k) (hv : AVs S) (hok : ∀ m f s, m < 4 → a1 = nI m → a2 = nI f → a3 = nI s → f < (S m).1 → s < 3 → Q ((S m).2.2.2 (3 * f + s)) μ) (h1 : ¬ MST S a1 a2 → X "java/lang/IndexOutOfBoundsException" μ) (h2 : MST S a1 a2 → ¬ IN a3 0 2 → X "java/lang/IllegalArgumentException" μ) : wp_X9_arrows μ a1 a2 a3 Q X := by
  refine e_mach (fun m hm em => ?_) (fun z => h1 (fun ⟨m, hm, e, _⟩ => z (e ▸ M1_nI hm)))
  have hM := hc.1 m hm
  have v7 := (hv m hm).2.1
  have tm := tlm hm
  refine e_stat hM.1 (by omega) (fun f hf ef => e_sign (fun s hs es => ?_) (fun z => h2 (MST.mk hm em ef hf hv) z)) (fun z => h1 (MST.no hm em z))
  have g := hok m f s hm em ef es hf hs
  rw [ef, es]
  refine e_atN (by omega) ?_
  rw [hM.2.2.2 _ (by omega)]
  exact g
theorem rr_arrows (h : RSt ν S a r k t) (hv : AVs S) (hok : ∀ m f s, m < 4 → a1 = nI m → a2 = nI f → a3 = nI s → f < (S m).1 → s < 3 → ∀ ν9, RSt ν9 S a r k 0 → Q ((S m).2.2.2 (3 * f + s)) ν9) (h1 : ¬ MST S a1 a2 → ∀ b ν9, RSt ν9 S a r k 1 → Q b ν9) (h2 : MST S a1 a2 → ¬ IN a3 0 2 → ∀ b ν9, RSt ν9 S a r k 2 → Q b ν9) : wp_X11_arrows ν a1 a2 a3 Q := by
  have bad : ¬ MST S a1 a2 → wp_X11_isIn a3 (0 : Int32) (2 : Int32) (fun (r4 : Int32) => wp_X11_isThrown ν 0 r4 (fun (r6 : Int32) (μ5 : TMem) => (r6 = 0 → (wp_X11_key a1 a2 a3 (fun (r8 : Int32) => vp_in r8 (ml 4) ∧ (Q (μ5 4 r8.toNatClampNeg) μ5)))) ∧ (¬ r6 = 0 → (Q (0 : Int32) μ5)))) := fun z => rr_in (fun _ => th_1 ⟨fun q => absurd q (by decide), fun _ => h1 z _ _ (h.thr 1)⟩) (fun _ => th_1 ⟨fun q => absurd q (by decide), fun _ => h1 z _ _ (h.thr 1)⟩)
  refine rr_one (fun m hm em => fun J hJ => ⟨fun z => absurd z (by decide), fun _ => ?_⟩) (fun z => fun J hJ => ⟨fun _ => hJ _ (bad (fun ⟨m, hm, e, _⟩ => z (e ▸ M1_nI hm))), fun w => absurd rfl w⟩)
  have v1 := (hv m hm).1
  have v7 := (hv m hm).2.1
  have hR0 := h.1 m hm
  rw [em]
  refine rr_st hm hR0.1 v1 v7 (fun f hf ef => ⟨fun z => absurd z (by decide), fun _ => hJ _ (rr_in (fun w => th_ok ⟨fun _ => ?_, fun q => absurd rfl q⟩) (fun w => th_2 ⟨fun q => absurd q (by decide), fun _ => h2 (MST.mk hm em ef hf hv) w _ _ (h.thr 2)⟩))⟩) (fun z => ⟨fun _ => hJ _ (bad (MST.no hm em z)), fun w => absurd rfl w⟩)
  obtain ⟨s, es, s0, s2⟩ := IN_ex w (by decide)
  have s2' : (s : Int) ≤ 2 := s2
  have h0 := h.thr 0
  have hR := h0.1 m hm
  have g := hok m f s hm em ef es hf (by omega) _ h0
  rw [em, ef, es]
  refine rr_key ⟨s_in (show _ < 84 by omega) (by omega), ?_⟩
  rw [nI_clamp (by omega), Nat.add_assoc, hR.2.2.2 _ (by omega)]
  exact g
theorem gs_arrows (hP : HPP P) (h : SIM μ ν) (nv : Int64) : wp_X9_arrows μ a1 a2 a3 (fun r μ9 => wp_X11_arrows ν a1 a2 a3 (fun b ν9 => P 0 r.toInt64 μ9 b ν9)) (fun E μ9 => (E = IOBn ∧ wp_X11_arrows ν a1 a2 a3 (fun b ν9 => P 1 nv μ9 b ν9)) ∨ (E = IAEn ∧ wp_X11_arrows ν a1 a2 a3 (fun b ν9 => P 2 nv μ9 b ν9))) := by
  obtain ⟨S, a, r, k, t, hv, hc, hr⟩ := h
  have ok : ∀ {s : Nat}, a3 = nI s → s < 3 → IN a3 0 2 := fun e h => e ▸ IN_nI (by omega) (by omega) (by omega)
  refine ee_arrows hc hv (fun m f s hm e ef es hf hs => ?_) (fun z => Or.inl ⟨rfl, ?_⟩) (fun w z => Or.inr ⟨rfl, ?_⟩)
  · refine rr_arrows hr hv (fun m' f' s' hm' e' ef' es' hf' hs' ν9 r9 => ?_) (fun z => absurd (MST.mk hm e ef hf hv) z) (fun _ z => absurd (ok es hs) z)
    have := (hv m hm).2.1
    have := (hv m' hm').2.1
    cases nI_injS e e' (by omega) (by omega)
    cases nI_injS ef ef' (by omega) (by omega)
    cases nI_injS es es' (by omega) (by omega)
    exact ph_ok hP hv hc r9
  · exact rr_arrows hr hv (fun m' f' s' hm' e' ef' es' hf' hs' ν9 r9 => absurd (MST.mk hm' e' ef' hf' hv) z) (fun _ b ν9 r9 => ph_x hP hv hc r9 (by decide)) (fun w => absurd w z)
  · exact rr_arrows hr hv (fun m' f' s' hm' e' ef' es' hf' hs' ν9 r9 => absurd (ok es' hs') z) (fun w' => absurd w w') (fun _ _ b ν9 r9 => ph_x hP hv hc r9 (by decide))
theorem gs_house (hP : HPP P) (h : SIM μ ν) (nv : Int64) : wp_X9_house μ a1 (fun r μ9 => wp_X11_house ν a1 (fun b ν9 => P 0 r.toInt64 μ9 b ν9)) (fun E μ9 => (E = IAEn ∧ wp_X11_house ν a1 (fun b ν9 => P 1 nv μ9 b ν9))) := by
  obtain ⟨S, a, r, k, t, hv, hc, hr⟩ := h
  have h0 := hr.thr 0
  refine e_rng (fun w => ?_) (fun z => ⟨rfl, rr_in (fun w => absurd w z) (fun _ => th_1 ⟨fun q => absurd q (by decide), fun _ => ph_x hP hv hc (hr.thr 1) (by decide)⟩)⟩)
  have R : ∀ nv9 : Int64, (∀ b, b = (if a1 = 0 then a else if a1 = 1 then r else k) → P 0 nv9 μ b (tms ν 0 7 0)) → wp_X11_house ν a1 (fun b ν9 => P 0 nv9 μ b ν9) := fun nv9 hh => rr_in (fun _ => th_ok ⟨fun _ => ⟨fun n0 => ⟨fun n1 => hh _ (by rw [if_neg n0, if_neg n1]; exact h0.2.2.2.1), fun e => hh _ (by rw [if_neg n0, if_pos e]; exact h0.2.2.1)⟩, fun e => hh _ (by rw [if_pos e]; exact h0.2.1)⟩, fun q => absurd rfl q⟩) (fun z => absurd w z)
  refine ⟨fun e => R _ (fun b hb => ?_), fun n0 => ⟨fun e => R _ (fun b hb => ?_), fun n1 => R _ (fun b hb => ?_)⟩⟩
  · rw [if_pos e] at hb
    rw [hb, hc.2.1]
    exact ph_ok hP hv hc h0
  · rw [if_neg n0, if_pos e] at hb
    rw [hb, hc.2.2.1]
    exact ph_ok hP hv hc h0
  · rw [if_neg n0, if_neg n1] at hb
    rw [hb, hc.2.2.2.1]
    exact ph_ok hP hv hc h0
theorem gs_knock {P : Int32 → TMem → Int32 → TMem → Prop} (hP : ∀ x μ9 ν9, SIM μ9 ν9 → P x μ9 x ν9) (h : SIM μ ν) : wp_X9_knock μ (fun r μ9 => wp_X11_knock ν (fun b ν9 => P r μ9 b ν9)) := by
  obtain ⟨S, a, r, k, t, hv, hc, hr⟩ := h
  have h0 := hr.thr 0
  obtain ⟨h1, h2, h3, h4, h5⟩ := hc
  have e : (tms μ 0 13 (μ 0 13 + 1)) 0 13 = k + 1 := by simp [tms_ix, h4]
  have e' : (tms (tms ν 0 7 0) 0 6 ((tms ν 0 7 0) 0 6 + 1)) 0 6 = k + 1 := by rw [h0.2.2.2.1]; simp [tms_ix]
  have g : SIM (tms μ 0 13 (μ 0 13 + 1)) (tms (tms ν 0 7 0) 0 6 ((tms ν 0 7 0) 0 6 + 1)) := by
    refine ⟨S, a, r, k + 1, 0, hv, ⟨fun i hi => (h1 i hi).same (tms_ne (by omega)) (tms_ne (by omega)), by simp [tms_ix, h2], by simp [tms_ix, h3], e, fun i => by rw [tms_ne (by decide)]; exact h5 i⟩, ?_⟩
    generalize tms ν 0 7 0 = N at *
    obtain ⟨q1, q2, q3, q4, q5⟩ := h0
    refine ⟨fun i hi => ?_, by simp [tms_ix, q2], by simp [tms_ix, q3], e', by simp [tms_ix, q5]⟩
    obtain ⟨g1, g2, g3, g4⟩ := q1 i hi
    exact ⟨by rw [tms_ne (by decide)]; exact g1, by rw [tms_ne (by decide)]; exact g2, by rw [tms_ne (by decide)]; exact g3, fun j hj => by rw [tms_ne (by decide)]; exact g4 j hj⟩
  show P ((tms μ 0 13 (μ 0 13 + 1)) 0 13) _ ((tms (tms ν 0 7 0) 0 6 ((tms ν 0 7 0) 0 6 + 1)) 0 6) _
  rw [e, e']
  exact hP _ _ _ g
/-- where a word leads -/
def SAf (f : Nat → Nat → Nat) : Nat → Nat → Nat → Nat
  | 0, _, x => x
  | l + 1, w, x => SAf f l (w / 3) (f x (w % 3))
/-- a machine's way by a sign -/
def RA9 (A : AM) : Nat → Nat → Nat := RC A.1 (fun j => nn (A.2.2.2 j))
theorem e_statesAfter {l w k0 : Nat} (hM : HM μ k0 A) (h32 : A.1 ≤ 32) (hr : 3 * A.1 ≤ tl (k0 + 1)) (hl : l < 2 ^ 30) (hw : w < 2 ^ 31) (h : ∀ r, nn r = SAf (RA9 A) l w (nn A.2.1) → Qi r) : wp_X2_statesAfter k0 μ (nI l) (nI w) Qi := by
  have hcg : ∀ (x s : Nat), s < 3 → RC A.1 (fun j => nn (μ (k0 + 1) j)) x s = RA9 A x s := fun x s hs => RCg_congr _ (fun i hi => by show nn (μ (k0 + 1) (3 * i + s)) = _; rw [hM.2.2.2 _ (by omega)])
  have L : ∀ (nf i y : Nat) (x : Int32), l - i < nf → i ≤ l → y < 2 ^ 31 → SAf (RA9 A) (l - i) y (nn x) = SAf (RA9 A) l w (nn A.2.1) → wpl_X2_statesAfter_11 k0 μ (nI l) Qi nf (nI i) (nI y) x := by
    intro nf
    induction nf with
    | zero => intro i y x hk; exact absurd hk (Nat.not_lt_zero _)
    | succ nf ih =>
      intro i y x hk hi hy e
      refine ⟨fun c => ?_, fun c => ?_⟩
      · rw [nI_leI (by omega) (by omega)] at c
        rw [show l - i = 0 by omega] at e
        exact h x e
      rw [nI_leI (by omega) (by omega)] at c
      rw [show (3 : Int32) = nI 3 from rfl, s_mod (by decide) hy (by decide), s_div (by decide) hy (by decide), nI_1]
      refine e_reach hM.1 h32 hr (Nat.mod_lt _ (by decide)) (fun r hr => ih (i + 1) (y / 3) r (by omega) (by omega) (by omega) ?_)
      rw [hr, hcg _ _ (Nat.mod_lt _ (by decide)), ← e, show l - i = l - (i + 1) + 1 by omega]
      rfl
  have g := L (l + 1) 0 w A.2.1 (by omega) (by omega) hw rfl
  rw [nI_0] at g
  unfold wp_X2_statesAfter
  rw [hM.2.1]
  exact ⟨_, g⟩
theorem s_isIn1 {x : Int32} {i : Nat} (hi : i < 32) : (x >>> (nI i &&& 31)) &&& (1 : Int32) = 1 ↔ (nn x).testBit i = true := by
  have h := s_isIn (x := x) hi
  have q : (x >>> (nI i &&& 31)) &&& (1 : Int32) = 0 ∨ (x >>> (nI i &&& 31)) &&& (1 : Int32) = 1 := by
    rw [nn_eq, nn_eq, nn_and, nn_0, show nn 1 = 1 from by decide, Nat.and_one_is_mod]
    omega
  rcases q with q | q
  · have := h.mp q
    rw [q, this]
    exact ⟨fun z => absurd z (by decide), fun z => absurd z (by decide)⟩
  · refine ⟨fun _ => ?_, fun _ => q⟩
    cases e : (nn x).testBit i with
    | true => rfl
    | false => exact absurd ((h.mpr e).symm.trans q) (by decide)
theorem rr_setAfter {l w : Nat} (hm : m < 4) (hR : HR ν m A) (hv : AV A) (hl : l < 2 ^ 30) (hw : w < 2 ^ 31) (h : ∀ r, nn r = SAf (RA9 A) l w (nn A.2.1) → Qi r) : wp_X11_setAfter ν (nI m) (nI l) (nI w) Qi := by
  obtain ⟨b1, b2, b3, b4⟩ := hR
  have v7 := hv.2.1
  have im : (nI m).toNatClampNeg = m := nI_clamp (by omega)
  have L26 : ∀ (v12 v14 v16 : Int32) (y : Nat) (K : Int32 → Prop), y < 2 ^ 31 → (∀ u, nn u = RA9 A (nn v14) (y % 3) → K u) → ∀ (nf i : Nat) (v : Int32), A.1 - i < nf → i ≤ A.1 → nn v = RCg (fun j => nn (A.2.2.2 j)) (nn v14) (y % 3) i → wpl_X11_setAfter_26 ν v12 (nI y) v14 (nI m) v16 K nf (nI i) v := by
    intro v12 v14 v16 y K hy hK nf
    induction nf with
    | zero => intro i v hk; exact absurd hk (Nat.not_lt_zero _)
    | succ nf ih =>
      intro i v hk hi hV
      have hy3 := Nat.mod_lt y (show 0 < 3 by decide)
      refine ⟨s_in hm (by omega), ?_⟩
      rw [im, b1, nI_leI (by omega) (by omega)]
      refine ⟨fun c => ?_, fun c => ?_⟩
      · rw [show i = A.1 by omega] at hV
        exact hK v hV
      refine ⟨fun z => ?_, fun z => ?_⟩
      · rw [s_isIn1 (by omega)] at z
        rw [nI_1]
        exact ih (i + 1) v (by omega) (by omega) (by rw [RCg, if_neg z]; exact hV)
      · rw [s_isIn1 (by omega)] at z
        rw [show (3 : Int32) = nI 3 from rfl, s_mod (by decide) hy (by decide)]
        refine rr_key ⟨s_in (show _ < 84 by omega) (by omega), ?_⟩
        rw [nI_clamp (by omega), Nat.add_assoc, b4 _ (by omega), nI_1]
        exact ih (i + 1) _ (by omega) (by omega) (by rw [nn_or, RCg, if_pos z, hV])
  have L : ∀ (nf i y : Nat) (x : Int32), l - i < nf → i ≤ l → y < 2 ^ 31 → SAf (RA9 A) (l - i) y (nn x) = SAf (RA9 A) l w (nn A.2.1) → wpl_X11_setAfter_14 ν (nI m) (nI l) Qi nf (nI i) (nI y) x := by
    intro nf
    induction nf with
    | zero => intro i y x hk; exact absurd hk (Nat.not_lt_zero _)
    | succ nf ih =>
      intro i y x hk hi hy e
      refine ⟨fun c => ?_, fun c => ?_⟩
      · rw [nI_leI (by omega) (by omega)] at c
        rw [show l - i = 0 by omega] at e
        exact h x e
      rw [nI_leI (by omega) (by omega)] at c
      have g := L26 (nI i) x (nI l) y (fun u23 => wpl_X11_setAfter_14 ν (nI m) (nI l) Qi nf (nI i + (1 : Int32)) (nI y / (3 : Int32)) u23) hy (fun u hu => ?_) (A.1 + 1) 0 0 (by omega) (by omega) nn_0
      · rw [nI_0] at g
        exact ⟨_, g⟩
      · rw [show (3 : Int32) = nI 3 from rfl, s_div (by decide) hy (by decide), nI_1]
        refine ih (i + 1) (y / 3) u (by omega) (by omega) (by omega) ?_
        rw [hu, ← e, show l - i = l - (i + 1) + 1 by omega]
        rfl
  have g := L (l + 1) 0 w A.2.1 (by omega) (by omega) hw rfl
  rw [nI_0] at g
  refine ⟨s_in hm (by omega), ?_⟩
  rw [im, b2]
  exact ⟨_, g⟩
theorem p3_le {l : Nat} (h : l ≤ 12) : 1 ≤ 3 ^ l ∧ 3 ^ l ≤ 531441 := ⟨Nat.one_le_pow _ _ (by decide), by have := Nat.pow_le_pow_right (show 0 < 3 by decide) h; exact this⟩
theorem e_codes {l : Nat} (hl : l ≤ 12) (h : Qi (nI (3 ^ l))) : wp_X9_countCodes (nI l) Qi := by
  have L : ∀ (nf i : Nat), l - i < nf → i ≤ l → wpl_X9_countCodes_4 (nI l) Qi nf (nI i) (nI (3 ^ i)) := by
    intro nf
    induction nf with
    | zero => intro i hk; exact absurd hk (Nat.not_lt_zero _)
    | succ nf ih =>
      intro i hk hi
      refine ⟨fun c => ?_, fun c => ?_⟩
      · rw [nI_leI (by omega) (by omega)] at c
        rw [show i = l by omega]
        exact h
      rw [nI_leI (by omega) (by omega)] at c
      rw [show (3 : Int32) = nI 3 from rfl, s_mul, ← Nat.pow_succ, nI_1]
      exact ih (i + 1) (by omega) (by omega)
  exact ⟨_, L (l + 1) 0 (by omega) (by omega)⟩
theorem rr_power {l : Nat} (hl : l ≤ 12) (h : Qi (nI (3 ^ l))) : wp_X11_power (nI l) Qi := by
  have L : ∀ (nf i : Nat), l - i < nf → i ≤ l → wpl_X11_power_4 (nI l) Qi nf (nI i) (nI (3 ^ i)) := by
    intro nf
    induction nf with
    | zero => intro i hk; exact absurd hk (Nat.not_lt_zero _)
    | succ nf ih =>
      intro i hk hi
      refine ⟨fun c => ?_, fun c => ?_⟩
      · rw [nI_leI (by omega) (by omega)] at c
        rw [show i = l by omega]
        exact h
      rw [nI_leI (by omega) (by omega)] at c
      rw [show (3 : Int32) = nI 3 from rfl, s_mul, ← Nat.pow_succ, nI_1]
      exact ih (i + 1) (by omega) (by omega)
  exact ⟨_, L (l + 1) 0 (by omega) (by omega)⟩
/-- a word: its length, its code -/
def WRD (x y : Int32) : Prop := ∃ l w : Nat, l ≤ 12 ∧ x = nI l ∧ y = nI w ∧ w < 3 ^ l
theorem e_word {Qv : TMem → Prop} (h : ∀ l w : Nat, l ≤ 12 → a2 = nI l → a3 = nI w → w < 3 ^ l → Qv μ) (hX : ¬ WRD a2 a3 → X "java/lang/IllegalArgumentException" μ) : wp_X9_checkWord μ a2 a3 Qv X := by
  refine e_rng (fun z => ?_) (fun z => hX (fun ⟨l, w, hl, e, _, _⟩ => z (e ▸ IN_nI (by show (0 : Int) ≤ l; omega) (by show (l : Int) ≤ 12; omega) (by omega))))
  obtain ⟨l, e, _, h12⟩ := IN_ex z (by decide)
  have hl : l ≤ 12 := by have h12' : (l : Int) ≤ 12 := h12; omega
  obtain ⟨p1, p2⟩ := p3_le hl
  have e1 : nI (3 ^ l) - (1 : Int32) = nI (3 ^ l - 1) := by rw [show (1 : Int32) = nI 1 from rfl, s_sub (by omega) (by omega)]
  have ei : (nI (3 ^ l - 1)).toInt = ((3 ^ l - 1 : Nat) : Int) := nI_toInt (by omega)
  rw [e]
  refine e_codes hl (e_rng (fun z2 => ?_) (fun z2 => hX (fun ⟨l', w, hl', e', ew, hw⟩ => z2 ?_)))
  · rw [e1, ei] at z2
    obtain ⟨w, ew, _, h2⟩ := IN_ex z2 (by decide)
    exact h l w hl e ew (by omega)
  · cases nI_injS e e' (by omega) (by omega)
    rw [e1, ei, ew]
    exact IN_nI (by show (0 : Int) ≤ w; omega) (by omega) (by omega)
theorem rr_word (h1 : ∀ l w : Nat, l ≤ 12 → a2 = nI l → a3 = nI w → w < 3 ^ l → Qi 1) (h0 : ¬ WRD a2 a3 → Qi 0) : wp_X11_isWord a2 a3 Qi := by
  refine rr_in (fun z => ⟨fun q => absurd q (by decide), fun _ => ?_⟩) (fun z => ⟨fun _ => h0 (fun ⟨l, w, hl, e, _, _⟩ => z (e ▸ IN_nI (by show (0 : Int) ≤ l; omega) (by show (l : Int) ≤ 12; omega) (by omega))), fun q => absurd rfl q⟩)
  obtain ⟨l, e, _, h12⟩ := IN_ex z (by decide)
  have hl : l ≤ 12 := by have h12' : (l : Int) ≤ 12 := h12; omega
  obtain ⟨p1, p2⟩ := p3_le hl
  have e1 : nI (3 ^ l) - (1 : Int32) = nI (3 ^ l - 1) := by rw [show (1 : Int32) = nI 1 from rfl, s_sub (by omega) (by omega)]
  have ei : (nI (3 ^ l - 1)).toInt = ((3 ^ l - 1 : Nat) : Int) := nI_toInt (by omega)
  rw [e]
  refine rr_power hl (rr_in (fun z2 => ⟨fun q => absurd q (by decide), fun _ => ?_⟩) (fun z2 => ⟨fun _ => h0 (fun ⟨l', w, hl', e', ew, hw⟩ => z2 ?_), fun q => absurd rfl q⟩))
  · rw [e1, ei] at z2
    obtain ⟨w, ew, _, h2⟩ := IN_ex z2 (by decide)
    exact h1 l w hl e ew (by omega)
  · cases nI_injS e e' (by omega) (by omega)
    rw [e1, ei, ew]
    exact IN_nI (by show (0 : Int) ≤ w; omega) (by omega) (by omega)
/-- as HPP, of an answer that is yes or no -/
abbrev HPB (P : PP) : Prop := ∀ (k : Int32) (nv : Int64) (μ9 : TMem) (b : Int32) (ν9 : TMem), SIM μ9 ν9 → ν9 0 7 = k → (k = 0 → nv = if b = 0 then 0 else 1) → P k nv μ9 b ν9
theorem phb_ok {S' : Nat → AM} {a' r' k' : Int32} {μ9 ν9 : TMem} {b : Int32} (hP : HPB P) (hv : AVs S') (hc : CSt μ9 S' a' r' k') (hr : RSt ν9 S' a' r' k' 0) : P 0 (if b = 0 then 0 else 1) μ9 b ν9 := hP _ _ _ _ _ ⟨S', a', r', k', 0, hv, hc, hr⟩ hr.thn (fun _ => rfl)
theorem phb_x {S' : Nat → AM} {a' r' k' z : Int32} {μ9 ν9 : TMem} {b : Int32} {nv : Int64} (hP : HPB P) (hv : AVs S') (hc : CSt μ9 S' a' r' k') (hr : RSt ν9 S' a' r' k' z) (hz : z ≠ 0) : P z nv μ9 b ν9 := hP _ _ _ _ _ ⟨S', a', r', k', z, hv, hc, hr⟩ hr.thn (fun e => absurd e hz)
def TKv (A : AM) (l w : Nat) : Int32 := if SAf (RA9 A) l w (nn A.2.1) &&& nn A.2.2.1 = 0 then 0 else 1
theorem ee_takes (hc : CSt μ S a r k) (hv : AVs S) (hok : ∀ m l w, m < 4 → a1 = nI m → l ≤ 12 → a2 = nI l → a3 = nI w → w < 3 ^ l → Q (TKv (S m) l w) μ) (h1 : ¬ M1 a1 → X "java/lang/IndexOutOfBoundsException" μ) (h2 : M1 a1 → ¬ WRD a2 a3 → X "java/lang/IllegalArgumentException" μ) : wp_X9_takes μ a1 a2 a3 Q X := by
  refine e_mach (fun m hm em => e_word (fun l w hl el ew hw => ?_) (fun z => h2 (em ▸ M1_nI hm) z)) h1
  have hM := hc.1 m hm
  have v7 := (hv m hm).2.1
  have tm := tlm hm
  have p2 := (p3_le hl).2
  have g := hok m l w hm em hl el ew hw
  rw [el, ew]
  refine e_statesAfter hM (by omega) (by omega) (by omega) (by omega) (fun x hx => ?_)
  have e : x &&& (S m).2.2.1 = 0 ↔ SAf (RA9 (S m)) l w (nn (S m).2.1) &&& nn (S m).2.2.1 = 0 := by rw [← hx, ← nn_and, nn_eq, nn_0]
  rw [TKv] at g
  rw [hM.2.2.1, e]
  refine ⟨fun z => ⟨Or.inl rfl, ?_⟩, fun z => ⟨Or.inr rfl, ?_⟩⟩
  · rw [if_pos z] at g; exact g
  · rw [if_neg z] at g; exact g
theorem rr_takes (h : RSt ν S a r k t) (hv : AVs S) (hok : ∀ m l w, m < 4 → a1 = nI m → l ≤ 12 → a2 = nI l → a3 = nI w → w < 3 ^ l → ∀ ν9, RSt ν9 S a r k 0 → Q (TKv (S m) l w) ν9) (h1 : ¬ M1 a1 → ∀ b ν9, RSt ν9 S a r k 1 → Q b ν9) (h2 : M1 a1 → ¬ WRD a2 a3 → ∀ b ν9, RSt ν9 S a r k 2 → Q b ν9) : wp_X11_takes ν a1 a2 a3 Q := by
  refine rr_one (fun m hm em => rr_word (fun l w hl el ew hw => th_ok ⟨fun q => absurd rfl q, fun _ => ?_⟩) (fun z => th_2 ⟨fun _ => h2 (em ▸ M1_nI hm) z _ _ (h.thr 2), fun q => absurd q (by decide)⟩)) (fun z => rr_word (fun _ _ _ _ _ _ => th_1 ⟨fun _ => h1 z _ _ (h.thr 1), fun q => absurd q (by decide)⟩) (fun _ => th_1 ⟨fun _ => h1 z _ _ (h.thr 1), fun q => absurd q (by decide)⟩))
  have h0 := h.thr 0
  have hR := h0.1 m hm
  have g := hok m l w hm em hl el ew hw _ h0
  have im : (nI m).toNatClampNeg = m := nI_clamp (by omega)
  have p2 := (p3_le hl).2
  rw [em, el, ew]
  generalize hN : tms ν 0 7 0 = N at *
  refine rr_setAfter hm hR (hv m hm) (by omega) (by omega) (fun x hx => ⟨s_in hm (by omega), ?_⟩)
  have e : x &&& (S m).2.2.1 = 0 ↔ SAf (RA9 (S m)) l w (nn (S m).2.1) &&& nn (S m).2.2.1 = 0 := by rw [← hx, ← nn_and, nn_eq, nn_0]
  rw [TKv] at g
  rw [im, hR.2.2.1, e]
  refine ⟨fun z => ?_, fun z => ?_⟩
  · rw [if_pos z] at g; exact g
  · rw [if_neg z] at g; exact g
theorem gs_takes (hP : HPB P) (h : SIM μ ν) (nv : Int64) : wp_X9_takes μ a1 a2 a3 (fun r μ9 => wp_X11_takes ν a1 a2 a3 (fun b ν9 => P 0 (if r = 0 then 0 else 1) μ9 b ν9)) (fun E μ9 => (E = IOBn ∧ wp_X11_takes ν a1 a2 a3 (fun b ν9 => P 1 nv μ9 b ν9)) ∨ (E = IAEn ∧ wp_X11_takes ν a1 a2 a3 (fun b ν9 => P 2 nv μ9 b ν9))) := by
  obtain ⟨S, a, r, k, t, hv, hc, hr⟩ := h
  refine ee_takes hc hv (fun m l w hm e hl el ew hw => ?_) (fun z => Or.inl ⟨rfl, ?_⟩) (fun w z => Or.inr ⟨rfl, ?_⟩)
  · refine rr_takes hr hv (fun m' l' w' hm' e' hl' el' ew' hw' ν9 r9 => ?_) (fun z => absurd (e ▸ M1_nI hm) z) (fun _ z => absurd ⟨l, w, hl, el, ew, hw⟩ z)
    have p2 := (p3_le hl).2
    have p2' := (p3_le hl').2
    cases nI_injS e e' (by omega) (by omega)
    cases nI_injS el el' (by omega) (by omega)
    cases nI_injS ew ew' (by omega) (by omega)
    exact phb_ok hP hv hc r9
  · exact rr_takes hr hv (fun m' l' w' hm' e' hl' el' ew' hw' ν9 r9 => absurd (e' ▸ M1_nI hm') z) (fun _ b ν9 r9 => phb_x hP hv hc r9 (by decide)) (fun w => absurd w z)
  · exact rr_takes hr hv (fun m' l' w' hm' e' hl' el' ew' hw' ν9 r9 => absurd ⟨l', w', hl', el', ew', hw'⟩ z) (fun w' => absurd w w') (fun _ _ b ν9 r9 => phb_x hP hv hc r9 (by decide))
theorem SIM0 : SIM MU0 NU0 := by
  refine ⟨fun _ => (1, 1, 0, fun _ => 0), 0, 0, 0, 0, fun m hm => ⟨show (1 : Nat) ≤ 1 by decide, show (1 : Nat) ≤ 7 by decide, show nn 1 < 2 ^ 1 by decide, show nn 0 < 2 ^ 1 by decide, fun j _ => show nn 0 < 2 ^ 1 by decide, fun j _ => rfl⟩, ⟨fun m hm => ?_, rfl, rfl, rfl, GB0⟩, ⟨fun m hm => ?_, rfl, rfl, rfl, rfl⟩⟩
  · rcases (show m = 0 ∨ m = 1 ∨ m = 2 ∨ m = 3 by omega) with rfl | rfl | rfl | rfl <;> exact ⟨rfl, rfl, rfl, fun j _ => rfl⟩
  · rcases (show m = 0 ∨ m = 1 ∨ m = 2 ∨ m = 3 by omega) with rfl | rfl | rfl | rfl <;> exact ⟨by decide, by decide, rfl, fun j _ => rfl⟩
end SIMT
