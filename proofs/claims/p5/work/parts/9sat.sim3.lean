section SIMU
variable {μ ν : TMem} {S : Nat → AM} {a r k t : Int32} {a1 a2 a3 a4 a5 : Int32} {m : Nat} {A : AM} {D : DF} {Q : Int32 → TMem → Prop} {X : String → TMem → Prop} {Qi : Int32 → Prop} {P : PP}
theorem nI_nn (x : Int32) : nI (nn x) = x := nn_inj (nn_nI (nn_lt x))
theorem nn_is {x : Int32} {n : Nat} (h : nn x = n) : x = nI n := by rw [← h, nI_nn]
/-- a one-way machine's way -/
def DW (D : DF) (x s : Nat) : Nat := D.2.1 (3 * x + s)
theorem e_stateAfter {l w k0 : Nat} (hk : kd k0 = 5) (h : HP μ k0 D) (hl : l < 2 ^ 30) (hw : w < 2 ^ 31) (hQ : Qi (nI (SAf (DW D) l w 0))) : wp_X5_stateAfter k0 μ (nI l) (nI w) Qi := by
  have q := (kd5 hk).2
  obtain ⟨h1, h2, h3, h4, h5, h6⟩ := h
  have L : ∀ (nf i y x : Nat), l - i < nf → i ≤ l → y < 2 ^ 31 → x < D.1 → SAf (DW D) (l - i) y x = SAf (DW D) l w 0 → wpl_X5_stateAfter_8 k0 μ (nI l) Qi nf (nI i) (nI y) (nI x) := by
    intro nf
    induction nf with
    | zero => intro i y x hk; exact absurd hk (Nat.not_lt_zero _)
    | succ nf ih =>
      intro i y x hk hi hy hx e
      have hy3 := Nat.mod_lt y (show 0 < 3 by decide)
      refine ⟨fun c => ?_, fun c => ?_⟩
      · rw [nI_leI (by omega) (by omega)] at c
        rw [show l - i = 0 by omega] at e
        rw [← e] at hQ
        exact hQ
      rw [nI_leI (by omega) (by omega)] at c
      rw [show (3 : Int32) = nI 3 from rfl, s_mod (by decide) hy (by decide), s_div (by decide) hy (by decide), nI_1]
      refine e_atN (by omega) ?_
      rw [h5 _ (by omega)]
      refine ih (i + 1) (y / 3) _ (by omega) (by omega) (by omega) (h3 _ (by omega)) ?_
      rw [← e, show l - i = l - (i + 1) + 1 by omega]
      rfl
  have g := L (l + 1) 0 w 0 (by omega) (by omega) hw (by omega) rfl
  rw [nI_0] at g
  exact ⟨_, g⟩
theorem rr_stateAfter {l w nf : Nat} {f : Nat → Int32} (h : HF nf f D) (hl : l < 2 ^ 30) (hw : w < 2 ^ 31) (hQ : Q (nI (SAf (DW D) l w 0)) ν) : ∃ z, wpl_X11_after_88_28 ν f nf (nI l) Q z 0 (nI w) 0 := by
  obtain ⟨h1, h2, h3, h4, h5, h6⟩ := h
  have L : ∀ (z i y x : Nat), l - i < z → i ≤ l → y < 2 ^ 31 → x < D.1 → SAf (DW D) (l - i) y x = SAf (DW D) l w 0 → wpl_X11_after_88_28 ν f nf (nI l) Q z (nI i) (nI y) (nI x) := by
    intro z
    induction z with
    | zero => intro i y x hk; exact absurd hk (Nat.not_lt_zero _)
    | succ z ih =>
      intro i y x hk hi hy hx e
      have hy3 := Nat.mod_lt y (show 0 < 3 by decide)
      refine ⟨fun c => ?_, fun c => ?_⟩
      · rw [nI_leI (by omega) (by omega)] at c
        rw [show l - i = 0 by omega] at e
        rw [← e] at hQ
        exact hQ
      rw [nI_leI (by omega) (by omega)] at c
      have p4 : (4 : Int32) * nI x + nI (y % 3) = nI (4 * x + y % 3) := by rw [show (4 : Int32) = nI 4 from rfl, s_mul, nI_add]
      rw [show (3 : Int32) = nI 3 from rfl, s_mod (by decide) hy (by decide), s_div (by decide) hy (by decide), nI_1, p4, nI_clamp (by omega), h5 _ _ hx hy3]
      refine ⟨s_in (by omega) (by omega), ih (i + 1) (y / 3) _ (by omega) (by omega) (by omega) (h3 _ (by omega)) ?_⟩
      rw [← e, show l - i = l - (i + 1) + 1 by omega]
      rfl
  have g := L (l + 1) 0 w 0 (by omega) (by omega) hw (by omega) rfl
  rw [nI_0] at g
  exact ⟨_, g⟩
/-- what after tells -/
def AFV (A : AM) (h : Int32) (l w : Nat) : Option Int32 := if h = 0 then some (nI (SAf (RA9 A) l w (nn A.2.1))) else (if h = 1 then OWM A else LSM A).map (fun D => nI (SAf (DW D) l w 0))
abbrev WDD (x y : Int32) (l w : Nat) : Prop := l ≤ 12 ∧ x = nI l ∧ y = nI w ∧ w < 3 ^ l
theorem ee_after (hc : CSt μ S a r k) (hv : AVs S) (hok : ∀ m l w v, m < 4 → a1 = nI m → WDD a2 a3 l w → IN a4 0 2 → AFV (S m) a4 l w = some v → ∀ μ9, CSt μ9 S a r k → Q v μ9) (h1 : ¬ M1 a1 → X "java/lang/IndexOutOfBoundsException" μ) (h2 : M1 a1 → ¬ (WRD a2 a3 ∧ IN a4 0 2) → X "java/lang/IllegalArgumentException" μ) (h3 : ∀ m l w, m < 4 → a1 = nI m → WDD a2 a3 l w → IN a4 0 2 → AFV (S m) a4 l w = none → ∀ μ9, CSt μ9 S a r k → X "java/lang/IllegalStateException" μ9) : wp_X9_after μ a1 a2 a3 a4 Q X := by
  refine e_mach (fun m hm em => e_word (fun l w hl el ew hw => e_rng (fun z4 => ?_) (fun z => h2 (em ▸ M1_nI hm) (fun q => z q.2))) (fun z => h2 (em ▸ M1_nI hm) (fun q => z q.1))) h1
  have hM := hc.1 m hm
  have v7 := (hv m hm).2.1
  have tm := tlm hm
  have p2 := (p3_le hl).2
  have hok' := hok m l w
  have h3' := h3 m l w hm em ⟨hl, el, ew, hw⟩ z4
  have hok2 := fun v => hok' v hm em ⟨hl, el, ew, hw⟩ z4
  have go : ∀ (D : DF) (μ7 : TMem), AFV (S m) a4 l w = some (nI (SAf (DW D) l w 0)) → HP μ7 57 D → ZF μ μ7 → wp_X5_stateAfter 57 μ7 a2 a3 (fun r8 => Q r8 μ7) := fun D μ7 e hP hz => by
    rw [el, ew]
    exact e_stateAfter rfl hP (by omega) (by omega) (hok2 _ e μ7 (hc.keep hz))
  refine ⟨fun n0 => ⟨fun n1 => ?_, fun e => ?_⟩, fun e => ?_⟩
  · have ea : AFV (S m) a4 l w = (LSM (S m)).map (fun D => nI (SAf (DW D) l w 0)) := by rw [AFV, if_neg n0, if_neg n1]
    refine e_makeBy0 (kdm hm) (k2 := 57) rfl (by decide) hM (by omega) (by omega) (fun D μ7 e hP hz => ⟨fun _ => go D μ7 (by rw [ea, e]; rfl) hP hz, fun q => absurd q (by decide)⟩) (fun e μ7 hz => ⟨fun q => absurd rfl q, fun _ => h3' (by rw [ea, e]; rfl) μ7 (hc.keep hz)⟩)
  · have ea : AFV (S m) a4 l w = (OWM (S m)).map (fun D => nI (SAf (DW D) l w 0)) := by rw [AFV, if_neg n0, if_pos e]
    refine e_makeBy3 (kdm hm) (k2 := 57) rfl hM (by omega) (by omega) (fun D μ7 e hP hz => ⟨fun _ => go D μ7 (by rw [ea, e]; rfl) hP hz, fun q => absurd q (by decide)⟩) (fun e μ7 hz => ⟨fun q => absurd rfl q, fun _ => h3' (by rw [ea, e]; rfl) μ7 (hc.keep hz)⟩)
  · rw [el, ew]
    refine e_statesAfter hM (by omega) (by omega) (by omega) (by omega) (fun x hx => ?_)
    rw [nn_is hx]
    exact hok2 _ (by rw [AFV, if_pos e]) μ hc
theorem rr_after (h : RSt ν S a r k t) (hv : AVs S) (hok : ∀ m l w v, m < 4 → a1 = nI m → WDD a2 a3 l w → IN a4 0 2 → AFV (S m) a4 l w = some v → ∀ ν9, RSt ν9 S a r k 0 → Q v ν9) (h1 : ¬ M1 a1 → ∀ b ν9, RSt ν9 S a r k 1 → Q b ν9) (h2 : M1 a1 → ¬ (WRD a2 a3 ∧ IN a4 0 2) → ∀ b ν9, RSt ν9 S a r k 2 → Q b ν9) (h3 : ∀ m l w, m < 4 → a1 = nI m → WDD a2 a3 l w → IN a4 0 2 → AFV (S m) a4 l w = none → ∀ b ν9, RSt ν9 S a r k 3 → Q b ν9) : wp_X11_after ν a1 a2 a3 a4 Q := by
  refine rr_one (fun m hm em => rr_word (fun l w hl el ew hw => fun J hJ => ⟨fun q => absurd q (by decide), fun _ => rr_in (fun z4 => ⟨fun q => absurd q (by decide), fun _ => hJ _ (th_ok ⟨fun _ => ?_, fun q => absurd rfl q⟩)⟩) (fun z => ⟨fun _ => hJ _ (th_2 ⟨fun q => absurd q (by decide), fun _ => h2 (em ▸ M1_nI hm) (fun q => z q.2) _ _ (h.thr 2)⟩), fun q => absurd rfl q⟩)⟩) (fun z => fun J hJ => ⟨fun _ => hJ _ (th_2 ⟨fun q => absurd q (by decide), fun _ => h2 (em ▸ M1_nI hm) (fun q => z q.1) _ _ (h.thr 2)⟩), fun q => absurd rfl q⟩)) (fun z => ?_)
  · have h0 := h.thr 0
    have hR := h0.1 m hm
    have hok2 := fun v => hok m l w v hm em ⟨hl, el, ew, hw⟩ z4
    have h3' := h3 m l w hm em ⟨hl, el, ew, hw⟩ z4
    have p2 := (p3_le hl).2
    rw [em, el, ew]
    generalize hN : tms ν 0 7 0 = N at *
    refine ⟨fun n0 J9 hJ9 => ?_, fun e => ?_⟩
    · refine ⟨fun n1 => hJ9 _ ?_, fun e => hJ9 _ ?_⟩
      · have ea : AFV (S m) a4 l w = (LSM (S m)).map (fun D => nI (SAf (DW D) l w 0)) := by rw [AFV, if_neg n0, if_neg n1]
        refine rr_found0 hm hR (hv m hm) (fun D nf g e hF => ⟨(fun z => nomatch z), fun n6 f7 z => ?_⟩) (fun e => ⟨fun _ => ⟨fun q => absurd q (by decide), fun _ => h3' (by rw [ea, e]; rfl) _ _ (h0.thr 3)⟩, (fun _ _ z => nomatch z)⟩)
        cases z
        exact ⟨fun _ => rr_stateAfter hF (by omega) (by omega) (hok2 _ (by rw [ea, e]; rfl) _ (h0.thr 0)), fun q => absurd rfl q⟩
      · have ea : AFV (S m) a4 l w = (OWM (S m)).map (fun D => nI (SAf (DW D) l w 0)) := by rw [AFV, if_neg n0, if_pos e]
        refine rr_found3 hm hR (hv m hm) (fun D nf g e hF => ⟨(fun z => nomatch z), fun n6 f7 z => ?_⟩) (fun e => ⟨fun _ => ⟨fun q => absurd q (by decide), fun _ => h3' (by rw [ea, e]; rfl) _ _ (h0.thr 3)⟩, (fun _ _ z => nomatch z)⟩)
        cases z
        exact ⟨fun _ => rr_stateAfter hF (by omega) (by omega) (hok2 _ (by rw [ea, e]; rfl) _ (h0.thr 0)), fun q => absurd rfl q⟩
    · refine rr_setAfter hm hR (hv m hm) (by omega) (by omega) (fun x hx => ?_)
      rw [nn_is hx]
      exact hok2 _ (by rw [AFV, if_pos e]) _ h0
  · have bad : ∀ j4 : Int32, wp_X11_isThrown ν 0 j4 (fun (r6 : Int32) (μ5 : TMem) => (r6 = 0 → ((¬ a4 = 0 → (∀ J9 : Int32 → Prop, (∀ (j10 : Int32), (wp_X11_found μ5 a1 j10 (fun (r37 : Option AI) => (r37 = none → (wp_X11_isCrowded_n μ5 (3 : Int32) (fun (r17 : Int32) (μ16 : TMem) => (r17 = 0 → (∃ n18x, wpl_X11_after_88 μ16 a2 Q n18x (0 : Int32) a3 (0 : Int32))) ∧ (¬ r17 = 0 → (Q (0 : Int32) μ16))))) ∧ (∀ (n14 : Nat) (f15 : Nat → Int32), r37 = some (n14, f15) → (wp_X11_isCrowded μ5 n14 f15 (3 : Int32) (fun (r27 : Int32) (μ26 : TMem) => (r27 = 0 → (∃ n28x, wpl_X11_after_88_28 μ26 f15 n14 a2 Q n28x (0 : Int32) a3 (0 : Int32))) ∧ (¬ r27 = 0 → (Q (0 : Int32) μ26))))))) → J9 j10) → ((¬ a4 = (1 : Int32) → (J9 (0 : Int32))) ∧ (a4 = (1 : Int32) → (J9 (3 : Int32)))))) ∧ (a4 = 0 → (wp_X11_setAfter μ5 a1 a2 a3 (fun (r41 : Int32) => Q r41 μ5))))) ∧ (¬ r6 = 0 → (Q (0 : Int32) μ5))) := fun j4 => th_1 ⟨fun q => absurd q (by decide), fun _ => h1 z _ _ (h.thr 1)⟩
    refine rr_word (fun l w hl el ew hw => fun J hJ => ⟨fun q => absurd q (by decide), fun _ => rr_in (fun z4 => ⟨fun q => absurd q (by decide), fun _ => hJ _ (bad _)⟩) (fun z => ⟨fun _ => hJ _ (bad _), fun q => absurd rfl q⟩)⟩) (fun z => fun J hJ => ⟨fun _ => hJ _ (bad _), fun q => absurd rfl q⟩)
theorem WDD.wrd {l w : Nat} (h : WDD a2 a3 l w) : WRD a2 a3 := ⟨l, w, h⟩
theorem WDD.uq {l w l' w' : Nat} (h : WDD a2 a3 l w) (h' : WDD a2 a3 l' w') : l' = l ∧ w' = w := by
  obtain ⟨hl, el, ew, hw⟩ := h
  obtain ⟨hl', el', ew', hw'⟩ := h'
  have p2 := (p3_le hl).2
  have p2' := (p3_le hl').2
  exact ⟨nI_injS el' el (by omega) (by omega), nI_injS ew' ew (by omega) (by omega)⟩
theorem gs_after (hP : HPP P) (h : SIM μ ν) (nv : Int64) : wp_X9_after μ a1 a2 a3 a4 (fun r μ9 => wp_X11_after ν a1 a2 a3 a4 (fun b ν9 => P 0 r.toInt64 μ9 b ν9)) (fun E μ9 => (E = IOBn ∧ wp_X11_after ν a1 a2 a3 a4 (fun b ν9 => P 1 nv μ9 b ν9)) ∨ (E = IAEn ∧ wp_X11_after ν a1 a2 a3 a4 (fun b ν9 => P 2 nv μ9 b ν9)) ∨ (E = ISEn ∧ wp_X11_after ν a1 a2 a3 a4 (fun b ν9 => P 3 nv μ9 b ν9))) := by
  obtain ⟨S, a, r, k, t, hv, hc, hr⟩ := h
  refine ee_after hc hv (fun m l w v hm e hw z4 ev μ9 c9 => ?_) (fun z => Or.inl ⟨rfl, ?_⟩) (fun w z => Or.inr (Or.inl ⟨rfl, ?_⟩)) (fun m l w hm e hw z4 ev μ9 c9 => Or.inr (Or.inr ⟨rfl, ?_⟩))
  · refine rr_after hr hv (fun m' l' w' v' hm' e' hw' z4' ev' ν9 r9 => ?_) (fun z => absurd (e ▸ M1_nI hm) z) (fun _ z => absurd ⟨hw.wrd, z4⟩ z) (fun m' l' w' hm' e' hw' z4' ev' b ν9 r9 => ?_)
    all_goals
      cases nI_injS e e' (by omega) (by omega)
      obtain ⟨rfl, rfl⟩ := hw.uq hw'
      rw [ev] at ev'
      cases ev'
    exact ph_ok hP hv c9 r9
  · exact rr_after hr hv (fun m' l' w' v' hm' e' hw' z4' ev' ν9 r9 => absurd (e' ▸ M1_nI hm') z) (fun _ b ν9 r9 => ph_x hP hv hc r9 (by decide)) (fun w => absurd w z) (fun m' l' w' hm' e' hw' z4' ev' b ν9 r9 => absurd (e' ▸ M1_nI hm') z)
  · exact rr_after hr hv (fun m' l' w' v' hm' e' hw' z4' ev' ν9 r9 => absurd ⟨hw'.wrd, z4'⟩ z) (fun w' => absurd w w') (fun _ _ b ν9 r9 => ph_x hP hv hc r9 (by decide)) (fun m' l' w' hm' e' hw' z4' ev' b ν9 r9 => absurd ⟨hw'.wrd, z4'⟩ z)
  · refine rr_after hr hv (fun m' l' w' v' hm' e' hw' z4' ev' ν9 r9 => ?_) (fun z => absurd (e ▸ M1_nI hm) z) (fun _ z => absurd ⟨hw.wrd, z4⟩ z) (fun m' l' w' hm' e' hw' z4' ev' b ν9 r9 => ph_x hP hv c9 r9 (by decide))
    cases nI_injS e e' (by omega) (by omega)
    obtain ⟨rfl, rfl⟩ := hw.uq hw'
    rw [ev] at ev'
    cases ev'
end SIMU
