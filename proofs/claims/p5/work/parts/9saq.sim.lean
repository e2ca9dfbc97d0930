section SIMS
variable {μ ν : TMem} {S : Nat → AM} {a r k t : Int32} {a1 a2 a3 a4 a5 : Int32} {m : Nat} {A : AM}
theorem aC_AV {n : Nat} (h1 : 1 ≤ n) (h7 : n ≤ 7) : AV (aC n) := ⟨h1, h7, by show nn 1 < 2 ^ n; rw [show nn 1 = 1 from by decide]; exact Nat.one_lt_two_pow (by omega), by show nn 0 < 2 ^ n; rw [nn_0]; exact Nat.two_pow_pos n, fun j _ => by show nn 0 < 2 ^ n; rw [nn_0]; exact Nat.two_pow_pos n, fun _ _ => rfl⟩
theorem wW_lt {x b : Int32} {u n : Nat} (hx : nn x < 2 ^ n) (hu : u < n) (hn : n ≤ 7) : nn (wW x u b) < 2 ^ n := by
  rw [wW]
  split
  · rw [nn_and]; exact Nat.lt_of_le_of_lt Nat.and_le_left hx
  · rw [nn_or, nn_two u (by omega)]
    exact Nat.or_lt_two_pow hx (Nat.pow_lt_pow_right (by decide) hu)
theorem aI_AV {i : Nat} {v : Int32} (hv : AV A) (hi : i < 3 * A.1) (h : nn v < 2 ^ A.1) : AV (aI A i v) := by
  obtain ⟨h1, h2, h3, h4, h5, h6⟩ := hv
  refine ⟨h1, h2, h3, h4, fun j hj => ?_, fun j hj => ?_⟩
  · show nn (if j = i then v else A.2.2.2 j) < 2 ^ A.1
    split
    · exact h
    · exact h5 j hj
  · have hj' : 3 * A.1 ≤ j := hj
    show (if j = i then v else A.2.2.2 j) = 0
    rw [if_neg (by omega)]
    exact h6 j hj
theorem aK_AV {g x : Int32} (hv : AV A) (h : nn x < 2 ^ A.1) : AV (aK A g x) := by
  obtain ⟨h1, h2, h3, h4, h5, h6⟩ := hv
  rw [aK]
  split
  · exact ⟨h1, h2, h, h4, h5, h6⟩
  · exact ⟨h1, h2, h3, h, h5, h6⟩
theorem aKv_lt {g : Int32} (hv : AV A) : nn (aKv A g) < 2 ^ A.1 := by
  obtain ⟨h1, h2, h3, h4, h5, h6⟩ := hv
  rw [aKv]
  split <;> assumption
theorem aT_AV (hv : AV A) : AV (aT A) := by
  obtain ⟨v1, v7, vs, vg, vc, vz⟩ := hv
  exact ⟨v1, v7, vg, vs, fun j hj => by
    have hj' : j < 3 * A.1 := hj
    show nn (if j < 3 * A.1 then SRg A.2.2.2 (j / 3) (j % 3) A.1 else 0) < 2 ^ A.1
    rw [if_pos hj']; exact SRg_lt (by omega), fun j hj => by
    have hj' : 3 * A.1 ≤ j := hj
    show (if j < 3 * A.1 then SRg A.2.2.2 (j / 3) (j % 3) A.1 else 0) = 0
    rw [if_neg (by omega)]⟩
theorem grow_AV (hv : AV A) (h7 : A.1 < 7) : AV (A.1 + 1, A.2) := by
  obtain ⟨v1, v7, vs, vg, vc, vz⟩ := hv
  have hp : 2 ^ A.1 ≤ 2 ^ (A.1 + 1) := Nat.pow_le_pow_right (by decide) (by omega)
  refine ⟨by show 1 ≤ A.1 + 1; omega, by show A.1 + 1 ≤ 7; omega, Nat.lt_of_lt_of_le vs hp, Nat.lt_of_lt_of_le vg hp, fun j hj => ?_, fun j hj => vz j (by have hj' : 3 * (A.1 + 1) ≤ j := hj; omega)⟩
  show nn (A.2.2.2 j) < 2 ^ (A.1 + 1)
  by_cases e : j < 3 * A.1
  · exact Nat.lt_of_lt_of_le (vc j e) hp
  · rw [vz j (by omega), nn_0]; exact Nat.two_pow_pos _
theorem aP_AV {o : Option DF} {D : DF} (h : SM7 o D) : AV (aP D) := by
  obtain ⟨_, h7, h1, hT⟩ := h
  refine ⟨h1, h7, by show nn 1 < 2 ^ D.1; rw [show nn 1 = 1 from by decide]; exact Nat.one_lt_two_pow (by omega), s_lt2 (fun i hi => ?_), fun j hj => ?_, fun j hj => ?_⟩
  · have hi' : D.1 ≤ i := hi
    show (nn (gmk D.2.2 D.1)).testBit i = false
    by_cases e : i < 32
    · rw [gmk_bit D.1 (by omega) i, decide_eq_false (by omega)]; rfl
    · exact s_big (nn_lt _) (by omega)
  · have hj' : j < 3 * D.1 := hj
    show nn (if j < 3 * D.1 then (1 : Int32) <<< (nI (D.2.1 j) &&& 31) else 0) < 2 ^ D.1
    have := hT j hj'
    rw [if_pos hj', nn_two _ (by omega)]
    exact Nat.pow_lt_pow_right (by decide) this
  · have hj' : 3 * D.1 ≤ j := hj
    show (if j < 3 * D.1 then (1 : Int32) <<< (nI (D.2.1 j) &&& 31) else 0) = 0
    rw [if_neg (by omega)]
/-- both memories hold the same machines and numbers -/
def SIM (μ ν : TMem) : Prop := ∃ (S : Nat → AM) (a r k t : Int32), AVs S ∧ CSt μ S a r k ∧ RSt ν S a r k t
theorem SIM.ri (h : SIM μ ν) : RI ν := by
  obtain ⟨S, a, r, k, t, hv, hc, hr⟩ := h
  exact hr.ri hv
theorem SIM.gb (h : SIM μ ν) : GB μ := by
  obtain ⟨S, a, r, k, t, hv, hc, hr⟩ := h
  exact hc.2.2.2.2
theorem RSt.thn (h : RSt ν S a r k t) : ν 0 7 = t := h.2.2.2.2
theorem IN_nI {n : Nat} {lo hi : Int} (h1 : lo ≤ n) (h2 : (n : Int) ≤ hi) (h : n < 2 ^ 31) : IN (nI n) lo hi := by
  rw [IN, nI_toInt h]; exact ⟨h1, h2⟩
theorem nI_injS {x : Int32} {m n : Nat} (h : x = nI m) (h' : x = nI n) (hm : m < 2 ^ 31) (hn : n < 2 ^ 31) : m = n := (nI_eq hm hn).mp (h.symm.trans h')
abbrev PP := Int32 → Int64 → TMem → Int32 → TMem → Prop
/-- what must be shown of a call: both memories alike again, both answers the same, or both thrown -/
abbrev HPP (P : PP) : Prop := ∀ (k : Int32) (nv : Int64) (μ9 : TMem) (b : Int32) (ν9 : TMem), SIM μ9 ν9 → ν9 0 7 = k → (k = 0 → nv = b.toInt64) → P k nv μ9 b ν9
abbrev IOBn := "java/lang/IndexOutOfBoundsException"
abbrev IAEn := "java/lang/IllegalArgumentException"
abbrev ISEn := "java/lang/IllegalStateException"
variable {P : PP}
theorem ph_ok {S' : Nat → AM} {a' r' k' : Int32} {μ9 ν9 : TMem} {b : Int32} (hP : HPP P) (hv : AVs S') (hc : CSt μ9 S' a' r' k') (hr : RSt ν9 S' a' r' k' 0) : P 0 b.toInt64 μ9 b ν9 := hP _ _ _ _ _ ⟨S', a', r', k', 0, hv, hc, hr⟩ hr.thn (fun _ => rfl)
theorem ph_x {S' : Nat → AM} {a' r' k' z : Int32} {μ9 ν9 : TMem} {b : Int32} {nv : Int64} (hP : HPP P) (hv : AVs S') (hc : CSt μ9 S' a' r' k') (hr : RSt ν9 S' a' r' k' z) (hz : z ≠ 0) : P z nv μ9 b ν9 := hP _ _ _ _ _ ⟨S', a', r', k', z, hv, hc, hr⟩ hr.thn (fun e => absurd e hz)
theorem gs_begin (hP : HPP P) (h : SIM μ ν) (nv : Int64) : wp_X9_begin μ a1 a2 (fun r μ9 => wp_X11_begin ν a1 a2 (fun b ν9 => P 0 r.toInt64 μ9 b ν9)) (fun E μ9 => (E = IOBn ∧ wp_X11_begin ν a1 a2 (fun b ν9 => P 1 nv μ9 b ν9)) ∨ (E = IAEn ∧ wp_X11_begin ν a1 a2 (fun b ν9 => P 2 nv μ9 b ν9))) := by
  obtain ⟨S, a, r, k, t, hv, hc, hr⟩ := h
  have ok : ∀ {m n}, m < 4 → a1 = nI m → a2 = nI n → 1 ≤ n → n ≤ 7 → M1 a1 ∧ IN a2 1 7 := fun hm e e2 n1 n7 => ⟨e ▸ M1_nI hm, e2 ▸ IN_nI (by omega) (by omega) (by omega)⟩
  refine ee_begin hc hv (fun m n hm e e2 n1 n7 μ9 c9 => ?_) (fun z => Or.inl ⟨rfl, ?_⟩) (fun w z => Or.inr ⟨rfl, ?_⟩)
  · refine rr_begin hr hv (fun m' n' hm' e' e2' n1' n7' ν9 r9 => ?_) (fun z => absurd (ok hm e e2 n1 n7).1 z) (fun _ z => absurd (ok hm e e2 n1 n7).2 z)
    cases nI_injS e e' (by omega) (by omega)
    cases nI_injS e2 e2' (by omega) (by omega)
    exact ph_ok hP (hv.up (aC_AV n1 n7)) c9 r9
  · exact rr_begin hr hv (fun m' n' hm' e' e2' n1' n7' ν9 r9 => absurd (ok hm' e' e2' n1' n7').1 z) (fun _ b ν9 r9 => ph_x hP hv hc r9 (by decide)) (fun w => absurd w z)
  · exact rr_begin hr hv (fun m' n' hm' e' e2' n1' n7' ν9 r9 => absurd (ok hm' e' e2' n1' n7').2 z) (fun w' => absurd w w') (fun _ _ b ν9 r9 => ph_x hP hv hc r9 (by decide))
theorem ARG.ok {f s u : Nat} (h : ARG S a1 a2 a3 a4 m f s u) (hv : AVs S) : ARS S a1 a2 a4 ∧ IN a3 0 2 := by
  obtain ⟨hm, e1, e2, e4, e3, hf, hu, hs⟩ := h
  have := (hv m hm).2.1
  exact ⟨⟨m, hm, e1, e2 ▸ STn_nI hf (by omega), e4 ▸ STn_nI hu (by omega)⟩, e3 ▸ IN_nI (by omega) (by omega) (by omega)⟩
theorem ARG.uq {m' f s u f' s' u' : Nat} (h : ARG S a1 a2 a3 a4 m f s u) (h' : ARG S a1 a2 a3 a4 m' f' s' u') (hv : AVs S) : m' = m ∧ f' = f ∧ s' = s ∧ u' = u := by
  obtain ⟨hm, e1, e2, e4, e3, hf, hu, hs⟩ := h
  obtain ⟨hm', e1', e2', e4', e3', hf', hu', hs'⟩ := h'
  have := (hv m hm).2.1
  have := (hv m' hm').2.1
  exact ⟨nI_injS e1' e1 (by omega) (by omega), nI_injS e2' e2 (by omega) (by omega), nI_injS e3' e3 (by omega) (by omega), nI_injS e4' e4 (by omega) (by omega)⟩
theorem gs_arrow (hP : HPP P) (h : SIM μ ν) (nv : Int64) : wp_X9_arrow μ a1 a2 a3 a4 a5 (fun r μ9 => wp_X11_arrow ν a1 a2 a3 a4 a5 (fun b ν9 => P 0 r.toInt64 μ9 b ν9)) (fun E μ9 => (E = IOBn ∧ wp_X11_arrow ν a1 a2 a3 a4 a5 (fun b ν9 => P 1 nv μ9 b ν9)) ∨ (E = IAEn ∧ wp_X11_arrow ν a1 a2 a3 a4 a5 (fun b ν9 => P 2 nv μ9 b ν9))) := by
  obtain ⟨S, a, r, k, t, hv, hc, hr⟩ := h
  refine ee_arrow hc hv (fun m f s u g μ9 c9 => ?_) (fun z => Or.inl ⟨rfl, ?_⟩) (fun w z => Or.inr ⟨rfl, ?_⟩)
  · refine rr_arrow hr hv (fun m' f' s' u' g' ν9 r9 => ?_) (fun z => absurd (g.ok hv).1 z) (fun _ z => absurd (g.ok hv).2 z)
    obtain ⟨rfl, rfl, rfl, rfl⟩ := g.uq g' hv
    obtain ⟨hm, _, _, _, _, hf, hu, hs⟩ := g
    exact ph_ok hP (hv.up (aI_AV (hv _ hm) (by omega) (wW_lt ((hv _ hm).2.2.2.2.1 _ (by omega)) hu (hv _ hm).2.1))) c9 r9
  · exact rr_arrow hr hv (fun m' f' s' u' g' ν9 r9 => absurd (g'.ok hv).1 z) (fun _ b ν9 r9 => ph_x hP hv hc r9 (by decide)) (fun w => absurd w z)
  · exact rr_arrow hr hv (fun m' f' s' u' g' ν9 r9 => absurd (g'.ok hv).2 z) (fun w' => absurd w w') (fun _ _ b ν9 r9 => ph_x hP hv hc r9 (by decide))
theorem gs_lead (hP : HPP P) (h : SIM μ ν) (nv : Int64) : wp_X9_lead μ a1 a2 a3 a4 (fun r μ9 => wp_X11_lead ν a1 a2 a3 a4 (fun b ν9 => P 0 r.toInt64 μ9 b ν9)) (fun E μ9 => (E = IOBn ∧ wp_X11_lead ν a1 a2 a3 a4 (fun b ν9 => P 1 nv μ9 b ν9)) ∨ (E = IAEn ∧ wp_X11_lead ν a1 a2 a3 a4 (fun b ν9 => P 2 nv μ9 b ν9))) := by
  obtain ⟨S, a, r, k, t, hv, hc, hr⟩ := h
  refine ee_lead hc hv (fun m f s u g μ9 c9 => ?_) (fun z => Or.inl ⟨rfl, ?_⟩) (fun w z => Or.inr ⟨rfl, ?_⟩)
  · refine rr_lead hr hv (fun m' f' s' u' g' ν9 r9 => ?_) (fun z => absurd (g.ok hv).1 z) (fun _ z => absurd (g.ok hv).2 z)
    obtain ⟨rfl, rfl, rfl, rfl⟩ := g.uq g' hv
    obtain ⟨hm, _, _, _, _, hf, hu, hs⟩ := g
    have h7 := (hv _ hm).2.1
    exact ph_ok hP (hv.up (aI_AV (hv _ hm) (by omega) (by rw [nn_two _ (by omega)]; exact Nat.pow_lt_pow_right (by decide) hu))) c9 r9
  · exact rr_lead hr hv (fun m' f' s' u' g' ν9 r9 => absurd (g'.ok hv).1 z) (fun _ b ν9 r9 => ph_x hP hv hc r9 (by decide)) (fun w => absurd w z)
  · exact rr_lead hr hv (fun m' f' s' u' g' ν9 r9 => absurd (g'.ok hv).2 z) (fun w' => absurd w w') (fun _ _ b ν9 r9 => ph_x hP hv hc r9 (by decide))
theorem gs_mark (hP : HPP P) (h : SIM μ ν) (nv : Int64) : wp_X9_mark μ a1 a2 a3 a4 (fun r μ9 => wp_X11_mark ν a1 a2 a3 a4 (fun b ν9 => P 0 r.toInt64 μ9 b ν9)) (fun E μ9 => (E = IOBn ∧ wp_X11_mark ν a1 a2 a3 a4 (fun b ν9 => P 1 nv μ9 b ν9))) := by
  obtain ⟨S, a, r, k, t, hv, hc, hr⟩ := h
  have ok : ∀ {m u : Nat}, m < 4 → a1 = nI m → a2 = nI u → u < (S m).1 → ∃ m, m < 4 ∧ a1 = nI m ∧ STn a2 (S m).1 := fun {m u} hm e e2 hu => ⟨m, hm, e, e2 ▸ STn_nI hu (by have := (hv m hm).2.1; omega)⟩
  refine ee_mark hc hv (fun m u hm e e2 hu μ9 c9 => ?_) (fun z => ⟨rfl, ?_⟩)
  · refine rr_mark hr hv (fun m' u' hm' e' e2' hu' ν9 r9 => ?_) (fun z => absurd (ok hm e e2 hu) z)
    have := (hv m hm).2.1
    have := (hv m' hm').2.1
    cases nI_injS e e' (by omega) (by omega)
    cases nI_injS e2 e2' (by omega) (by omega)
    exact ph_ok hP (hv.up (aK_AV (hv m hm) (wW_lt (aKv_lt (hv m hm)) hu (hv m hm).2.1))) c9 r9
  · exact rr_mark hr hv (fun m' u' hm' e' e2' hu' ν9 r9 => absurd (ok hm' e' e2' hu') z) (fun _ b ν9 r9 => ph_x hP hv hc r9 (by decide))
theorem gs_sow (hP : HPP P) (h : SIM μ ν) (nv : Int64) : wp_X9_sow μ a1 a2 a3 a4 (fun r μ9 => wp_X11_sow ν a1 a2 a3 a4 (fun b ν9 => P 0 r.toInt64 μ9 b ν9)) (fun E μ9 => (E = IOBn ∧ wp_X11_sow ν a1 a2 a3 a4 (fun b ν9 => P 1 nv μ9 b ν9)) ∨ (E = IAEn ∧ wp_X11_sow ν a1 a2 a3 a4 (fun b ν9 => P 2 nv μ9 b ν9))) := by
  obtain ⟨S, a, r, k, t, hv, hc, hr⟩ := h
  have ok : ∀ {m n}, m < 4 → a1 = nI m → a3 = nI n → 1 ≤ n → n ≤ 7 → M1 a1 ∧ IN a3 1 7 := fun hm e e2 n1 n7 => ⟨e ▸ M1_nI hm, e2 ▸ IN_nI (by omega) (by omega) (by omega)⟩
  refine ee_sow hc hv (fun m n hm e e2 n1 n7 i2 i4 μ9 c9 => ?_) (fun z => Or.inl ⟨rfl, ?_⟩) (fun w z => Or.inr ⟨rfl, ?_⟩)
  · refine rr_sow hr hv (fun m' n' hm' e' e2' n1' n7' _ _ ν9 r9 => ?_) (fun z => absurd (ok hm e e2 n1 n7).1 z) (fun _ z => absurd ⟨i2, (ok hm e e2 n1 n7).2, i4⟩ z)
    cases nI_injS e e' (by omega) (by omega)
    cases nI_injS e2 e2' (by omega) (by omega)
    exact ph_ok hP (hv.up (aS_AV n1 n7 i2)) c9 r9
  · exact rr_sow hr hv (fun m' n' hm' e' e2' n1' n7' _ _ ν9 r9 => absurd (ok hm' e' e2' n1' n7').1 z) (fun _ b ν9 r9 => ph_x hP hv hc r9 (by decide)) (fun w => absurd w z)
  · exact rr_sow hr hv (fun m' n' hm' e' e2' n1' n7' i2 i4 ν9 r9 => absurd ⟨i2, (ok hm' e' e2' n1' n7').2, i4⟩ z) (fun w' => absurd w w') (fun _ _ b ν9 r9 => ph_x hP hv hc r9 (by decide))
theorem ONE2_nI {m' : Nat} (hm : m < 4) (hm' : m' < 4) (e : a1 = nI m) (e' : a2 = nI m') : ONE2 a1 a2 := ⟨e ▸ M1_nI hm, e' ▸ M1_nI hm'⟩
theorem gs_copy (hP : HPP P) (h : SIM μ ν) (nv : Int64) : wp_X9_copy μ a1 a2 (fun r μ9 => wp_X11_copy ν a1 a2 (fun b ν9 => P 0 r.toInt64 μ9 b ν9)) (fun E μ9 => (E = IOBn ∧ wp_X11_copy ν a1 a2 (fun b ν9 => P 1 nv μ9 b ν9))) := by
  obtain ⟨S, a, r, k, t, hv, hc, hr⟩ := h
  refine ee_copy hc hv (fun m m' hm hm' e e' v bv μ9 c9 => ?_) (fun z => ⟨rfl, ?_⟩)
  · refine rr_copy hr hv (fun n n' hn hn' f f' v' bv' ν9 r9 => ?_) (fun z => absurd (ONE2_nI hm hm' e e') z)
    cases nI_injS e f (by omega) (by omega)
    cases nI_injS e' f' (by omega) (by omega)
    cases bv.uniq bv'.sym
    exact ph_ok hP (hv.up (hv m hm)) c9 r9
  · exact rr_copy hr hv (fun n n' hn hn' f f' v' bv' ν9 r9 => absurd (ONE2_nI hn hn' f f') z) (fun _ b ν9 r9 => ph_x hP hv hc r9 (by decide))
theorem gs_swap (hP : HPP P) (h : SIM μ ν) (nv : Int64) : wp_X9_swap μ a1 a2 (fun r μ9 => wp_X11_swap ν a1 a2 (fun b ν9 => P 0 r.toInt64 μ9 b ν9)) (fun E μ9 => (E = IOBn ∧ wp_X11_swap ν a1 a2 (fun b ν9 => P 1 nv μ9 b ν9))) := by
  obtain ⟨S, a, r, k, t, hv, hc, hr⟩ := h
  refine ee_swap hc hv (fun m m' hm hm' e e' v bv μ9 c9 => ?_) (fun z => ⟨rfl, ?_⟩)
  · refine rr_swap hr hv (fun n n' hn hn' f f' v' bv' ν9 r9 => ?_) (fun z => absurd (ONE2_nI hm hm' e e') z)
    cases nI_injS e f (by omega) (by omega)
    cases nI_injS e' f' (by omega) (by omega)
    cases bv.uniq bv'
    exact ph_ok hP ((hv.up (hv m' hm')).up (hv m hm)) c9 r9
  · exact rr_swap hr hv (fun n n' hn hn' f f' v' bv' ν9 r9 => absurd (ONE2_nI hn hn' f f') z) (fun _ b ν9 r9 => ph_x hP hv hc r9 (by decide))
theorem gs_turn (hP : HPP P) (h : SIM μ ν) (nv : Int64) : wp_X9_turn μ a1 (fun r μ9 => wp_X11_turn ν a1 (fun b ν9 => P 0 r.toInt64 μ9 b ν9)) (fun E μ9 => (E = IOBn ∧ wp_X11_turn ν a1 (fun b ν9 => P 1 nv μ9 b ν9))) := by
  obtain ⟨S, a, r, k, t, hv, hc, hr⟩ := h
  refine ee_turn hc hv (fun m hm e μ9 c9 => ?_) (fun z => ⟨rfl, ?_⟩)
  · refine rr_turn hr hv (fun n hn f ν9 r9 => ?_) (fun z => absurd (e ▸ M1_nI hm) z)
    cases nI_injS e f (by omega) (by omega)
    exact ph_ok hP (hv.up (aT_AV (hv m hm))) c9 r9
  · exact rr_turn hr hv (fun n hn f ν9 r9 => absurd (f ▸ M1_nI hn) z) (fun _ b ν9 r9 => ph_x hP hv hc r9 (by decide))
theorem gs_other (hP : HPP P) (h : SIM μ ν) (nv : Int64) : wp_X9_other μ a1 (fun r μ9 => wp_X11_other ν a1 (fun b ν9 => P 0 r.toInt64 μ9 b ν9)) (fun E μ9 => (E = IOBn ∧ wp_X11_other ν a1 (fun b ν9 => P 1 nv μ9 b ν9))) := by
  obtain ⟨S, a, r, k, t, hv, hc, hr⟩ := h
  refine ee_other hc hv (fun m hm e g μ9 c9 => ?_) (fun m hm e g μ9 c9 => ?_) (fun z => ⟨rfl, ?_⟩)
  · refine rr_other hr hv (fun n hn f g' ν9 r9 => ?_) (fun n hn f g' ν9 r9 => ?_) (fun z => absurd (e ▸ M1_nI hm) z)
    · cases nI_injS e f (by omega) (by omega)
      exact ph_ok hP (hv.up (aO_AV (hv m hm))) c9 r9
    · cases nI_injS e f (by omega) (by omega)
      exact absurd g g'
  · refine rr_other hr hv (fun n hn f g' ν9 r9 => ?_) (fun n hn f g' ν9 r9 => ?_) (fun z => absurd (e ▸ M1_nI hm) z)
    · cases nI_injS e f (by omega) (by omega)
      exact absurd g' g
    · exact ph_ok hP hv c9 r9
  · exact rr_other hr hv (fun n hn f g ν9 r9 => absurd (f ▸ M1_nI hn) z) (fun n hn f g ν9 r9 => absurd (f ▸ M1_nI hn) z) (fun _ b ν9 r9 => ph_x hP hv hc r9 (by decide))
theorem gs_grow (hP : HPP P) (h : SIM μ ν) (nv : Int64) : wp_X9_grow μ a1 (fun r μ9 => wp_X11_grow ν a1 (fun b ν9 => P 0 r.toInt64 μ9 b ν9)) (fun E μ9 => (E = IOBn ∧ wp_X11_grow ν a1 (fun b ν9 => P 1 nv μ9 b ν9))) := by
  obtain ⟨S, a, r, k, t, hv, hc, hr⟩ := h
  refine ee_grow hc hv (fun m hm e g μ9 c9 => ?_) (fun m hm e g μ9 c9 => ?_) (fun z => ⟨rfl, ?_⟩)
  · refine rr_grow hr hv (fun n hn f g' ν9 r9 => ?_) (fun n hn f g' ν9 r9 => ?_) (fun z => absurd (e ▸ M1_nI hm) z)
    · cases nI_injS e f (by omega) (by omega)
      exact ph_ok hP (hv.up (grow_AV (hv m hm) g)) c9 r9
    · cases nI_injS e f (by omega) (by omega)
      exact absurd g g'
  · refine rr_grow hr hv (fun n hn f g' ν9 r9 => ?_) (fun n hn f g' ν9 r9 => ?_) (fun z => absurd (e ▸ M1_nI hm) z)
    · cases nI_injS e f (by omega) (by omega)
      exact absurd g' g
    · exact ph_ok hP hv c9 r9
  · exact rr_grow hr hv (fun n hn f g ν9 r9 => absurd (f ▸ M1_nI hn) z) (fun n hn f g ν9 r9 => absurd (f ▸ M1_nI hn) z) (fun _ b ν9 r9 => ph_x hP hv hc r9 (by decide))
theorem gs_drop (hP : HPP P) (h : SIM μ ν) (nv : Int64) : wp_X9_drop μ a1 a2 (fun r μ9 => wp_X11_drop ν a1 a2 (fun b ν9 => P 0 r.toInt64 μ9 b ν9)) (fun E μ9 => (E = IOBn ∧ wp_X11_drop ν a1 a2 (fun b ν9 => P 1 nv μ9 b ν9))) := by
  obtain ⟨S, a, r, k, t, hv, hc, hr⟩ := h
  have ok : ∀ {m u : Nat}, m < 4 → a1 = nI m → u < (S m).1 → a2 = nI u → ∃ m, m < 4 ∧ a1 = nI m ∧ STn a2 (S m).1 := fun {m u} hm e hu e2 => ⟨m, hm, e, e2 ▸ STn_nI hu (by have := (hv m hm).2.1; omega)⟩
  have uq : ∀ {m u m' u' : Nat}, m < 4 → a1 = nI m → u < (S m).1 → a2 = nI u → m' < 4 → a1 = nI m' → u' < (S m').1 → a2 = nI u' → m' = m ∧ u' = u := fun {m u m' u'} hm e hu e2 hm' e' hu' e2' => by
    have := (hv m hm).2.1
    have := (hv m' hm').2.1
    exact ⟨nI_injS e' e (by omega) (by omega), nI_injS e2' e2 (by omega) (by omega)⟩
  refine ee_drop hc hv (fun m u hm e hu e2 g μ9 c9 => ?_) (fun m u hm e hu e2 g μ9 c9 => ?_) (fun z => ⟨rfl, ?_⟩)
  · refine rr_drop hr hv (fun m' u' hm' e' hu' e2' g' ν9 r9 => ?_) (fun m' u' hm' e' hu' e2' g' ν9 r9 => ?_) (fun z => absurd (ok hm e hu e2) z)
    · obtain ⟨rfl, rfl⟩ := uq hm e hu e2 hm' e' hu' e2'
      exact ph_ok hP (hv.up (aD_AV (hv _ hm) hu g)) c9 r9
    · obtain ⟨rfl, rfl⟩ := uq hm e hu e2 hm' e' hu' e2'
      exact absurd g' g
  · refine rr_drop hr hv (fun m' u' hm' e' hu' e2' g' ν9 r9 => ?_) (fun m' u' hm' e' hu' e2' g' ν9 r9 => ?_) (fun z => absurd (ok hm e hu e2) z)
    · obtain ⟨rfl, rfl⟩ := uq hm e hu e2 hm' e' hu' e2'
      exact absurd g g'
    · exact ph_ok hP hv c9 r9
  · exact rr_drop hr hv (fun m' u' hm' e' hu' e2' g' ν9 r9 => absurd (ok hm' e' hu' e2') z) (fun m' u' hm' e' hu' e2' g' ν9 r9 => absurd (ok hm' e' hu' e2') z) (fun _ b ν9 r9 => ph_x hP hv hc r9 (by decide))
theorem SM7.uq {o : Option DF} {D D' : DF} (h : SM7 o D) (h' : SM7 o D') : D' = D := by
  have := h'.1.symm.trans h.1
  cases this
  rfl
theorem gs_make (hP : HPP P) (h : SIM μ ν) (nv : Int64) : wp_X9_make μ a1 a2 a3 (fun r μ9 => wp_X11_make ν a1 a2 a3 (fun b ν9 => P 0 r.toInt64 μ9 b ν9)) (fun E μ9 => (E = IOBn ∧ wp_X11_make ν a1 a2 a3 (fun b ν9 => P 1 nv μ9 b ν9))) := by
  obtain ⟨S, a, r, k, t, hv, hc, hr⟩ := h
  refine ee_make hc hv (fun m m' D hm hm' e e' g μ9 c9 => ?_) (fun m m' hm hm' e e' g μ9 c9 => ?_) (fun z => ⟨rfl, ?_⟩)
  · refine rr_make hr hv (fun n n' D' hn hn' f f' g' ν9 r9 => ?_) (fun n n' hn hn' f f' g' ν9 r9 => ?_) (fun z => absurd (ONE2_nI hm hm' e e') z)
    · cases nI_injS e f (by omega) (by omega)
      cases nI_injS e' f' (by omega) (by omega)
      cases g.uq g'
      exact ph_ok hP (hv.up (aP_AV g)) c9 r9
    · cases nI_injS e f (by omega) (by omega)
      exact absurd g.2.1 (g' _ g.1)
  · refine rr_make hr hv (fun n n' D' hn hn' f f' g' ν9 r9 => ?_) (fun n n' hn hn' f f' g' ν9 r9 => ?_) (fun z => absurd (ONE2_nI hm hm' e e') z)
    · cases nI_injS e f (by omega) (by omega)
      exact absurd g'.2.1 (g _ g'.1)
    · exact ph_ok hP hv c9 r9
  · exact rr_make hr hv (fun n n' D' hn hn' f f' g' ν9 r9 => absurd (ONE2_nI hn hn' f f') z) (fun n n' hn hn' f f' g' ν9 r9 => absurd (ONE2_nI hn hn' f f') z) (fun _ b ν9 r9 => ph_x hP hv hc r9 (by decide))
theorem gs_combine (hP : HPP P) (h : SIM μ ν) (nv : Int64) : wp_X9_combine μ a1 a2 a3 a4 (fun r μ9 => wp_X11_combine ν a1 a2 a3 a4 (fun b ν9 => P 0 r.toInt64 μ9 b ν9)) (fun E μ9 => (E = IOBn ∧ wp_X11_combine ν a1 a2 a3 a4 (fun b ν9 => P 1 nv μ9 b ν9)) ∨ (E = IAEn ∧ wp_X11_combine ν a1 a2 a3 a4 (fun b ν9 => P 2 nv μ9 b ν9))) := by
  obtain ⟨S, a, r, k, t, hv, hc, hr⟩ := h
  have ok : ∀ {m m' mi w : Nat}, m < 4 → m' < 4 → mi < 4 → a1 = nI m → a2 = nI m' → a4 = nI mi → a3 = nI w → w ≤ 3 → (ONE2 a1 a2 ∧ M1 a4) ∧ IN a3 0 3 := fun hm hm' hmi e e' ei ew hw => ⟨⟨ONE2_nI hm hm' e e', ei ▸ M1_nI hmi⟩, ew ▸ IN_nI (by omega) (by omega) (by omega)⟩
  refine ee_combine hc hv (fun m m' mi w D hm hm' hmi e e' ei ew hw g μ9 c9 => ?_) (fun m m' mi w hm hm' hmi e e' ei ew hw g μ9 c9 => ?_) (fun z => Or.inl ⟨rfl, ?_⟩) (fun w z => Or.inr ⟨rfl, ?_⟩)
  · refine rr_combine hr hv (fun n n' ni x D' hn hn' hni f f' fi fx hx g' ν9 r9 => ?_) (fun n n' ni x hn hn' hni f f' fi fx hx g' ν9 r9 => ?_) (fun z => absurd (ok hm hm' hmi e e' ei ew hw).1 z) (fun _ z => absurd (ok hm hm' hmi e e' ei ew hw).2 z)
    · cases nI_injS e f (by omega) (by omega)
      cases nI_injS e' f' (by omega) (by omega)
      cases nI_injS ei fi (by omega) (by omega)
      cases nI_injS ew fx (by omega) (by omega)
      cases g.uq g'
      exact ph_ok hP (hv.up (aP_AV g)) c9 r9
    · cases nI_injS e f (by omega) (by omega)
      cases nI_injS e' f' (by omega) (by omega)
      cases nI_injS ew fx (by omega) (by omega)
      exact absurd g.2.1 (g' _ g.1)
  · refine rr_combine hr hv (fun n n' ni x D' hn hn' hni f f' fi fx hx g' ν9 r9 => ?_) (fun n n' ni x hn hn' hni f f' fi fx hx g' ν9 r9 => ?_) (fun z => absurd (ok hm hm' hmi e e' ei ew hw).1 z) (fun _ z => absurd (ok hm hm' hmi e e' ei ew hw).2 z)
    · cases nI_injS e f (by omega) (by omega)
      cases nI_injS e' f' (by omega) (by omega)
      cases nI_injS ew fx (by omega) (by omega)
      exact absurd g'.2.1 (g _ g'.1)
    · exact ph_ok hP hv c9 r9
  · exact rr_combine hr hv (fun n n' ni x D' hn hn' hni f f' fi fx hx g' ν9 r9 => absurd (ok hn hn' hni f f' fi fx hx).1 z) (fun n n' ni x hn hn' hni f f' fi fx hx g' ν9 r9 => absurd (ok hn hn' hni f f' fi fx hx).1 z) (fun _ b ν9 r9 => ph_x hP hv hc r9 (by decide)) (fun w => absurd w z)
  · exact rr_combine hr hv (fun n n' ni x D' hn hn' hni f f' fi fx hx g' ν9 r9 => absurd (ok hn hn' hni f f' fi fx hx).2 z) (fun n n' ni x hn hn' hni f f' fi fx hx g' ν9 r9 => absurd (ok hn hn' hni f f' fi fx hx).2 z) (fun w' => absurd w w') (fun _ _ b ν9 r9 => ph_x hP hv hc r9 (by decide))
end SIMS
