/-! a whole text -/
def ptP (T : Nat → Int32) (key : Int32) (s : PRs) : PRs := if s.2.2 then s else if T s.1 = key then (if (pG T 80 0 0 (s.1 + 1)).2.2 then ((pG T 80 0 0 (s.1 + 1)).1, s.2.1 ++ (pG T 80 0 0 (s.1 + 1)).2.1, true) else if T (pG T 80 0 0 (s.1 + 1)).1 = -25 then ((pG T 80 0 0 (s.1 + 1)).1 + 1, s.2.1 ++ (pG T 80 0 0 (s.1 + 1)).2.1, false) else ((pG T 80 0 0 (s.1 + 1)).1, s.2.1 ++ (pG T 80 0 0 (s.1 + 1)).2.1, true)) else (s.1, s.2.1, true)
def rd1 (T : Nat → Int32) : PRs := ptP T (-21) (0, [], false)
def rd2 (T : Nat → Int32) : PRs := ptP T (-22) (rd1 T)
def QQ (N : Nat) (s : PRs) : Prop := s.1 ≤ N ∧ (s.2.2 = false → s.2.1.length ≤ s.1)
theorem ptP_ok {T : Nat → Int32} {N : Nat} (hT : T N = -26) (hok : ∀ i, okTk (T i)) {key : Int32} (hk : key ≠ -26) {s : PRs} (h : QQ N s) : QQ N (ptP T key s) := by
  unfold ptP
  split
  · exact h
  · rename_i e
    have e : s.2.2 = false := Bool.eq_false_iff.mpr e
    split
    · rename_i ek
      have hlt : s.1 < N := by
        by_cases q : s.1 = N
        · rw [q, hT] at ek; exact absurd ek.symm hk
        · have := h.1; omega
      obtain ⟨g1, g2, g3, g4⟩ := pG_ok hT hok 80 0 0 (s.1 + 1) hlt
      have hl := h.2 e
      split
      · exact ⟨g2, fun q => by cases q⟩
      · rename_i e2
        have e2 : (pG T 80 0 0 (s.1 + 1)).2.2 = false := Bool.eq_false_iff.mpr e2
        rw [e2] at g3
        simp only [Bool.false_eq_true, if_false] at g3
        split
        · rename_i e25
          have hlt2 : (pG T 80 0 0 (s.1 + 1)).1 < N := by
            by_cases q : (pG T 80 0 0 (s.1 + 1)).1 = N
            · rw [q, hT] at e25; exact absurd e25 (by decide)
            · omega
          refine ⟨hlt2, fun _ => ?_⟩
          show (s.2.1 ++ (pG T 80 0 0 (s.1 + 1)).2.1).length ≤ (pG T 80 0 0 (s.1 + 1)).1 + 1
          rw [List.length_append]; omega
        · exact ⟨g2, fun q => by cases q⟩
    · exact ⟨h.1, fun q => by cases q⟩
theorem rd1_ok {T : Nat → Int32} {N : Nat} (hT : T N = -26) (hok : ∀ i, okTk (T i)) : QQ N (rd1 T) := ptP_ok hT hok (by decide) ⟨Nat.zero_le _, fun _ => Nat.le_refl _⟩
theorem rd2_ok {T : Nat → Int32} {N : Nat} (hT : T N = -26) (hok : ∀ i, okTk (T i)) : QQ N (rd2 T) := ptP_ok hT hok (by decide) (rd1_ok hT hok)
/-- one part -/
theorem r_part {g : Nat → Nat} {m : Nat} {σ : Sg} {z N : Nat} (H : HH σ z N) {s : PRs} (hs : QQ N s) {S : HSt} (h : RS g m σ z s.1 s.2.1 0 s.2.2 S) {c key : Int32} (hk : key ≠ -26) (hc : ∀ {t' : Int32}, okTk t' → (rtk t' = c ↔ t' = key)) {Post : Unit → HSt → Prop} (hP : ∀ S', RS g m σ z (ptP (TS σ z) key s).1 (ptP (TS σ z) key s).2.1 0 (ptP (TS σ z) key s).2.2 S' → Post () S') : wp_X12_need g m c S (fun _ S29 => wp_G1 g 80 0 m S29 (fun _ S32 => wp_X12_need g m 59 S32 Post)) := by
  have hend : TS σ z N = -26 := tk_end H.2.2.2
  unfold ptP at hP
  have errc : ∀ S1, RS g m σ z s.1 s.2.1 0 true S1 → (∀ S', RS g m σ z s.1 s.2.1 0 true S' → Post () S') → wp_G1 g 80 0 m S1 (fun _ S32 => wp_X12_need g m 59 S32 Post) := fun S1 k hQ => r_err H.1 k 80 0 (by decide) (by decide) _ (r_need H k (t := -25) rtk_se (fun _ => hQ S1 k) (fun e0 => by cases e0) (fun e0 => by cases e0))
  refine r_need H h hc (fun e1 => ?_) (fun e0 ek S1 k1 => ?_) (fun e0 nk S1 k1 => ?_)
  · have h' := h
    rw [e1] at h'
    rw [if_pos e1, e1] at hP
    exact errc S h' hP
  · rw [if_neg (Bool.eq_false_iff.mp e0), if_pos ek] at hP
    have hlt : s.1 < N := by
      by_cases q : s.1 = N
      · rw [q, hend] at ek; exact absurd ek.symm hk
      · have := hs.1; omega
    have hl := hs.2 e0
    refine r_G1 H 80 0 0 (by decide) (by decide) (by decide) (s.1 + 1) s.2.1 S1 _ hlt (by omega) k1 (fun S32 k32 => r_need H k32 (t := -25) rtk_se (fun e1 => ?_) (fun e2 t25 S' k' => ?_) (fun e2 t25 S' k' => ?_))
    · rw [if_pos e1] at hP
      rw [e1] at k32
      exact hP S32 k32
    · rw [if_neg (Bool.eq_false_iff.mp e2), if_pos t25] at hP
      exact hP S' k'
    · rw [if_neg (Bool.eq_false_iff.mp e2), if_neg t25] at hP
      exact hP S' k'
  · rw [if_neg (Bool.eq_false_iff.mp e0), if_neg nk] at hP
    exact errc S1 k1 hP
/-- the part's place is written -/
theorem RS.a228 {g : Nat → Nat} {m : Nat} {σ : Sg} {z i o : Nat} {acc : List (Int32 × Int32)} {e : Bool} {S : HSt} (h : RS g m σ z i acc o e S) (q : Nat) (v : Int32) : RS g m (sD σ 1328 q v) z i acc o e (uA S 228 (g 1328) q v) := by
  refine ⟨h.1.a228 q v, h.2.1, h.2.2.1, h.2.2.2.1, fun j hj => ?_⟩
  have := h.2.2.2.2 j hj
  rw [gA_uA, if_neg (fun y => absurd y.1 (by decide)), gA_uA, if_neg (fun y => absurd y.1 (by decide))]
  exact this
def sg3 (σ : Sg) (S : HSt) (g : Nat → Nat) : Sg := (σ.1, fun f i => if f = 1328 then gA S 228 (g 1328) i else σ.2 f i)
theorem MR.sg3 {g : Nat → Nat} {m : Nat} {S : HSt} {σ : Sg} (h : MR g m S σ) : MR g m S (sg3 σ S g) := by
  refine ⟨h.1, h.2.1, fun q hq j => ?_, fun j hj => h.2.2.2.1 j hj, fun j hj => rfl, h.2.2.2.2.2⟩
  show _ = (if q.1 = 1328 then _ else _)
  rw [if_neg (mpers_no q hq).2.2.1]; exact h.2.2.1 q hq j
/-- the reference's reads -/
theorem r_reads {g : Nat → Nat} {m : Nat} {σ : Sg} {z N : Nat} (H : HH σ z N) {S : HSt} (hM : MR g m S σ) (hs : gI S 1350 m = nI z) {Post : Unit → HSt → Prop} (hP : ∀ S' σ', σ' = sD (sD (sD (sg3 σ S g) 1328 (3 * cN σ 3) 0) 1328 (3 * cN σ 3 + 1) (nI (rd1 (TS σ z)).2.1.length)) 1328 (3 * cN σ 3 + 2) (nI (rd2 (TS σ z)).2.1.length) → RP g m σ' z S' → gI S' 1356 m = (if (rd2 (TS σ z)).2.2 = false ∧ TS σ z (rd2 (TS σ z)).1 = -26 then -1 else nI (PS σ z (rd2 (TS σ z)).1)) → RA g σ (rd2 (TS σ z)).2.1 S' → Post () S') : wp_X12_reads g m (nI (cN σ 3)) S Post := by
  have hz := H.1
  have ht := H.2.2.1
  have hend : TS σ z N = -26 := tk_end H.2.2.2
  intro S1 e1 S4 e4 S7 e7 S10 e10 S13 e13
  have h0 : (0 : Int32) = nI 0 := rfl
  have r0 : RP g m (sg3 σ S g) z S1 := by
    refine ⟨⟨by rw [e1]; exact hM.sg3.pI0 1351 _ , by rw [e1]; exact fun _ => rfl⟩, by rw [e1]; exact hs, by rw [e1, gI_same, if_pos rfl]; rfl⟩
  have r13 : RP g m (sg3 σ S g) z S13 := by
    rw [e13, e10, e7, e4]
    exact (((r0.u 1352 _ (by decide) (by decide)).u 1356 _ (by decide) (by decide)).u 1357 _ (by decide) (by decide)).u 1358 _ (by decide) (by decide)
  have a2 : gI S13 1352 m = nI 0 := by
    rw [e13]; show gI S10 1352 m = _; rw [e10]; show gI S7 1352 m = _; rw [e7]; show gI S4 1352 m = _; rw [e4, gI_same, if_pos rfl]; rfl
  have a6 : gI S13 1356 m = -1 := by
    rw [e13]; show gI S10 1356 m = _; rw [e10]; show gI S7 1356 m = _; rw [e7, gI_same, if_pos rfl]
  have a7 : gI S13 1357 m = nI 0 := by
    rw [e13]; show gI S10 1357 m = _; rw [e10, gI_same, if_pos rfl]; rfl
  have a8 : gI S13 1358 m = nI 0 := by
    rw [e13, gI_same, if_pos rfl]; rfl
  have H3 : HH (sg3 σ S g) z N := H
  refine r_next hz H3.2.1 (p := 0) (Nat.zero_le _) r13 a2 (fun S17 k1 k2 k3 => ⟨3, ?_⟩)
  have k17 : RS g m (sg3 σ S g) z 0 [] 0 false S17 := ⟨k1, (k2.2 1356 (by decide) (by decide) (by decide) (by decide)).trans a6, fun _ => ⟨(k2.2 1357 (by decide) (by decide) (by decide) (by decide)).trans a7, k3⟩, (k2.2 1358 (by decide) (by decide) (by decide) (by decide)).trans a8, fun j hj => absurd hj (Nat.not_lt_zero j)⟩
  -- the first part
  have i0 : (3 : Int32) * nI (cN σ 3) + 0 = nI (3 * cN σ 3) := eq_add (eq_mul (k := 3) rfl) (j := 0) rfl
  have i1 : (3 : Int32) * nI (cN σ 3) + 1 = nI (3 * cN σ 3 + 1) := eq_add (eq_mul (k := 3) rfl) (j := 1) rfl
  have i2 : (3 : Int32) * nI (cN σ 3) + 2 = nI (3 * cN σ 3 + 2) := eq_add (eq_mul (k := 3) rfl) (j := 2) rfl
  refine ⟨fun q => absurd q (by decide), fun _ => ?_⟩
  rw [i0, nI_clamp (by omega)]
  refine ⟨vp_in_nI (by omega) (by decide), fun S25 e25 => ?_⟩
  have k25 : RS g m (sD (sg3 σ S g) 1328 (3 * cN σ 3) 0) z 0 [] 0 false S25 := by
    rw [e25, k17.2.2.2.1]; exact k17.a228 _ _
  refine r_part (σ := sD (sg3 σ S g) 1328 (3 * cN σ 3) 0) (s := (0, [], false)) (c := 300) H3 ⟨Nat.zero_le _, fun _ => Nat.le_refl _⟩ k25 (key := -21) (by decide) rtk_lay (fun S35 k35 v37 e37 => ?_)
  have k35 : RS g m (sD (sg3 σ S g) 1328 (3 * cN σ 3) 0) z (rd1 (TS σ z)).1 (rd1 (TS σ z)).2.1 0 (rd1 (TS σ z)).2.2 S35 := k35
  subst e37
  refine ⟨fun q => absurd q (by decide), fun _ => ?_⟩
  rw [show (0 : Int32) + 1 = 1 from by decide, i1, nI_clamp (by omega)]
  refine ⟨vp_in_nI (by omega) (by decide), fun S25' e25' => ?_⟩
  have k25' : RS g m (sD (sD (sg3 σ S g) 1328 (3 * cN σ 3) 0) 1328 (3 * cN σ 3 + 1) (nI (rd1 (TS σ z)).2.1.length)) z (rd1 (TS σ z)).1 (rd1 (TS σ z)).2.1 0 (rd1 (TS σ z)).2.2 S25' := by
    rw [e25', k35.2.2.2.1]; exact k35.a228 _ _
  refine r_part (σ := sD (sD (sg3 σ S g) 1328 (3 * cN σ 3) 0) 1328 (3 * cN σ 3 + 1) (nI (rd1 (TS σ z)).2.1.length)) (s := rd1 (TS σ z)) (c := 301) H3 (rd1_ok hend (TS_ok σ z)) k25' (key := -22) (by decide) rtk_off (fun S36 k36 v38 e38 => ?_)
  have k36 : RS g m (sD (sD (sg3 σ S g) 1328 (3 * cN σ 3) 0) 1328 (3 * cN σ 3 + 1) (nI (rd1 (TS σ z)).2.1.length)) z (rd2 (TS σ z)).1 (rd2 (TS σ z)).2.1 0 (rd2 (TS σ z)).2.2 S36 := k36
  subst e38
  refine ⟨fun _ => ?_, fun q => absurd (by decide) q⟩
  rw [i2, nI_clamp (by omega)]
  refine ⟨vp_in_nI (by omega) (by decide), fun S42 e42 => ?_⟩
  have k42 : RS g m (sD (sD (sD (sg3 σ S g) 1328 (3 * cN σ 3) 0) 1328 (3 * cN σ 3 + 1) (nI (rd1 (TS σ z)).2.1.length)) 1328 (3 * cN σ 3 + 2) (nI (rd2 (TS σ z)).2.1.length)) z (rd2 (TS σ z)).1 (rd2 (TS σ z)).2.1 0 (rd2 (TS σ z)).2.2 S42 := by
    rw [e42, k36.2.2.2.1]; exact k36.a228 _ _
  refine r_need (σ := sD (sD (sD (sg3 σ S g) 1328 (3 * cN σ 3) 0) 1328 (3 * cN σ 3 + 1) (nI (rd1 (TS σ z)).2.1.length)) 1328 (3 * cN σ 3 + 2) (nI (rd2 (TS σ z)).2.1.length)) (N := N) H3 k42 (t := -26) rtk_en (fun e => hP S42 _ rfl k42.1 ?_ k42.2.2.2.2) (fun e t26 S' k' => hP S' _ rfl k'.1 ?_ k'.2.2.2.2) (fun e t26 S' k' => hP S' _ rfl k'.1 ?_ k'.2.2.2.2)
  · rw [if_neg (fun q => by rw [e] at q; cases q.1)]
    have := k42.2.1
    rw [e] at this; exact this
  · rw [if_pos ⟨e, t26⟩]; exact k'.2.1
  · rw [if_neg (fun q => t26 q.2)]; exact k'.2.1
