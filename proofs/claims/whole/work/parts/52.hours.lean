/-! how many hours count: the reference's looks, the class's run -/
def lkF (σ : Sg) (c : Nat) : Nat → Nat → Int32 → Int32 → Int32 → Int32 → Int32 × Int32 × Int32 × Int32
  | 0, _, a, l, o, t => (a, l, o, t)
  | n + 1, h, _, l, o, t => if wkS σ c false h l = 0 then (if wkS σ c true h l = 0 then lkF σ c n (h + 1) 2 l o (t + 1) else lkF σ c n (h + 1) 1 l (o + 1) t) else lkF σ c n (h + 1) 0 (l + 1) o t
def fsN (σ : Sg) (c : Nat) : Nat := ix (dD σ 1332 c)
def lsN (σ : Sg) (c : Nat) : Nat := ix (dD σ 1333 c)
def nH (σ : Sg) (c H : Nat) : Nat := if dD σ 1338 c = 2 then 0 else min (min (lsN σ c + 1) (lgN σ (shS σ c))) (H + 1) - fsN σ c
def lkS (σ : Sg) (c H : Nat) : Int32 × Int32 × Int32 × Int32 := lkF σ c (nH σ c H) (fsN σ c) (-1) 0 0 0
theorem ch_ok {σ : Sg} (hi : Inv σ) {c : Nat} (hc : c < cN σ 4) : dD σ 1332 c = nI (fsN σ c) ∧ dD σ 1333 c = nI (lsN σ c) ∧ fsN σ c ≤ lsN σ c ∧ lsN σ c ≤ 9999 ∧ dD σ 1331 c = nI (shS σ c) ∧ shS σ c < cN σ 1 ∧ dD σ 1311 (shS σ c) = nI (lgN σ (shS σ c)) ∧ lgN σ (shS σ c) ≤ 2000 := by
  obtain ⟨a1, a2, a3, a4, a5, -⟩ := hi.2.2.2.2.2.2.2.2.1 c hc
  obtain ⟨e3, l3⟩ := bet_nI (b := 9999) a3
  obtain ⟨e4, l4⟩ := bet_nI (b := 9999) a4
  obtain ⟨os, ol⟩ := sh_ok hi hc
  obtain ⟨g1, g2⟩ := lg_eq hi ol
  rw [e3, e4, nI_leI (by omega) (by omega)] at a5
  exact ⟨e3, e4, a5, l4, okN_eq os (by have := hi.1.2.1; omega), ol, g1, g2⟩
theorem r_looks_lp {g : Nat → Nat} {m : Nat} {σ : Sg} (hi : Inv σ) {c : Nat} (hc : c < cN σ 4) {H : Nat} (hH : H ≤ 9999) {K : Int32 → Int32 → HSt → Prop} : ∀ (n h : Nat) (a l o t : Int32) (S : HSt), h + n = fsN σ c + nH σ c H → fsN σ c ≤ h → MR g m S σ → gI S 1360 m = l → gI S 1361 m = o → gI S 1362 m = t → (∀ w S', MR g m S' σ → gI S' 1360 m = (lkF σ c n h a l o t).2.1 → gI S' 1361 m = (lkF σ c n h a l o t).2.2.1 → gI S' 1362 m = (lkF σ c n h a l o t).2.2.2 → K w (lkF σ c n h a l o t).1 S') → lp_X12_looks_25a g (nI c) (nI H) m K (n + 1) (nI h) a S := by
  have h4 := hi.1.2.2.2.2.1
  have h1 := hi.1.2.1
  obtain ⟨f1, f2, f3, f4, f5, f6, f7, f8⟩ := ch_ok hi hc
  have hin : vp_in (nI c) 12 := vp_in_nI (by omega) (by decide)
  have hin5 : vp_in (dD σ 1331 c) 5 := by rw [f5]; exact vp_in_nI (by omega) (by decide)
  have ec : (nI c).toNatClampNeg = c := nI_clamp (by omega)
  intro n
  induction n with
  | zero =>
    intro h a l o t S e hfh hM hl ho ht hK
    have exit : ∀ w, K w a S := fun w => hK w S hM hl ho ht
    unfold lp_X12_looks_25a
    rw [ec, hM.a 1333 233, hM.a 1331 231, hM.a 1311 211, hM.a 1338 238, f2]
    refine ⟨hin, fun _ => exit _, fun n1 => ⟨fun _ => exit _, fun n2 => ⟨hin, hin5, fun _ => exit _, fun n3 => ⟨hin, fun _ => exit _, fun n4 => ?_⟩⟩⟩⟩
    exfalso
    rw [show (dD σ 1331 c).toNatClampNeg = shS σ c from rfl, f7] at n3
    unfold nH at e
    rw [if_neg n4] at e
    have hb : h ≤ 20000 := by omega
    rw [nI_ltI (by omega) (by omega)] at n1 n2
    rw [nI_leI (by omega) (by omega)] at n3
    omega
  | succ n ih =>
    intro h a l o t S e hfh hM hl ho ht hK
    have n2 : ¬ dD σ 1338 c = 2 := fun z => by
      unfold nH at e; rw [if_pos z] at e; omega
    have hb : h ≤ lsN σ c ∧ h < lgN σ (shS σ c) ∧ h ≤ H := by
      unfold nH at e; rw [if_neg n2] at e; omega
    obtain ⟨b1, b2, b3⟩ := hb
    unfold lp_X12_looks_25a
    rw [ec, hM.a 1333 233, hM.a 1331 231, hM.a 1311 211, hM.a 1338 238, f2, hl]
    rw [show (dD σ 1331 c).toNatClampNeg = shS σ c from rfl, f7]
    unfold lkF at hK
    refine ⟨hin, fun z => absurd z (nI_nlt b1 (by omega)), fun _ => ⟨fun z => absurd z (nI_nlt b3 (by omega)), fun _ => ⟨hin, hin5, fun z => absurd z (nI_ge b2 (by omega)), fun _ => ⟨hin, fun z => absurd z n2, fun _ => r_worked hM hi hc b2 l false (fun S27 m1 m2 m3 m4 => ⟨fun w0 => ?_, fun w1 => ?_⟩)⟩⟩⟩⟩
    · rw [if_pos w0] at hK
      rw [m2, hl]
      refine r_worked m1 hi hc b2 l true (fun S31 q1 q2 q3 q4 => ⟨fun v0 => ?_, fun v1 => ?_⟩)
      · rw [if_pos v0] at hK
        intro S35 e35 S39 e39 S43 e43 v46 e46
        rw [nI_1] at e46
        subst e46
        have r1 : gI S43 1360 m = l := by rw [e43]; show gI S39 1360 m = _; rw [e39]; show gI S35 1360 m = _; rw [e35, gI_same, if_pos rfl, q2, m2, hl, Int32.add_zero]
        have r2 : gI S43 1361 m = o := by rw [e43]; show gI S39 1361 m = _; rw [e39, gI_same, if_pos rfl, e35]; show gI S31 1361 m + 0 = _; rw [q3, m3, ho, Int32.add_zero]
        have r3 : gI S43 1362 m = t + 1 := by rw [e43, gI_same, if_pos rfl, e39]; show gI S35 1362 m + 1 = _; rw [e35]; show gI S31 1362 m + 1 = _; rw [q4, m4, ht]
        exact ih (h + 1) 2 l o (t + 1) S43 (by omega) (by omega) (by rw [e43, e39, e35]; exact ((q1.pI0 _ _).pI0 _ _).pI0 _ _) r1 r2 r3 hK
      · rw [if_neg v1] at hK
        intro S35 e35 S39 e39 S43 e43 v46 e46
        rw [nI_1] at e46
        subst e46
        have r1 : gI S43 1360 m = l := by rw [e43]; show gI S39 1360 m = _; rw [e39]; show gI S35 1360 m = _; rw [e35, gI_same, if_pos rfl, q2, m2, hl, Int32.add_zero]
        have r2 : gI S43 1361 m = o + 1 := by rw [e43]; show gI S39 1361 m = _; rw [e39, gI_same, if_pos rfl, e35]; show gI S31 1361 m + 1 = _; rw [q3, m3, ho]
        have r3 : gI S43 1362 m = t := by rw [e43, gI_same, if_pos rfl, e39]; show gI S35 1362 m + 0 = _; rw [e35]; show gI S31 1362 m + 0 = _; rw [q4, m4, ht, Int32.add_zero]
        exact ih (h + 1) 1 l (o + 1) t S43 (by omega) (by omega) (by rw [e43, e39, e35]; exact ((q1.pI0 _ _).pI0 _ _).pI0 _ _) r1 r2 r3 hK
    · rw [if_neg w1] at hK
      intro S35 e35 S39 e39 S43 e43 v46 e46
      rw [nI_1] at e46
      subst e46
      have r1 : gI S43 1360 m = l + 1 := by rw [e43]; show gI S39 1360 m = _; rw [e39]; show gI S35 1360 m = _; rw [e35, gI_same, if_pos rfl, m2, hl]
      have r2 : gI S43 1361 m = o := by rw [e43]; show gI S39 1361 m = _; rw [e39, gI_same, if_pos rfl, e35]; show gI S27 1361 m + 0 = _; rw [m3, ho, Int32.add_zero]
      have r3 : gI S43 1362 m = t := by rw [e43, gI_same, if_pos rfl, e39]; show gI S35 1362 m + 0 = _; rw [e35]; show gI S27 1362 m + 0 = _; rw [m4, ht, Int32.add_zero]
      exact ih (h + 1) 0 (l + 1) o t S43 (by omega) (by omega) (by rw [e43, e39, e35]; exact ((m1.pI0 _ _).pI0 _ _).pI0 _ _) r1 r2 r3 hK
theorem r_looks {g : Nat → Nat} {m : Nat} {S : HSt} {σ : Sg} (hM : MR g m S σ) (hi : Inv σ) {c : Nat} (hc : c < cN σ 4) {H : Nat} (hH : H ≤ 9999) {Post : Int32 → HSt → Prop} (hP : ∀ S', MR g m S' σ → gI S' 1360 m = (lkS σ c H).2.1 → gI S' 1361 m = (lkS σ c H).2.2.1 → gI S' 1362 m = (lkS σ c H).2.2.2 → Post (lkS σ c H).1 S') : wp_X12_looks g m (nI c) (nI H) S Post := by
  have h4 := hi.1.2.2.2.2.1
  intro S1 e1 S4 e4 S7 e7
  have hM7 : MR g m S7 σ := by rw [e7, e4, e1]; exact ((hM.pI0 _ _).pI0 _ _).pI0 _ _
  refine ⟨vp_in_nI (by omega) (by decide), fun v11 e11 => ⟨nH σ c H + 1, ?_⟩⟩
  rw [nI_clamp (by omega), hM7.a 1332 232, (ch_ok hi hc).1] at e11
  subst e11
  exact r_looks_lp hi hc hH _ _ _ _ _ _ S7 rfl (Nat.le_refl _) hM7 (by rw [e7]; show gI S4 1360 m = _; rw [e4]; show gI S1 1360 m = _; rw [e1, gI_same, if_pos rfl]) (by rw [e7]; show gI S4 1361 m = _; rw [e4, gI_same, if_pos rfl]) (by rw [e7, gI_same, if_pos rfl]) (fun w S' q1 q2 q3 q4 => hP S' q1 q2 q3 q4)
theorem c_countHour {ad : AD} {x : Nat} {S : HSt} {σ : Sg} (h : CR ad x S σ) (hi : Inv σ) {c hr : Nat} (hc : c < cN σ 4) {over : Int32} (hF : TF ad S σ c hr over) {Post : Int32 → HSt → Prop} (p2 : wkS σ c false hr over = 0 → wkS σ c true hr over = 0 → ∀ S' S'', CR ad x S' σ → gI S' = gI S → S'' = uI S' 1002 (ad 10 11) (gI S 1002 (ad 10 11) + 1) → Post 2 S'') (p1 : wkS σ c false hr over = 0 → wkS σ c true hr over ≠ 0 → ∀ S' S'', CR ad x S' σ → gI S' = gI S → S'' = uI S' 1001 (ad 10 11) (gI S 1001 (ad 10 11) + 1) → Post 1 S'') (p0 : wkS σ c false hr over ≠ 0 → ∀ S' S'', CR ad x S' σ → gI S' = gI S → S'' = uI S' 1000 (ad 10 11) (gI S 1000 (ad 10 11) + 1) → Post 0 S'') : wp_X9_countHour (ad 10 11) (ad 5 (txN σ c)) S Post := by
  obtain ⟨ot, tl⟩ := tx_ok hi hc
  obtain ⟨k0, k1, k2, k3, k4, k5, k6⟩ := okT_of hi tl
  obtain ⟨e1, l1⟩ := bet_nI (b := 160) k1
  obtain ⟨e2, l2⟩ := bet_nI (b := 160) k2
  obtain ⟨a1, a2, a3, a4, a5, a6, a7, a8, a9⟩ := h.2.2.2.2.2.2.2.1.1 _ tl
  have g1 : gI S 1101 (ad 5 (txN σ c)) = nI (p1T σ (txN σ c)) := a7.trans e1
  have g2 : gI S 1102 (ad 5 (txN σ c)) = nI (p2T σ (txN σ c)) := a8.trans e2
  unfold wp_X9_countHour
  refine c_worth h hi hc hF false rfl g1 (fun S2 c2 f2 => ⟨fun z => ?_, fun z S15 e15 => ?_⟩)
  · rw [f2, g1, g2]
    refine c_worth c2 hi hc (hF.gi f2) true rfl rfl (fun S6 c6 f6 => ⟨fun y S9 e9 => ?_, fun y S12 e12 => ?_⟩)
    · rw [f6, f2] at e9; exact p2 z y S6 S9 c6 (f6.trans f2) e9
    · rw [f6, f2] at e12; exact p1 z y S6 S12 c6 (f6.trans f2) e12
  · rw [f2] at e15; exact p0 z S2 S15 c2 f2 e15
theorem c_trun_lp {ad : AD} {x : Nat} {σ : Sg} (hi : Inv σ) {c : Nat} (hc : c < cN σ 4) {N : Nat} (hN : fsN σ c + N ≤ lgN σ (shS σ c) ∨ N = 0) {K : Int32 → Int32 → HSt → Prop} : ∀ (n k : Nat) (a l o t : Int32) (S : HSt), k + n = N → CR ad x S σ → gI S 1000 (ad 10 11) = l → gI S 1001 (ad 10 11) = o → gI S 1002 (ad 10 11) = t → (∀ w S', CR ad x S' σ → gI S' 1000 (ad 10 11) = (lkF σ c n (fsN σ c + k) a l o t).2.1 → gI S' 1001 (ad 10 11) = (lkF σ c n (fsN σ c + k) a l o t).2.2.1 → gI S' 1002 (ad 10 11) = (lkF σ c n (fsN σ c + k) a l o t).2.2.2 → K w (lkF σ c n (fsN σ c + k) a l o t).1 S') → lp_X9_run_37a (nI N) (ad 10 11) (ad 7 c) K (n + 1) (nI k) a S := by
  have h1 := hi.1.2.1
  obtain ⟨f1, f2, f3, f4, f5, f6, f7, f8⟩ := ch_ok hi hc
  have hNb : N ≤ 2000 := by omega
  intro n
  induction n with
  | zero =>
    intro k a l o t S e hC hl ho ht hK
    have : k = N := by omega
    subst this
    exact ⟨fun _ => hK _ S hC hl ho ht, fun z => absurd (Int32.le_refl _) z⟩
  | succ n ih =>
    intro k a l o t S e hC hl ho ht hK
    unfold lkF at hK
    refine ⟨fun z => absurd z (nI_ge (by omega) (by omega)), fun _ S21 e21 S24 e24 => ?_⟩
    have hk : fsN σ c + k < lgN σ (shS σ c) := by omega
    obtain ⟨a1, a2, a3, a4, a5, a6, a7, a8, a9, b1, b2⟩ := hC.2.2.2.2.2.2.2.2.1.1 _ hc
    have c24 : CR ad x S24 σ := by rw [e24, e21]; exact (hC.u1005 _ _).u1004 _ _
    have eh : gI S24 1004 (ad 10 11) = nI (fsN σ c + k) := by
      rw [e24, gI_same, if_pos rfl, e21]
      show gI S 202 (ad 7 c) + nI k = _
      rw [a5, f1]; exact nI_add _ _
    have d := c24.2.2.2.2.2.2.2.2.1.1 _ hc
    refine ⟨_, d.2.2.2.1, (c24.2.2.2.1.1 _ f6).2.1, c_sortAt c24 hi f6 _ (fun S33 e33 => ?_)⟩
    rw [eh] at e33
    have es : sAt σ (shS σ c) (nI (fsN σ c + k)) = dD σ 1312 (2000 * shS σ c + (fsN σ c + k)) := by
      unfold sAt
      rw [if_pos (okN_nI hk (by omega)), ix_nI (by omega)]
    have c33 : CR ad x S33 σ := by rw [e33]; exact c24.u1003 _ _
    have d3 := c33.2.2.2.2.2.2.2.2.1.1 _ hc
    have tl := (tx_ok hi hc).2
    have i0 : gI S33 1000 (ad 10 11) = l := by rw [e33, e24, e21]; exact hl
    have i1 : gI S33 1001 (ad 10 11) = o := by rw [e33, e24, e21]; exact ho
    have i2 : gI S33 1002 (ad 10 11) = t := by rw [e33, e24, e21]; exact ht
    have hF : TF ad S33 σ c (fsN σ c + k) l := by
      refine ⟨i0, ?_, ?_, ?_⟩
      · rw [e33, gI_same, if_pos rfl]; exact es
      · rw [e33]; exact eh
      · rw [e33]
        show gI S24 1005 _ = _
        rw [e24]
        show gI S21 1005 _ = _
        rw [e21, gI_same, if_pos rfl, f1, nI_sub (by omega)]; congr 1; omega
    refine ⟨_, d3.2.2.2.2.2.2.1, (c33.2.2.2.2.2.2.2.1.1 _ tl).2.1, c_countHour c33 hi hc hF (fun z y S' S'' c' g' e' v42 e42 => ?_) (fun z y S' S'' c' g' e' v42 e42 => ?_) (fun z S' S'' c' g' e' v42 e42 => ?_)⟩
    · rw [if_pos z, if_pos y] at hK
      rw [nI_1] at e42
      subst e42
      refine ih (k + 1) 2 l o (t + 1) S'' (by omega) (by rw [e']; exact c'.u1002 _ _) ?_ ?_ ?_ hK
      · rw [e']; show gI S' 1000 _ = l; rw [g', i0]
      · rw [e']; show gI S' 1001 _ = o; rw [g', i1]
      · rw [e', gI_same, if_pos rfl, i2]
    · rw [if_pos z, if_neg y] at hK
      rw [nI_1] at e42
      subst e42
      refine ih (k + 1) 1 l (o + 1) t S'' (by omega) (by rw [e']; exact c'.u1001 _ _) ?_ ?_ ?_ hK
      · rw [e']; show gI S' 1000 _ = l; rw [g', i0]
      · rw [e', gI_same, if_pos rfl, i1]
      · rw [e']; show gI S' 1002 _ = t; rw [g', i2]
    · rw [if_neg z] at hK
      rw [nI_1] at e42
      subst e42
      refine ih (k + 1) 0 (l + 1) o t S'' (by omega) (by rw [e']; exact c'.u1000 _ _) ?_ ?_ ?_ hK
      · rw [e', gI_same, if_pos rfl, i0]
      · rw [e']; show gI S' 1001 _ = o; rw [g', i1]
      · rw [e']; show gI S' 1002 _ = t; rw [g', i2]
/-- how many hours the class's run counts -/
theorem run_n {σ : Sg} (hi : Inv σ) {c H : Nat} (hc : c < cN σ 4) (hf : fsN σ c ≤ H) (hH : H ≤ 9999) : (if nI H - dD σ 1332 c + 1 < nI (mC σ c (lgN σ (ix (dD σ 1331 c)))) then nI H - dD σ 1332 c + 1 else nI (mC σ c (lgN σ (ix (dD σ 1331 c))))) = nI (nH σ c H) := by
  obtain ⟨f1, f2, f3, f4, f5, f6, f7, f8⟩ := ch_ok hi hc
  have f8 : lgN σ (ix (dD σ 1331 c)) ≤ 2000 := f8
  have e : nI H - dD σ 1332 c + 1 = nI (H + 1 - fsN σ c) := by
    rw [f1, nI_sub hf, nI_1]; congr 1; omega
  rw [e]
  have em : mC σ c (lgN σ (ix (dD σ 1331 c))) = if dD σ 1338 c = 2 then 0 else min (lsN σ c + 1) (lgN σ (ix (dD σ 1331 c))) - fsN σ c := rfl
  have en : nH σ c H = if dD σ 1338 c = 2 then 0 else min (min (lsN σ c + 1) (lgN σ (ix (dD σ 1331 c)))) (H + 1) - fsN σ c := rfl
  rw [em, en]
  by_cases h2 : dD σ 1338 c = 2
  · rw [if_pos h2, if_pos h2, if_neg]
    rw [nI_ltI (by omega) (by omega)]; omega
  · rw [if_neg h2, if_neg h2]
    by_cases z : nI (H + 1 - fsN σ c) < nI (min (lsN σ c + 1) (lgN σ (ix (dD σ 1331 c))) - fsN σ c)
    · rw [if_pos z]
      rw [nI_ltI (by omega) (by omega)] at z
      congr 1; omega
    · rw [if_neg z]
      rw [nI_ltI (by omega) (by omega)] at z
      congr 1; omega
theorem c_trun {ad : AD} {x : Nat} {S : HSt} {σ : Sg} (h : CR ad x S σ) (hi : Inv σ) {c : Nat} (hc : c < cN σ 4) {H : Nat} (hf : fsN σ c ≤ H) (hH : H ≤ 9999) {Post : Int32 → HSt → Prop} (hP : ∀ S', CR ad x S' σ → gI S' 1000 (ad 10 11) = (lkS σ c H).2.1 → gI S' 1001 (ad 10 11) = (lkS σ c H).2.2.1 → gI S' 1002 (ad 10 11) = (lkS σ c H).2.2.2 → Post (lkS σ c H).1 S') : wp_X9_run (ad 10 11) (ad 7 c) (nI H) S Post := by
  obtain ⟨f1, f2, f3, f4, f5, f6, f7, f8⟩ := ch_ok hi hc
  intro S1 e1 S4 e4 S7 e7
  have c7 : CR ad x S7 σ := by rw [e7, e4, e1]; exact ((h.u1000 _ _).u1001 _ _).u1002 _ _
  have d := c7.2.2.2.2.2.2.2.2.1.1 _ hc
  refine c_loggedHours c7 hi hc (fun v13 e13 => ?_)
  rw [d.2.2.2.2.1, run_n hi hc hf hH] at e13
  subst e13
  refine ⟨nH σ c H + 1, c_trun_lp hi hc ?_ _ 0 (-1) 0 0 0 S7 (by omega) c7 (by rw [e7]; show gI S4 1000 _ = _; rw [e4]; show gI S1 1000 _ = _; rw [e1, gI_same, if_pos rfl]) (by rw [e7]; show gI S4 1001 _ = _; rw [e4, gI_same, if_pos rfl]) (by rw [e7, gI_same, if_pos rfl]) (fun w S' q1 q2 q3 q4 => hP S' q1 q2 q3 q4)⟩
  unfold nH
  split
  · exact Or.inr rfl
  · omega
