/-! the reference reckons the coal -/
def dI (r : Nat) : Int32 := nI r + (-1)
theorem dI_s (r : Nat) : dI (r + 1) = nI r := pk_m1 r
theorem dI_neg : dI 0 < 0 := by decide
theorem oI_ne {l : Nat} (h : l < 2 ^ 31) : nI l ≠ -1 := fun z => nI_pos h (by rw [z]; decide)
def MK (g : Nat → Nat) (σ : Sg) (s i : Nat) (S : HSt) : Prop := ∀ j f, i ≤ j → j < cN σ 6 - 1 → f ≤ MNs σ s → gA S 248 (g 1348) (1000 * j + f) = oI (cIo σ s j f)
theorem r_behind {g : Nat → Nat} {m : Nat} {S : HSt} {σ : Sg} (h : MR g m S σ) (hi : Inv σ) {s : Int32} (os : okN s (cN σ 1)) {i f : Nat} (hil : i < cN σ 6 - 1) (hf : f ≤ MNs σ (ix s)) (hK : MK g σ (ix s) (i + 1) S) {Post : Int32 → HSt → Prop} (hP : Post (oI (bh (bkN σ (ix s) i) (cIo σ (ix s) (i + 1)) f)) S) : wp_X12_behind g m s (nI i) (nI f) S Post := by
  have hn := hi.1.2.2.2.2.2.2
  have h0 := hi.1.1
  have hsl := okN_lt os (by have := hi.1.2.1; omega)
  have hM := (MN_eq hi hsl).2
  obtain ⟨o1, l1⟩ := rt_ok hi (show i < cN σ 6 by omega)
  obtain ⟨o2, l2⟩ := rt_ok hi (show i + 1 < cN σ 6 by omega)
  obtain ⟨e1, b1⟩ := bk_eq hi hsl (show i + 1 < cN σ 6 by omega)
  have g1 : gA S 222 (g 1322) (nI i).toNatClampNeg = dD σ 1322 i := (h.a 1322 222 _).trans (by rw [nI_clamp (by omega)])
  have g2 : gA S 222 (g 1322) (nI (i + 1)).toNatClampNeg = dD σ 1322 (i + 1) := (h.a 1322 222 _).trans (by rw [nI_clamp (by omega)])
  unfold wp_X12_behind
  rw [nI_1, g1, g2]
  refine ⟨vp_in_nI (by omega) (by decide), vp_in_nI (by omega) (by decide), r_burns h hi os o1 o2 ?_⟩
  rw [show brI σ (ix s) (ix (dD σ 1322 i)) (ix (dD σ 1322 (i + 1))) = nI (bkN σ (ix s) i) from e1, h.c 1321 6, show nI i + (2 : Int32) = nI (i + 2) from nI_add i 2]
  have hle := nI_leI (a := bkN σ (ix s) i) (b := f) (by omega) (by omega)
  unfold bh at hP
  refine ⟨fun le => ⟨fun ne => ?_, fun eq => ?_⟩, fun nle => ?_⟩
  · have le' := hle.mp le
    rw [if_pos le'] at hP
    have ne' : i + 2 ≠ cN σ 6 := fun z => ne (by rw [z])
    have e : (1000 : Int32) * nI (i + 1) + nI f - nI (bkN σ (ix s) i) = nI (1000 * (i + 1) + (f - bkN σ (ix s) i)) := by
      rw [show (1000 : Int32) * nI (i + 1) = nI (1000 * (i + 1)) from pk_mul 1000 (i + 1), nI_add, pk_sub (by omega)]
      congr 1; omega
    rw [e, nI_clamp (by omega), hK (i + 1) _ (by omega) (by omega) (by omega)]
    exact ⟨vp_in_nI (by omega) (by decide), hP⟩
  · have le' := hle.mp le
    rw [if_pos le'] at hP
    have eq' : i + 1 = cN σ 6 - 1 := by have := (nI_eq (by omega) (by omega)).mp eq; omega
    rw [eq', cIo_L] at hP
    exact hP
  · rw [if_neg (fun z => nle (hle.mpr z))] at hP; exact hP
theorem r_scan {g : Nat → Nat} {m : Nat} {σ : Sg} (hi : Inv σ) {s : Int32} (os : okN s (cN σ 1)) {i : Nat} (hil : i < cN σ 6 - 1) {K : Int32 → Int32 → HSt → Prop} (hKK : ∀ w v S', MR g m S' σ → MK g σ (ix s) i S' → K w v S') : ∀ (r : Nat) (v : Int32) (S : HSt), r ≤ MNs σ (ix s) + 1 → MR g m S σ → MK g σ (ix s) (i + 1) S → (∀ f, r ≤ f → f ≤ MNs σ (ix s) → gA S 248 (g 1348) (1000 * i + f) = oI (cIo σ (ix s) i f)) → (prN σ i ≠ 0 → v = oI (lsc (bkN σ (ix s) i) (prN σ i) (MNs σ (ix s)) (cIo σ (ix s) (i + 1)) (MNs σ (ix s) + 1 - r))) → lp_X12_reckons_102a g m s (nI i) (nI (prN σ i)) K (r + 1) (dI r) v S := by
  have hn := hi.1.2.2.2.2.2.2
  have hsl := okN_lt os (by have := hi.1.2.1; omega)
  have hM := (MN_eq hi hsl).2
  have hpr := (pr_eq hi (show i < cN σ 6 by omega)).2
  intro r
  induction r with
  | zero =>
    intro v S hr h hK hrow hv
    refine ⟨fun _ => hKK _ _ S h (fun j f h1 h2 h3 => ?_), fun z => absurd dI_neg z⟩
    by_cases e : j = i
    · subst e; exact hrow f (Nat.zero_le _) h3
    · exact hK j f (by omega) h2 h3
  | succ r ih =>
    intro v S hr h hK hrow hv
    rw [dI_s]
    have e6 : (1000 : Int32) * nI i + nI r = nI (1000 * i + r) := by rw [show (1000 : Int32) * nI i = nI (1000 * i) from pk_mul 1000 i, nI_add]
    have put : ∀ (val W : Int32), val = oI (cIo σ (ix s) i r) → (prN σ i ≠ 0 → W = oI (lsc (bkN σ (ix s) i) (prN σ i) (MNs σ (ix s)) (cIo σ (ix s) (i + 1)) (MNs σ (ix s) + 1 - r))) → vp_in ((1000 : Int32) * nI i + nI r) 6000 ∧ ∀ S54 : HSt, S54 = uA S 248 (g 1348) ((1000 : Int32) * nI i + nI r).toNatClampNeg val → ∀ v57 : Int32, v57 = nI r + (-1 : Int32) → lp_X12_reckons_102a g m s (nI i) (nI (prN σ i)) K (r + 1) v57 W S54 := by
      intro val W hval hW
      rw [e6, nI_clamp (by omega)]
      refine ⟨vp_in_nI (by omega) (by decide), fun S54 e54 v57 e57 => ?_⟩
      subst e57
      have hM2 : MR g m S54 σ := by rw [e54]; exact h.pA0 248 _ _ _
      refine ih W S54 (by omega) hM2 (fun j f h1 h2 h3 => ?_) (fun f h1 h2 => ?_) hW
      · rw [e54, gA_uA, if_pos ⟨rfl, rfl⟩, pk_un (by omega)]; exact hK j f h1 h2 h3
      · rw [e54, gA_uA, if_pos ⟨rfl, rfl⟩]
        by_cases e : f = r
        · subst e; rw [pk_us, hval]
        · rw [pk_un (by omega)]; exact hrow f (by omega) h2
    have hst := congrFun (cIo_s (s := ix s) hil) r
    have hj : MNs σ (ix s) + 1 - r = (MNs σ (ix s) + 1 - (r + 1)) + 1 := by omega
    have hjr : MNs σ (ix s) - (MNs σ (ix s) + 1 - (r + 1)) = r := by omega
    have hls : lsc (bkN σ (ix s) i) (prN σ i) (MNs σ (ix s)) (cIo σ (ix s) (i + 1)) (MNs σ (ix s) + 1 - r) = omn (lsc (bkN σ (ix s) i) (prN σ i) (MNs σ (ix s)) (cIo σ (ix s) (i + 1)) (MNs σ (ix s) + 1 - (r + 1))) (cnd (bkN σ (ix s) i) (prN σ i) (cIo σ (ix s) (i + 1)) r) := by
      rw [hj]
      show omn _ (cnd _ _ _ (MNs σ (ix s) - (MNs σ (ix s) + 1 - (r + 1)))) = _
      rw [hjr]
    have hge := fun l => lsc_ge (b := bkN σ (ix s) i) (p := prN σ i) (M := MNs σ (ix s)) (nx := cIo σ (ix s) (i + 1)) (j := MNs σ (ix s) + 1 - r) (l := l) (by omega)
    rw [show MNs σ (ix s) + 1 - (MNs σ (ix s) + 1 - r) = r by omega] at hge
    have hle := fun j l => lsc_le (b := bkN σ (ix s) i) (p := prN σ i) (M := MNs σ (ix s)) (nx := cIo σ (ix s) (i + 1)) (B := 494505) (fun f c => cIo_le hi hsl) (j := j) (l := l)
    have hMp : MNs σ (ix s) * prN σ i ≤ 999 * 99 := Nat.mul_le_mul hM hpr
    have hrp : r * prN σ i ≤ 999 * 99 := Nat.mul_le_mul (by omega) hpr
    have hp0 : nI (prN σ i) = 0 ↔ prN σ i = 0 := nI_eq (b := 0) (by omega) (by decide)
    -- the cost of a least sum
    have hco : prN σ i ≠ 0 → ∀ l, lsc (bkN σ (ix s) i) (prN σ i) (MNs σ (ix s)) (cIo σ (ix s) (i + 1)) (MNs σ (ix s) + 1 - r) = some l → nI l - nI r * nI (prN σ i) = oI (cIo σ (ix s) i r) := by
      intro hp l hl
      rw [hst]
      unfold stp
      rw [if_neg hp, hl]
      show _ = nI (l - r * prN σ i)
      rw [pk_mul, pk_sub (hge l hl)]
    have hcn : prN σ i ≠ 0 → lsc (bkN σ (ix s) i) (prN σ i) (MNs σ (ix s)) (cIo σ (ix s) (i + 1)) (MNs σ (ix s) + 1 - r) = none → (-1 : Int32) = oI (cIo σ (ix s) i r) := by
      intro hp hl
      rw [hst]
      unfold stp
      rw [if_neg hp, hl]
      rfl
    refine ⟨fun z => absurd z (nI_pos (by omega)), fun _ => r_behind h hi os hil (by omega) hK ?_⟩
    cases hb : bh (bkN σ (ix s) i) (cIo σ (ix s) (i + 1)) r with
    | none =>
      have hc0 : cnd (bkN σ (ix s) i) (prN σ i) (cIo σ (ix s) (i + 1)) r = none := by unfold cnd; rw [hb]; rfl
      rw [hc0] at hls
      refine ⟨fun z => absurd rfl z, fun _ => ⟨fun np => ?_, fun zp => ?_⟩⟩
      · have np' : prN σ i ≠ 0 := fun z => np (hp0.mpr z)
        have hv' := hv np'
        cases hl : lsc (bkN σ (ix s) i) (prN σ i) (MNs σ (ix s)) (cIo σ (ix s) (i + 1)) (MNs σ (ix s) + 1 - (r + 1)) with
        | none =>
          rw [hl] at hls hv'
          refine ⟨fun ne => absurd hv' ne, fun _ => put _ _ (hcn np' hls) (fun _ => by rw [hls]; exact hv')⟩
        | some l =>
          rw [hl] at hls hv'
          have hls' : lsc (bkN σ (ix s) i) (prN σ i) (MNs σ (ix s)) (cIo σ (ix s) (i + 1)) (MNs σ (ix s) + 1 - r) = some l := hls
          have := hle _ _ hl
          rw [hv']
          exact ⟨fun _ => put _ _ (hco np' l hls') (fun _ => by rw [hls']), fun e => absurd e (oI_ne (by omega))⟩
      · have zp' := hp0.mp zp
        refine put _ _ ?_ (fun z => absurd zp' z)
        rw [hst]; unfold stp; rw [if_pos zp', hb]; rfl
    | some c =>
      have hcl : c ≤ 494505 := bh_le (fun f c => cIo_le hi hsl) hb
      have hc0 : cnd (bkN σ (ix s) i) (prN σ i) (cIo σ (ix s) (i + 1)) r = some (c + r * prN σ i) := by unfold cnd; rw [hb]; rfl
      rw [hc0] at hls
      refine ⟨fun _ v48 e48 => ?_, fun z => absurd z (oI_ne (by omega))⟩
      have e48' : v48 = nI (c + r * prN σ i) := by rw [e48]; show nI c + nI r * nI (prN σ i) = _; rw [pk_mul, nI_add]
      clear e48
      subst e48'
      have hne : nI (c + r * prN σ i) ≠ -1 := oI_ne (by omega)
      refine ⟨fun np => ⟨fun z => absurd z hne, fun _ => ?_⟩, fun zp => ⟨fun _ => ?_, fun z => absurd z hne⟩⟩
      · have np' : prN σ i ≠ 0 := fun z => np (hp0.mpr z)
        have hv' := hv np'
        cases hl : lsc (bkN σ (ix s) i) (prN σ i) (MNs σ (ix s)) (cIo σ (ix s) (i + 1)) (MNs σ (ix s) + 1 - (r + 1)) with
        | none =>
          rw [hl] at hls hv'
          have hls' : lsc (bkN σ (ix s) i) (prN σ i) (MNs σ (ix s)) (cIo σ (ix s) (i + 1)) (MNs σ (ix s) + 1 - r) = some (c + r * prN σ i) := hls
          exact ⟨fun _ => ⟨fun _ => put _ _ (hco np' _ hls') (fun _ => by rw [hls']; rfl), fun z => absurd z hne⟩, fun ne => absurd hv' ne⟩
        | some l =>
          rw [hl] at hls hv'
          have hll := hle _ _ hl
          have hlt := nI_leI (a := l) (b := c + r * prN σ i) (by omega) (by omega)
          rw [hv']
          refine ⟨fun z => absurd z (oI_ne (by omega)), fun _ => ⟨fun le => ⟨fun _ => ?_, fun z => absurd z (oI_ne (by omega))⟩, fun nle => ⟨fun _ => ?_, fun z => absurd z hne⟩⟩⟩
          · have hls' : lsc (bkN σ (ix s) i) (prN σ i) (MNs σ (ix s)) (cIo σ (ix s) (i + 1)) (MNs σ (ix s) + 1 - r) = some l := by
              rw [hls]; exact if_neg (by have := hlt.mp le; omega)
            exact put _ _ (hco np' _ hls') (fun _ => by rw [hls'])
          · have hls' : lsc (bkN σ (ix s) i) (prN σ i) (MNs σ (ix s)) (cIo σ (ix s) (i + 1)) (MNs σ (ix s) + 1 - r) = some (c + r * prN σ i) := by
              rw [hls]; exact if_pos (by have : ¬ l ≤ c + r * prN σ i := fun z => nle (hlt.mpr z); omega)
            exact put _ _ (hco np' _ hls') (fun _ => by rw [hls']; rfl)
      · have zp' := hp0.mp zp
        refine put _ _ ?_ (fun z => absurd zp' z)
        rw [hst]; unfold stp; rw [if_pos zp', hb]
        show nI (c + r * prN σ i) - nI r * nI (prN σ i) = nI c
        rw [pk_mul, pk_sub (by omega)]
        congr 1; omega
theorem r_rows {g : Nat → Nat} {m : Nat} {σ : Sg} (hi : Inv σ) {s : Int32} (os : okN s (cN σ 1)) {K : Int32 → HSt → Prop} (hKK : ∀ w S', MR g m S' σ → MK g σ (ix s) 0 S' → K w S') : ∀ (r : Nat) (S : HSt), r ≤ cN σ 6 - 1 → MR g m S σ → MK g σ (ix s) r S → lp_X12_reckons_70a g 1 s m K (r + 1) (dI r) S := by
  have hn := hi.1.2.2.2.2.2.2
  have h0 := hi.1.1
  have hsl := okN_lt os (by have := hi.1.2.1; omega)
  have his := okN_in os hi.1.2.1 (show 5 < 2 ^ 31 by decide)
  intro r
  induction r with
  | zero => intro S hr h hK; exact ⟨fun _ => hKK _ S h hK, fun z => absurd dI_neg z⟩
  | succ r ih =>
    intro S hr h hK
    rw [dI_s]
    obtain ⟨o1, l1⟩ := rt_ok hi (show r < cN σ 6 by omega)
    have g1 : gA S 222 (g 1322) (nI r).toNatClampNeg = dD σ 1322 r := (h.a 1322 222 _).trans (by rw [nI_clamp (by omega)])
    refine ⟨fun z => absurd z (nI_pos (by omega)), fun _ => ⟨fun z => absurd z (by decide), fun _ => ⟨vp_in_nI (by omega) (by decide), ?_⟩⟩⟩
    rw [g1]
    refine ⟨okN_in o1 h0 (by decide), fun v33 e33 => ⟨his, fun v36 e36 => ?_⟩⟩
    rw [show gA S 202 (g 1302) (dD σ 1322 r).toNatClampNeg = nI (prN σ r) from (h.a 1302 202 _).trans (pr_eq hi (show r < cN σ 6 by omega)).1] at e33
    rw [show gA S 208 (g 1308) s.toNatClampNeg = dI (MNs σ (ix s) + 1) from (h.a 1308 208 _).trans ((MN_eq hi hsl).1.trans (dI_s _).symm)] at e36
    subst e33 e36
    refine ⟨MNs σ (ix s) + 1 + 1, r_scan hi os (by omega) (fun w v S' h1 h2 v143 e143 => ?_) (MNs σ (ix s) + 1) (-1) S (Nat.le_refl _) h hK (fun f h1 h2 => by omega) (fun _ => by rw [Nat.sub_self]; rfl)⟩
    subst e143
    exact ih S' (by omega) h1 h2
theorem r_can {g : Nat → Nat} {m : Nat} {S : HSt} {σ : Sg} (h : MR g m S σ) (hi : Inv σ) {K : Int32 → Int32 → HSt → Prop} (h1 : (∀ i, i + 1 < cN σ 6 → lkI σ (rtN σ i) (rtN σ (i + 1)) = 0) → ∀ w, K w 1 S) (h0 : ¬ (∀ i, i + 1 < cN σ 6 → lkI σ (rtN σ i) (rtN σ (i + 1)) = 0) → ∀ w, K w 0 S) (hz : 2 ≤ cN σ 6) : ∀ (r j : Nat) (v : Int32), j + 1 + r = cN σ 6 → (v = 1 → ∀ i, i < j → lkI σ (rtN σ i) (rtN σ (i + 1)) = 0) → (v = 0 → ∃ i, i < j ∧ lkI σ (rtN σ i) (rtN σ (i + 1)) ≠ 0) → (v = 0 ∨ v = 1) → lp_X12_reckons_16a g m K (r + 1) (nI j) v S := by
  have hn := hi.1.2.2.2.2.2.2
  have hc := h.c 1321 6
  intro r
  induction r with
  | zero =>
    intro j v hj hv1 hv0 hv
    refine ⟨fun _ => ?_, fun z => ?_⟩
    · rcases hv with e | e
      · subst e
        obtain ⟨i, i1, i2⟩ := hv0 rfl
        exact h0 (fun q => i2 (q i (by omega))) _
      · subst e
        exact h1 (fun i hi' => hv1 rfl i (by omega)) _
    · rw [hc, nI_1, show j + 1 = cN σ 6 by omega] at z; exact absurd (Int32.le_refl _) z
  | succ r ih =>
    intro j v hj hv1 hv0 hv
    have g1 : gA S 222 (g 1322) (nI j).toNatClampNeg = dD σ 1322 j := (h.a 1322 222 _).trans (by rw [nI_clamp (by omega)])
    have g2 : gA S 222 (g 1322) (nI (j + 1)).toNatClampNeg = dD σ 1322 (j + 1) := (h.a 1322 222 _).trans (by rw [nI_clamp (by omega)])
    unfold lp_X12_reckons_16a
    rw [nI_1, g1, g2, hc]
    refine ⟨fun z => absurd z (nI_ge (by omega) (by omega)), fun _ => ⟨fun z v9 e9 => ?_, fun nz => ⟨vp_in_nI (by omega) (by decide), vp_in_nI (by omega) (by decide), r_lacks h hi (rt_ok hi (show j < cN σ 6 by omega)).1 (rt_ok hi (show j + 1 < cN σ 6 by omega)).1 ⟨fun (c : ¬ lkI σ (rtN σ j) (rtN σ (j + 1)) = 0) v17 e17 => ?_, fun (c : lkI σ (rtN σ j) (rtN σ (j + 1)) = 0) v19 e19 => ?_⟩⟩⟩⟩
    · subst e9
      obtain ⟨i, i1, i2⟩ := hv0 z
      exact ih (j + 1) 0 (by omega) (fun q => absurd q (by decide)) (fun _ => ⟨i, by omega, i2⟩) (Or.inl rfl)
    · subst e17
      exact ih (j + 1) 0 (by omega) (fun q => absurd q (by decide)) (fun _ => ⟨j, by omega, c⟩) (Or.inl rfl)
    · subst e19
      have e1 : v = 1 := hv.resolve_left nz
      refine ih (j + 1) 1 (by omega) (fun _ i hi' => ?_) (fun q => absurd q (by decide)) (Or.inr rfl)
      by_cases e : i = j
      · subst e; exact c
      · exact hv1 e1 i (by omega)
theorem r_reckons {g : Nat → Nat} {m : Nat} {S : HSt} {σ : Sg} (h : MR g m S σ) (hi : Inv σ) {s : Int32} (os : okN s (cN σ 1)) {Post : Int32 → HSt → Prop} (h1 : canS σ → cIo σ (ix s) 0 0 ≠ none → ∀ S', MR g m S' σ → MK g σ (ix s) 0 S' → Post 1 S') (h0 : ¬ (canS σ ∧ cIo σ (ix s) 0 0 ≠ none) → ∀ S', MR g m S' σ → Post 0 S') : wp_X12_reckons g m s S Post := by
  have hn := hi.1.2.2.2.2.2.2
  have hsl := okN_lt os (by have := hi.1.2.1; omega)
  have hc := h.c 1321 6
  have hlt := nI_ltI (a := cN σ 6) (b := 2) (by omega) (by decide)
  refine ⟨fun lt => ?_, fun nl => ?_⟩
  · rw [hc] at lt
    have lt' := hlt.mp lt
    refine ⟨1, fun _ v23 e23 => ⟨1, fun _ => ⟨fun _ => h0 (fun z => by have := z.1.1; omega) S h, fun z => absurd rfl z⟩, fun z => ?_⟩, fun z => ?_⟩
    · rw [hc] at e23
      subst e23
      have : cN σ 6 = 0 ∨ cN σ 6 = 1 := by omega
      rcases this with e | e
      · rw [e] at z; exact absurd (by decide) z
      · rw [e] at z; exact absurd (by decide) z
    · rw [hc] at z
      have : cN σ 6 ≤ 1 := by omega
      exact absurd (nI_le (b := 0 + 1) this (by decide)) z
  · rw [hc] at nl
    have ge : 2 ≤ cN σ 6 := by have : ¬ cN σ 6 < 2 := fun z => nl (hlt.mpr z); omega
    refine ⟨(cN σ 6 - 1) + 1, r_can h hi (fun all w v171 e171 => ?_) (fun nall w v171 e171 => ?_) ge (cN σ 6 - 1) 0 1 (by omega) (fun _ i hi' => absurd hi' (Nat.not_lt_zero i)) (fun q => absurd q (by decide)) (Or.inr rfl)⟩
    · rw [hc, show nI (cN σ 6) - (2 : Int32) = dI (cN σ 6 - 1) by rw [show (2 : Int32) = nI 2 by decide, pk_sub ge, ← dI_s]; congr 1; omega] at e171
      subst e171
      have can : canS σ := ⟨ge, fun i hi' => all i (by omega)⟩
      refine ⟨(cN σ 6 - 1) + 1, r_rows hi os (fun w' S' h3 h4 => ⟨fun z => absurd z (by decide), fun _ => ⟨vp_in_nI (n := 0) (by decide) (by decide), ?_⟩⟩) (cN σ 6 - 1) S (Nat.le_refl _) h (fun j f q1 q2 q3 => by omega)⟩
      have e0 := h4 0 0 (Nat.le_refl _) (by omega) (Nat.zero_le _)
      rw [show ((0 : Int32)).toNatClampNeg = 1000 * 0 + 0 by decide, e0]
      cases hcc : cIo σ (ix s) 0 0 with
      | none => exact ⟨fun _ => h0 (fun z => z.2 hcc) S' h3, fun z => absurd rfl z⟩
      | some c =>
        have := cIo_le hi hsl hcc
        exact ⟨fun z => absurd z (oI_ne (by omega)), fun _ => h1 can (by rw [hcc]; intro z; cases z) S' h3 h4⟩
    · refine ⟨1, fun _ => ⟨fun _ => h0 (fun z => nall (fun i hi' => z.1.2 i (by omega))) S h, fun z => absurd rfl z⟩, fun _ => ⟨fun _ => ⟨fun _ => h0 (fun z => nall (fun i hi' => z.1.2 i (by omega))) S h, fun z => absurd rfl z⟩, fun z => absurd rfl z⟩⟩
noncomputable def st_bunker (σ : Sg) (s : Int32) : Int32 := if okN s (cN σ 1) then @ite _ (canS σ ∧ cIo σ (ix s) 0 0 ≠ none) (Classical.propDecidable _) (oI (cIo σ (ix s) 0 0)) (-1) else -2
noncomputable def st_bought (σ : Sg) (s i : Int32) : Int32 := if okN s (cN σ 1) then @ite _ (canS σ ∧ cIo σ (ix s) 0 0 ≠ none) (Classical.propDecidable _) (if okN i (cN σ 6 - 1) then nI (byN σ (ix s) (ix i) (cfl σ (ix s) (ix i))) else -1) (-1) else -2
theorem r_bunker {g : Nat → Nat} {m : Nat} {S : HSt} {σ : Sg} (h : MR g m S σ) (hi : Inv σ) (s : Int32) : wp_X12_bunker g m s S (fun r S' => r = st_bunker σ s ∧ MR g m S' σ) := by
  have hs := hi.1.2.1
  unfold wp_X12_bunker st_bunker
  refine r_isShip h (by omega) (fun os => br1 (r_reckons h hi os (fun can c0 S' h1 h2 => ⟨fun z => absurd z (by decide), fun _ => ⟨vp_in_nI (n := 0) (by decide) (by decide), ?_, h1⟩⟩) (fun nc S' h1 => ⟨fun _ => ⟨?_, h1⟩, fun z => absurd rfl z⟩))) (fun os => br0 ?_)
  · rw [if_pos os, if_pos ⟨can, c0⟩]
    have := can.1
    exact h2 0 0 (Nat.le_refl _) (by omega) (Nat.zero_le _)
  · rw [if_pos os, if_neg nc]
  · rw [if_neg os]; exact ⟨rfl, h⟩
theorem r_find {g : Nat → Nat} {m : Nat} {S : HSt} {σ : Sg} (h : MR g m S σ) (hi : Inv σ) {s : Int32} (os : okN s (cN σ 1)) {k f c : Nat} (hk : k < cN σ 6 - 1) (hf : f ≤ MNs σ (ix s)) (hc : cIo σ (ix s) k f = some c) (hK : MK g σ (ix s) 0 S) {K : Int32 → HSt → Prop} (hP : K (nI (byN σ (ix s) k f)) S) : ∀ (r n : Nat), n + r = byN σ (ix s) k f → lp_X12_bought_66a g m s (nI k) (nI f) (nI (prN σ k)) K (r + 1) (nI n) S := by
  have hn := hi.1.2.2.2.2.2.2
  have hsl := okN_lt os (by have := hi.1.2.1; omega)
  have hM := (MN_eq hi hsl).2
  have hpr := (pr_eq hi (show k < cN σ 6 by omega)).2
  have hcs := hc
  rw [cIo_s hk] at hcs
  obtain ⟨b1, ⟨v, b2, b3⟩, b4⟩ := bys_spec hf hcs
  have hcl := cIo_le hi hsl hc
  have hK1 : MK g σ (ix s) (k + 1) S := fun j f' q1 q2 q3 => hK j f' (Nat.zero_le _) q2 q3
  have e6 : (1000 : Int32) * nI k + nI f = nI (1000 * k + f) := by rw [show (1000 : Int32) * nI k = nI (1000 * k) from pk_mul 1000 k, nI_add]
  have g8 : gA S 248 (g 1348) ((1000 : Int32) * nI k + nI f).toNatClampNeg = nI c := by
    rw [e6, nI_clamp (by omega), hK k f (Nat.zero_le _) hk hf, hc]; rfl
  have hb : byN σ (ix s) k f = bys (bkN σ (ix s) k) (prN σ k) (MNs σ (ix s)) (cIo σ (ix s) (k + 1)) f := rfl
  rw [← hb] at b1 b2 b3 b4
  intro r
  induction r with
  | zero =>
    intro n e
    have e : n = byN σ (ix s) k f := by omega
    have hvl : v ≤ 494505 := bh_le (fun f c => cIo_le hi hsl) b2
    unfold lp_X12_bought_66a
    rw [nI_add, e]
    refine r_behind h hi os hk b1 hK1 ?_
    rw [b2]
    refine ⟨fun z => absurd z (oI_ne (by omega)), fun _ => r_behind h hi os hk b1 hK1 ?_⟩
    rw [b2, g8, e6]
    refine ⟨vp_in_nI (by omega) (by decide), fun _ => hP, fun z => absurd ?_ z⟩
    show nI v + nI _ * nI _ = nI c
    rw [pk_mul, nI_add, b3]
  | succ r ih =>
    intro n e
    have next : ∀ v32, v32 = nI n + 1 → lp_X12_bought_66a g m s (nI k) (nI f) (nI (prN σ k)) K (r + 1) v32 S := fun v32 e32 => by
      rw [nI_1] at e32; subst e32; exact ih (n + 1) (by omega)
    unfold lp_X12_bought_66a
    rw [nI_add]
    refine r_behind h hi os hk (by omega) hK1 ?_
    cases hbh : bh (bkN σ (ix s) k) (cIo σ (ix s) (k + 1)) (f + n) with
    | none => exact ⟨fun _ => next, fun z => absurd rfl z⟩
    | some u =>
      have hul : u ≤ 494505 := bh_le (fun f c => cIo_le hi hsl) hbh
      have hnp : n * prN σ k ≤ 999 * 99 := Nat.mul_le_mul (by omega) hpr
      refine ⟨fun z => absurd z (oI_ne (by omega)), fun _ => r_behind h hi os hk (by omega) hK1 ?_⟩
      rw [hbh, g8, e6]
      refine ⟨vp_in_nI (by omega) (by decide), fun z => ?_, fun _ => next⟩
      exfalso
      have z : nI u + nI n * nI (prN σ k) = nI c := z
      rw [pk_mul, nI_add, nI_eq (by omega) (by omega)] at z
      exact b4 n (by omega) u hbh z
theorem add_sub3 (a b c : Int32) : a + (b - c) = a + b - c := by
  rw [Int32.sub_eq_add_neg, ← Int32.add_assoc, ← Int32.sub_eq_add_neg]
theorem r_bought {g : Nat → Nat} {m : Nat} {S : HSt} {σ : Sg} (h : MR g m S σ) (hi : Inv σ) (s i : Int32) : wp_X12_bought g m s i S (fun r S' => r = st_bought σ s i ∧ MR g m S' σ) := by
  have hs := hi.1.2.1
  have hn := hi.1.2.2.2.2.2.2
  have h0 := hi.1.1
  unfold wp_X12_bought st_bought
  refine r_isShip h (by omega) (fun os => br1 (r_reckons h hi os (fun can c0 S' h1 h2 => ⟨fun z => absurd z (by decide), fun _ => ?_⟩) (fun nc S' h1 => ⟨fun _ => ⟨?_, h1⟩, fun z => absurd rfl z⟩))) (fun os => br0 ?_)
  · rw [if_pos os, if_pos ⟨can, c0⟩]
    have hge := can.1
    have hsl := okN_lt os (by omega)
    rw [h1.c 1321 6, show nI (cN σ 6) - (2 : Int32) = nI (cN σ 6 - 1) - 1 by rw [show (2 : Int32) = nI 2 by decide, pk_sub hge, nI_pr (by omega)]; congr 1]
    refine r_cnt0 (by omega) (fun oi => br1 ?_) (fun ni => br0 ⟨?_, h1⟩)
    · rw [if_pos oi]
      have hil := okN_lt oi (by omega)
      have ei := okN_eq oi (by omega)
      have key : ∀ (r k : Nat) (w15 : Int32), k + r = ix i + 1 → (k ≠ 0 → w15 = nI (byN σ (ix s) (k - 1) (cfl σ (ix s) (k - 1)))) → lp_X12_bought_43a g i m s (fun _ w15 _ S52 => w15 = nI (byN σ (ix s) (ix i) (cfl σ (ix s) (ix i))) ∧ MR g m S52 σ) (r + 1) (nI k) w15 (nI (cfl σ (ix s) k)) S' := by
        intro r
        induction r with
        | zero =>
          intro k w15 e hw
          have e : k = ix i + 1 := by omega
          refine ⟨fun _ => ⟨?_, h1⟩, fun z => ?_⟩
          · rw [hw (by omega), e]; rfl
          · rw [ei, e] at z; exact absurd (nI_lt (Nat.lt_succ_self _) (by omega)) z
        | succ r ih =>
          intro k w15 e hw
          obtain ⟨o1, l1⟩ := rt_ok hi (show k < cN σ 6 by omega)
          obtain ⟨o2, l2⟩ := rt_ok hi (show k + 1 < cN σ 6 by omega)
          have g1 : gA S' 222 (g 1322) (nI k).toNatClampNeg = dD σ 1322 k := (h1.a 1322 222 _).trans (by rw [nI_clamp (by omega)])
          have g2 : gA S' 222 (g 1322) (nI (k + 1)).toNatClampNeg = dD σ 1322 (k + 1) := (h1.a 1322 222 _).trans (by rw [nI_clamp (by omega)])
          obtain ⟨p1, p2⟩ := path_ok c0 k (by omega)
          refine ⟨fun z => ?_, fun _ => ⟨vp_in_nI (by omega) (by decide), ?_⟩⟩
          · rw [ei] at z; exact absurd z (nI_nlt (by omega) (by omega))
          · rw [g1]
            refine ⟨okN_in o1 h0 (by decide), fun v22 e22 => ?_⟩
            rw [show gA S' 202 (g 1302) (dD σ 1322 k).toNatClampNeg = nI (prN σ k) from (h1.a 1302 202 _).trans (pr_eq hi (show k < cN σ 6 by omega)).1] at e22
            subst e22
            cases hc : cIo σ (ix s) k (cfl σ (ix s) k) with
            | none => exact absurd hc p2
            | some c =>
              have hcs := hc
              rw [cIo_s (by omega)] at hcs
              obtain ⟨b1, ⟨v, b2, b3⟩, b4⟩ := bys_spec p1 hcs
              have hbk : bkN σ (ix s) k ≤ cfl σ (ix s) k + byN σ (ix s) k (cfl σ (ix s) k) := by
                unfold bh at b2; split at b2
                · assumption
                · cases b2
              obtain ⟨e1, b1'⟩ := bk_eq hi hsl (show k + 1 < cN σ 6 by omega)
              refine ⟨byN σ (ix s) k (cfl σ (ix s) k) + 1, r_find h1 hi os (by omega) p1 hc h2 ?_ (byN σ (ix s) k (cfl σ (ix s) k)) 0 (by omega)⟩
              rw [nI_1, g1, g2]
              refine ⟨vp_in_nI (by omega) (by decide), vp_in_nI (by omega) (by decide), r_burns h1 hi os o1 o2 (fun v48 e48 v50 e50 => ?_)⟩
              rw [show brI σ (ix s) (ix (dD σ 1322 k)) (ix (dD σ 1322 (k + 1))) = nI (bkN σ (ix s) k) from e1, add_sub3, nI_add, pk_sub hbk] at e48
              subst e48 e50
              exact ih (k + 1) _ (by omega) (fun _ => rfl)
      exact ⟨ix i + 1 + 1, key (ix i + 1) 0 0 (by omega) (fun z => absurd rfl z)⟩
    · rw [if_neg ni]
  · rw [if_pos os, if_neg nc]
  · rw [if_neg os]; exact ⟨rfl, h⟩
