/-! the class's plan -/
theorem c_plan_lp {ad : AD} {x : Nat} {σ : Sg} {s : Nat} (hi : Inv σ) (hs : s < cN σ 1) {K0 K1 : Int32 → HSt → Prop} (h1 : canS σ → ∀ w S', PL ad x σ s 0 S' → K1 w S') (h0 : ¬ canS σ → ∀ w S', CR ad x S' σ → K0 w S') (ge : 2 ≤ cN σ 6) : ∀ (r : Nat) (S : HSt), r ≤ cN σ 6 - 1 → PL ad x σ s r S → (∀ i, r ≤ i → i < cN σ 6 - 1 → lkI σ (rtN σ i) (rtN σ (i + 1)) = 0) → lp_X0_plan_55a (ad 10 6) (ad 10 9) (ad 2 s) (nI (MNs σ s)) K1 K0 (r + 1) (dI r) S := by
  have hn := hi.1.2.2.2.2.2.2
  have hp0 := hi.1.1
  have hM := (MN_eq hi hs).2
  intro r
  induction r with
  | zero => intro S _ h hl; exact ⟨fun _ => h1 ⟨ge, fun i hi' => hl i (Nat.zero_le _) hi'⟩ _ S h, fun z => absurd dI_neg z⟩
  | succ r ih =>
    intro S hr h hl
    rw [dI_s]
    obtain ⟨hC, hg, hT, hK⟩ := h
    obtain ⟨q1, q2, q3⟩ := hC.1.f 1206 6 601 6
    obtain ⟨o1, l1⟩ := rt_ok hi (show r < cN σ 6 by omega)
    obtain ⟨o2, l2⟩ := rt_ok hi (show r + 1 < cN σ 6 by omega)
    refine ⟨fun z => absurd z (nI_pos (by omega)), fun _ => ⟨by rw [q3]; exact vp_in_nI (by omega) (by decide), fun v21 e21 => ?_⟩⟩
    rw [nI_clamp (by omega), hC.2.2.2.2.2.1 r (by omega)] at e21
    subst e21
    rw [nI_1]
    refine ⟨by rw [q3]; exact vp_in_nI (by omega) (by decide), fun v24 e24 => ?_⟩
    rw [nI_clamp (by omega), hC.2.2.2.2.2.1 (r + 1) (by omega)] at e24
    subst e24
    refine ⟨fun z => (by cases z), fun b26 e26 => ⟨fun z => (by cases z), fun b28 e28 => ?_⟩⟩
    cases e26; cases e28
    refine ⟨(hC.2.2.1.1 _ l1).2.1, (hC.2.2.1.1 _ l2).2.1, c_lacks hC hi l1 l2 ⟨fun (c : lkI σ (rtN σ r) (rtN σ (r + 1)) = 0) => ?_, fun (c : ¬ lkI σ (rtN σ r) (rtN σ (r + 1)) = 0) => h0 (fun z => c (z.2 r (by omega))) _ S hC⟩⟩
    obtain ⟨p1, p2, p3⟩ := hC.1.g 101 9 15 258 6
    refine ⟨_, p1, c_milesTo hC hp0 l1 l2 (c_burnFor hC hi hs ⟨p2, by rw [p3]; exact vp_in_nI (by omega) (by decide), fun S46 e46 => ?_⟩)⟩
    rw [nI_clamp (by omega), show bnI σ s (upI (dD σ 1303 (8 * rtN σ r + rtN σ (r + 1))) (dD σ 1310 s)) = nI (bkN σ s r) from (bk_eq hi hs (show r + 1 < cN σ 6 by omega)).1] at e46
    have h46 : CR ad x S46 σ := by rw [e46]; exact hC.u258 _ _ _
    obtain ⟨u1, u2, u3⟩ := h46.1.g 104 9 18 260 1000
    obtain ⟨w1, w2, w3⟩ := h46.1.g 105 9 19 261 1000
    have z0 : ((0 : Int32)).toNatClampNeg = 0 := by decide
    refine ⟨_, u1, _, w1, _, u1, u2, w2, u2, ⟨by decide, by decide, ?_, ?_, ?_⟩, fun S59 e59 => ?_⟩
    · rw [u3]; exact nI_pos (by decide)
    · rw [u3, z0, nI_clamp (by decide)]; decide
    · rw [u3, w3, z0, nI_clamp (by decide)]; decide
    rw [u3, z0, nI_clamp (by decide)] at e59
    have hb59 : PB ad x σ s r S59 := by
      refine ⟨by rw [e59]; exact h46.s261 _ _, by rw [e59, e46]; exact hg, ⟨fun j f k1 k2 k3 => ?_, fun j k1 k2 => ?_⟩, ?_, fun f hf => ?_⟩
      · rw [e59, gA_sA, if_neg (fun z => absurd z.1 (by decide)), e46, gA_uA, if_neg (fun z => absurd z.1 (by decide))]
        exact hT.1 j f k1 k2 k3
      · rw [e59, gA_sA, if_neg (fun z => absurd z.1 (by decide)), e46, gA_uA, if_pos ⟨rfl, rfl⟩, pk_un (by omega)]
        exact hT.2 j k1 k2
      · rw [e59, gA_sA, if_neg (fun z => absurd z.1 (by decide)), e46, gA_uA, if_pos ⟨rfl, rfl⟩, pk_us]
      · rw [e59, gA_sA, if_pos ⟨rfl, rfl⟩, pk_cpy_in (Nat.zero_le _) (by omega), Nat.zero_add, Nat.sub_zero, e46, gA_uA, if_neg (fun z => absurd z.1 (by decide))]
        exact hK f hf
    obtain ⟨ep, lp⟩ := pr_eq hi (show r < cN σ 6 by omega)
    rw [show gI S59 402 (ad 0 (ix (dD σ 1322 r))) = nI (prN σ r) from (hb59.1.2.2.1.1 _ l1).2.2.2.2.2.2.2.1.trans ep]
    have hpz : nI (prN σ r) = 0 ↔ prN σ r = 0 := nI_eq (b := 0) (by omega) (by decide)
    have next : ∀ S', PL ad x σ s r S' → ∀ v66, v66 = nI r + (-1 : Int32) → lp_X0_plan_55a (ad 10 6) (ad 10 9) (ad 2 s) (nI (MNs σ s)) K1 K0 (r + 1) v66 S' := fun S' h' v66 e66 => by
      subst e66
      refine ih S' (by omega) h' (fun i i1 i2 => ?_)
      by_cases e : i = r
      · subst e; exact c
      · exact hl i (by omega) i2
    exact ⟨fun np => c_buying hi hs (by omega) (fun z => np (hpz.mpr z)) hb59 (fun S' h' => next S' h'), fun zp => c_without hi hs (by omega) (hpz.mp zp) hb59 (fun S' h' => next S' h')⟩
def TN (ad : AD) (σ : Sg) (s : Nat) (S : HSt) : Prop := ∀ i, i < cN σ 6 - 1 → gA S 259 (ad 10 16) i = nI (byN σ s i (cfl σ s i))
theorem c_follow {ad : AD} {x : Nat} {σ : Sg} {s : Nat} (hi : Inv σ) (hs : s < cN σ 1) (c0 : cIo σ s 0 0 ≠ none) {S : HSt} (h : PL ad x σ s 0 S) {Post : Unit → HSt → Prop} (hP : ∀ S', PL ad x σ s 0 S' → TN ad σ s S' → Post () S') : wp_X0_follow (ad 10 9) S Post := by
  have hn := hi.1.2.2.2.2.2.2
  have hM := (MN_eq hi hs).2
  refine ⟨cN σ 6 - 1 + 1, ?_⟩
  have key : ∀ (r k : Nat) (S : HSt), k + r = cN σ 6 - 1 → PL ad x σ s 0 S → (∀ i, i < k → gA S 259 (ad 10 16) i = nI (byN σ s i (cfl σ s i))) → lp_X0_follow_4a (ad 10 9) (fun _ _ S36 => Post () S36) (fun _ _ S38 => Post () S38) (r + 1) (nI k) (nI (cfl σ s k)) S := by
    intro r
    induction r with
    | zero =>
      intro k S e h ht
      have e : k = cN σ 6 - 1 := by omega
      subst e
      refine ⟨fun _ => hP S h ht, fun z => ?_⟩
      rw [h.2.1] at z; exact absurd (Int32.le_refl _) z
    | succ r ih =>
      intro k S e h ht
      obtain ⟨hC, hg, hT, hK⟩ := h
      obtain ⟨p1, p2⟩ := path_ok c0 k (by omega)
      cases hc : cIo σ s k (cfl σ s k) with
      | none => exact absurd hc p2
      | some c =>
        have hcs := hc
        rw [cIo_s (by omega)] at hcs
        obtain ⟨b1, ⟨v, b2, b3⟩, b4⟩ := bys_spec p1 hcs
        have b1 : cfl σ s k + byN σ s k (cfl σ s k) ≤ MNs σ s := b1
        have hbk : bkN σ s k ≤ cfl σ s k + byN σ s k (cfl σ s k) := by
          unfold bh at b2; split at b2
          · assumption
          · cases b2
        have hbb := (bk_eq hi hs (show k + 1 < cN σ 6 by omega)).2
        obtain ⟨q1, q2, q3⟩ := hC.1.g 103 9 17 1000 6
        obtain ⟨t1, t2, t3⟩ := hC.1.g 102 9 16 259 6
        obtain ⟨g1, g2, g3⟩ := hC.1.2.2.2.2.1 k (by omega)
        refine ⟨fun z => ?_, fun _ => ⟨fun z => absurd z (nI_pos (by omega)), fun _ => ⟨fun _ => ⟨_, t1, _, q1, q2, by rw [q3]; exact vp_in_nI (by omega) (by decide), _, by rw [nI_clamp (by omega)]; exact g1, g2, by rw [g3]; exact vp_in_nI (by omega) (by decide), t2, by rw [t3]; exact vp_in_nI (by omega) (by decide), fun S21 e21 => ?_⟩, fun z => absurd (nI_le (b := 999) (by omega) (by decide)) z⟩⟩⟩
        · rw [hg] at z; exact absurd z (nI_ge (by omega) (by omega))
        · rw [nI_clamp (by omega), nI_clamp (by omega), hT.1 k _ (Nat.zero_le _) (by omega) p1] at e21
          have h21 : PL ad x σ s 0 S21 := by
            rw [e21]
            exact ⟨hC.u259 _ _ _, hg, ⟨fun j f k1 k2 k3 => by rw [gA_uA, if_neg (fun z => absurd z.1 (by decide))]; exact hT.1 j f k1 k2 k3, fun j k1 k2 => by rw [gA_uA, if_neg (fun z => absurd z.1 (by decide))]; exact hT.2 j k1 k2⟩, fun f hf => by rw [gA_uA, if_neg (fun z => absurd z.1 (by decide))]; exact hK f hf⟩
          obtain ⟨a1, a2, a3⟩ := h21.1.1.g 102 9 16 259 6
          obtain ⟨d1, d2, d3⟩ := h21.1.1.g 101 9 15 258 6
          have v1 : gA S21 259 (ad 10 16) k = nI (byN σ s k (cfl σ s k)) := by rw [e21, gA_uA, if_pos ⟨rfl, rfl⟩, pk_us]
          have v2 : gA S21 258 (ad 10 15) k = nI (bkN σ s k) := h21.2.2.1.2 k (Nat.zero_le _) (by omega)
          refine ⟨_, a1, a2, by rw [a3]; exact vp_in_nI (by omega) (by decide), _, d1, d2, by rw [d3]; exact vp_in_nI (by omega) (by decide), fun v32 e32 v34 e34 => ?_⟩
          rw [nI_clamp (by omega), v1, v2, add_sub3, nI_add, pk_sub hbk] at e32
          rw [nI_1] at e34
          subst e32 e34
          refine ih (k + 1) S21 (by omega) h21 (fun i hi' => ?_)
          by_cases e : i = k
          · subst e; exact v1
          · rw [e21, gA_uA, if_pos ⟨rfl, rfl⟩, pk_un e]; exact ht i (by omega)
  exact key (cN σ 6 - 1) 0 S (by omega) h (fun i hi' => absurd hi' (Nat.not_lt_zero i))
theorem c_plan {ad : AD} {x : Nat} {S : HSt} {σ : Sg} (h : CR ad x S σ) (hi : Inv σ) {s : Nat} (hs : s < cN σ 1) {Post : Int32 → HSt → Prop} (h1 : canS σ → ∀ c, cIo σ s 0 0 = some c → c ≤ 494505 → ∀ S', CR ad x S' σ → gI S' 100 (ad 10 9) = nI (cN σ 6 - 1) → TN ad σ s S' → Post (nI c) S') (h0 : ¬ (canS σ ∧ cIo σ s 0 0 ≠ none) → ∀ S', CR ad x S' σ → Post (-1) S') : wp_X0_plan (ad 10 9) (ad 2 s) (ad 10 6) (nI (cN σ 6)) S Post := by
  have hn := hi.1.2.2.2.2.2.2
  obtain ⟨eM, hM⟩ := MN_eq hi hs
  obtain ⟨q1, q2, q3⟩ := h.1.f 1206 6 601 6
  intro S1 e1
  rw [q3, if_neg (show ¬ nI 6 < nI (cN σ 6) from nI_nlt (by omega) (by decide)), if_neg (show ¬ (6 : Int32) < nI (cN σ 6) from nI_nlt (a := 6) (by omega) (by decide))] at e1
  have hC : CR ad x S1 σ := by rw [e1]; exact ⟨h.1.ks (Ks_uI rfl) (fun _ _ => rfl), h.2⟩
  have v1 : gI S1 100 (ad 10 9) = nI (cN σ 6) - 1 := by rw [e1, gI_same, if_pos rfl]
  rw [v1]
  refine ⟨fun le v5 e5 => ?_, fun nle => h0 (fun z => nle ?_) S1 hC⟩
  · have ge : 2 ≤ cN σ 6 := by
      have : cN σ 6 = 0 ∨ cN σ 6 = 1 ∨ 2 ≤ cN σ 6 := by omega
      rcases this with e | e | e
      · rw [e] at le; exact absurd le (by decide)
      · rw [e] at le; exact absurd le (by decide)
      · exact e
    have v1' : gI S1 100 (ad 10 9) = nI (cN σ 6 - 1) := v1.trans (nI_pr (by omega))
    have b902 : gI S1 902 (ad 2 s) = nI (MNs σ s) := (hC.2.2.2.1.1 s hs).2.2.2.2.2.2.2.1.trans eM
    rw [b902, if_neg (show ¬ (999 : Int32) < nI (MNs σ s) from nI_nlt (a := 999) (by omega) (by decide))] at e5
    subst e5
    obtain ⟨u1, u2, u3⟩ := hC.1.g 104 9 18 260 1000
    refine ⟨_, u1, u2, c_fill (N := 1000) (by decide) u3 (fun hh hz v13 e13 => ?_)⟩
    have hCf : CR ad x (sA S1 260 (ad 10 18) hh) σ := hC.s260 _ _
    rw [show gI (sA S1 260 (ad 10 18) hh) 100 (ad 10 9) = nI (cN σ 6 - 1) from v1', show nI (cN σ 6 - 1) - (1 : Int32) = dI (cN σ 6 - 1) by rw [nI_pr (by omega), ← dI_s]; congr 1; omega] at e13
    subst e13
    have hPL : PL ad x σ s (cN σ 6 - 1) (sA S1 260 (ad 10 18) hh) := by
      refine ⟨hCf, v1', ⟨fun j f k1 k2 k3 => by omega, fun j k1 k2 => by omega⟩, fun f hf => ?_⟩
      rw [gA_sA, if_pos ⟨rfl, rfl⟩, cIo_L, hz f (by omega)]; exact nI_0.symm
    refine ⟨cN σ 6 - 1 + 1, c_plan_lp hi hs (fun can w S' hp => ?_) (fun ncan w S' hp => h0 (fun z => ncan z.1) S' hp) ge (cN σ 6 - 1) _ (Nat.le_refl _) hPL (fun i i1 i2 => by omega)⟩
    obtain ⟨a1, a2, a3⟩ := hp.1.1.g 104 9 18 260 1000
    have z0 : ((0 : Int32)).toNatClampNeg = 0 := by decide
    refine ⟨_, a1, a2, by rw [a3]; exact vp_in_nI (n := 0) (by decide) (by decide), ?_⟩
    rw [show gA S' 260 (ad 10 18) ((0 : Int32)).toNatClampNeg = oNv (cIo σ s 0 0) by rw [z0]; exact hp.2.2.2 0 (Nat.zero_le _)]
    cases hc : cIo σ s 0 0 with
    | none => exact ⟨fun z => absurd z (show ¬ (1000000 : Int32) < 1000000 by decide), fun _ => h0 (fun z => z.2 hc) S' hp.1⟩
    | some c =>
      have hcl := cIo_le hi hs hc
      refine ⟨fun _ => c_follow hi hs (by rw [hc]; intro z; cases z) hp (fun S'' hp2 ht => ?_), fun z => absurd (nI_lt (b := 1000000) (a := c) (by omega) (by decide)) z⟩
      obtain ⟨d1, d2, d3⟩ := hp2.1.1.g 104 9 18 260 1000
      refine ⟨_, d1, d2, by rw [d3]; exact vp_in_nI (n := 0) (by decide) (by decide), ?_⟩
      rw [show gA S'' 260 (ad 10 18) ((0 : Int32)).toNatClampNeg = nI c by rw [z0]; exact (hp2.2.2.2 0 (Nat.zero_le _)).trans (by rw [hc]; rfl)]
      exact h1 can c hc hcl S'' hp2.1 hp2.2.1 ht
  · rw [nI_pr (by have := z.1.1; omega)]
    exact nI_le (a := 1) (by have := z.1.1; omega) (by omega)
theorem c_bunker {ad : AD} {x : Nat} {S : HSt} {σ : Sg} (h : CR ad x S σ) (hi : Inv σ) (s : Int32) : wp_X11_bunker x s S (fun r S' => r = st_bunker σ s ∧ ∃ ad', CR ad' x S' σ) := by
  have hs := hi.1.2.1
  unfold wp_X11_bunker st_bunker
  refine c_shipAt h hi (fun os => ⟨fun z => (by cases z), fun b4 e4 => ?_⟩) (fun os => ⟨fun _ => ?_, fun b4 e4 => (by cases e4)⟩)
  · cases e4
    have hsl := okN_lt os (by omega)
    obtain ⟨q1, q2⟩ := h.1.o 1215 9 1
    obtain ⟨p1, p2, p3⟩ := h.1.f 1206 6 601 6
    rw [if_pos os]
    refine ⟨_, q1, _, p1, q2, (h.2.2.2.1.1 _ hsl).2.1, p2, ?_⟩
    rw [h.2.1.2.2.2.2.2.2]
    refine c_plan h hi hsl (fun can c hc _ S' h' _ _ => ⟨?_, ad, h'⟩) (fun nc S' h' => ⟨?_, ad, h'⟩)
    · rw [if_pos ⟨can, by rw [hc]; intro z; cases z⟩, hc]; rfl
    · rw [if_neg nc]
  · rw [if_neg os]; exact ⟨rfl, ad, h⟩
theorem c_bought {ad : AD} {x : Nat} {S : HSt} {σ : Sg} (h : CR ad x S σ) (hi : Inv σ) (s i : Int32) : wp_X11_bought x s i S (fun r S' => r = st_bought σ s i ∧ ∃ ad', CR ad' x S' σ) := by
  have hs := hi.1.2.1
  have hn := hi.1.2.2.2.2.2.2
  unfold wp_X11_bought st_bought
  refine c_shipAt h hi (fun os => ⟨fun z => (by cases z), fun b4 e4 => ?_⟩) (fun os => ⟨fun _ => ?_, fun b4 e4 => (by cases e4)⟩)
  · cases e4
    have hsl := okN_lt os (by omega)
    obtain ⟨q1, q2⟩ := h.1.o 1215 9 1
    obtain ⟨p1, p2, p3⟩ := h.1.f 1206 6 601 6
    rw [if_pos os]
    refine ⟨_, q1, _, p1, q2, (h.2.2.2.1.1 _ hsl).2.1, p2, ?_⟩
    rw [h.2.1.2.2.2.2.2.2]
    refine c_plan h hi hsl (fun can c hc hcl S' h' hL ht => ⟨fun _ => ?_, fun z => absurd z (oI_ne (by omega))⟩) (fun nc S' h' => ⟨fun z => absurd rfl z, fun _ => ⟨?_, ad, h'⟩⟩)
    · rw [if_pos ⟨can, by rw [hc]; intro z; cases z⟩]
      obtain ⟨t1, t2⟩ := h'.1.o 1215 9 1
      obtain ⟨r1, r2, r3⟩ := h'.1.g 102 9 16 259 6
      refine ⟨_, t1, t2, ?_⟩
      unfold wp_X0_tonsAt
      rw [hL]
      refine ⟨fun z => ⟨?_, ad, h'⟩, fun nz => ⟨fun le => ⟨?_, ad, h'⟩, fun nl => ⟨_, r1, r2, ?_, ?_, ad, h'⟩⟩⟩
      · rw [if_neg (fun q => q.1 z)]
      · rw [if_neg (fun q => absurd q.2 ((i_nlt _ _).mpr le))]
      · rw [r3]; exact okN_in (n := cN σ 6 - 1) ⟨nz, (i_nle _ _).mp nl⟩ (by omega) (by decide)
      · have oi : okN i (cN σ 6 - 1) := ⟨nz, (i_nle _ _).mp nl⟩
        rw [if_pos oi]; exact ht _ (okN_lt oi (by omega))
    · rw [if_neg nc]
  · rw [if_neg os]; exact ⟨rfl, ad, h⟩
