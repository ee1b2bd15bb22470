/-! the class reckons the coal -/
def KT (ad : AD) (σ : Sg) (s i : Nat) (S : HSt) : Prop := (∀ j f, i ≤ j → j < cN σ 6 - 1 → f ≤ MNs σ s → gA S 262 (ad 11 j) f = nI (byN σ s j f)) ∧ ∀ j, i ≤ j → j < cN σ 6 - 1 → gA S 258 (ad 10 15) j = nI (bkN σ s j)
def PB (ad : AD) (x : Nat) (σ : Sg) (s i : Nat) (S : HSt) : Prop := CR ad x S σ ∧ gI S 100 (ad 10 9) = nI (cN σ 6 - 1) ∧ KT ad σ s (i + 1) S ∧ gA S 258 (ad 10 15) i = nI (bkN σ s i) ∧ ∀ f, f ≤ MNs σ s → gA S 261 (ad 10 19) f = oNv (cIo σ s (i + 1) f)
def PL (ad : AD) (x : Nat) (σ : Sg) (s i : Nat) (S : HSt) : Prop := CR ad x S σ ∧ gI S 100 (ad 10 9) = nI (cN σ 6 - 1) ∧ KT ad σ s i S ∧ ∀ f, f ≤ MNs σ s → gA S 260 (ad 10 18) f = oNv (cIo σ s i f)
theorem CR.u262 {ad : AD} {x : Nat} {S : HSt} {σ : Sg} (h : CR ad x S σ) (a i : Nat) (v : Int32) : CR ad x (uA S 262 a i v) σ := ⟨h.1.ks (Ks_uA rfl) (fun _ _ => rfl), h.2⟩
theorem CR.u260 {ad : AD} {x : Nat} {S : HSt} {σ : Sg} (h : CR ad x S σ) (a i : Nat) (v : Int32) : CR ad x (uA S 260 a i v) σ := ⟨h.1.ks (Ks_uA rfl) (fun _ _ => rfl), h.2⟩
theorem CR.u258 {ad : AD} {x : Nat} {S : HSt} {σ : Sg} (h : CR ad x S σ) (a i : Nat) (v : Int32) : CR ad x (uA S 258 a i v) σ := ⟨h.1.ks (Ks_uA rfl) (fun _ _ => rfl), h.2⟩
theorem CR.u259 {ad : AD} {x : Nat} {S : HSt} {σ : Sg} (h : CR ad x S σ) (a i : Nat) (v : Int32) : CR ad x (uA S 259 a i v) σ := ⟨h.1.ks (Ks_uA rfl) (fun _ _ => rfl), h.2⟩
theorem CR.s261 {ad : AD} {x : Nat} {S : HSt} {σ : Sg} (h : CR ad x S σ) (a : Nat) (v : Nat → Int32) : CR ad x (sA S 261 a v) σ := ⟨h.1.ks (Ks_sA rfl) (fun _ _ => rfl), h.2⟩
theorem CR.s260 {ad : AD} {x : Nat} {S : HSt} {σ : Sg} (h : CR ad x S σ) (a : Nat) (v : Nat → Int32) : CR ad x (sA S 260 a v) σ := ⟨h.1.ks (Ks_sA rfl) (fun _ _ => rfl), h.2⟩
theorem PB.buy {ad : AD} {x : Nat} {σ : Sg} {s i : Nat} {S : HSt} (hi : Inv σ) (h : PB ad x σ s i S) (hil : i < 6) (f : Nat) (v : Int32) : PB ad x σ s i (uA S 262 (ad 11 i) f v) := by
  obtain ⟨h1, h2, ⟨h3, h3'⟩, h4, h5⟩ := h
  have hn := hi.1.2.2.2.2.2.2
  refine ⟨h1.u262 _ _ _, h2, ⟨fun j g' q1 q2 q3 => ?_, h3'⟩, h4, h5⟩
  rw [gA_uA, if_neg (fun z => ?_)]
  · exact h3 j g' q1 q2 q3
  · have := h1.1.2.2.2.2.2 j i (by omega) hil z.2; omega
theorem PB.cost {ad : AD} {x : Nat} {σ : Sg} {s i : Nat} {S : HSt} (h : PB ad x σ s i S) (f : Nat) (v : Int32) : PB ad x σ s i (uA S 260 (ad 10 18) f v) := by
  obtain ⟨h1, h2, ⟨h3, h3'⟩, h4, h5⟩ := h
  exact ⟨h1.u260 _ _ _, h2, ⟨h3, h3'⟩, h4, h5⟩
theorem c_behind {ad : AD} {x : Nat} {σ : Sg} {s i f : Nat} {S : HSt} (hi : Inv σ) (hs : s < cN σ 1) (hil : i < cN σ 6 - 1) (hf : f ≤ MNs σ s) (h : PB ad x σ s i S) {Post : Int32 → HSt → Prop} (hP : Post (oNv (bh (bkN σ s i) (cIo σ s (i + 1)) f)) S) : wp_X0_costBehind (ad 10 9) (nI i) (nI f) S Post := by
  obtain ⟨h1, h2, h3, h4, h5⟩ := h
  have hn := hi.1.2.2.2.2.2.2
  have hM := (MN_eq hi hs).2
  have hb := (bk_eq hi hs (show i + 1 < cN σ 6 by omega)).2
  obtain ⟨p1, p2, p3⟩ := h1.1.g 101 9 15 258 6
  obtain ⟨q1, q2, q3⟩ := h1.1.g 105 9 19 261 1000
  refine ⟨_, p1, p2, by rw [p3]; exact vp_in_nI (by omega) (by decide), fun v5 e5 => ?_⟩
  rw [nI_clamp (by omega), h4] at e5
  unfold bh at hP
  by_cases hbf : bkN σ s i ≤ f
  · rw [pk_sub hbf] at e5
    subst e5
    rw [if_pos hbf] at hP
    have h9 := nI_nlt (a := 999) (b := f - bkN σ s i) (by omega) (by decide)
    refine ⟨fun z => absurd z (nI_pos (by omega)), fun _ => ⟨fun z => absurd z h9, fun _ => ⟨_, q1, q2, by rw [q3]; exact vp_in_nI (by omega) (by decide), ?_⟩⟩⟩
    rw [nI_clamp (by omega), h5 _ (by omega)]; exact hP
  · rw [if_neg hbf] at hP
    have : v5 < 0 := by rw [e5]; exact pk_sneg (by omega) (by omega)
    exact ⟨fun _ => hP, fun z => absurd this z⟩
theorem c_without {ad : AD} {x : Nat} {σ : Sg} {s i : Nat} (hi : Inv σ) (hs : s < cN σ 1) (hil : i < cN σ 6 - 1) (hp : prN σ i = 0) {Post : Unit → HSt → Prop} {S : HSt} (h : PB ad x σ s i S) (hP : ∀ S', PL ad x σ s i S' → Post () S') : wp_X0_planWithout (ad 10 9) (nI i) (nI (MNs σ s)) S Post := by
  have hn := hi.1.2.2.2.2.2.2
  have hM := (MN_eq hi hs).2
  have hby : ∀ f, byN σ s i f = 0 := fun f => by unfold byN bys; rw [if_pos hp]
  have hco : ∀ f, cIo σ s i f = bh (bkN σ s i) (cIo σ s (i + 1)) f := fun f => by rw [cIo_s hil]; unfold stp; rw [if_pos hp]
  refine ⟨MNs σ s + 1 + 1, ?_⟩
  have key : ∀ (r j : Nat) (S : HSt), j + r = MNs σ s + 1 → PB ad x σ s i S → (∀ f, f < j → gA S 262 (ad 11 i) f = nI (byN σ s i f) ∧ gA S 260 (ad 10 18) f = oNv (cIo σ s i f)) → lp_X0_planWithout_2a (nI (MNs σ s)) (ad 10 9) (nI i) (fun _ S29 => Post () S29) (r + 1) (nI j) S := by
    intro r
    induction r with
    | zero =>
      intro j S e h hr
      have e : j = MNs σ s + 1 := by omega
      subst e
      refine ⟨fun _ => hP S ⟨h.1, h.2.1, ⟨fun k f k1 k2 k3 => ?_, fun k k1 k2 => ?_⟩, fun f hf => (hr f (by omega)).2⟩, fun z => absurd (nI_lt (Nat.lt_succ_self _) (by omega)) z⟩
      · by_cases e : k = i
        · subst e; exact (hr f (by omega)).1
        · exact h.2.2.1.1 k f (by omega) k2 k3
      · by_cases e : k = i
        · subst e; exact h.2.2.2.1
        · exact h.2.2.1.2 k (by omega) k2
    | succ r ih =>
      intro j S e h hr
      obtain ⟨p1, p2, p3⟩ := h.1.1.g 103 9 17 1000 6
      obtain ⟨b1, b2, b3⟩ := h.1.1.2.2.2.2.1 i (by omega)
      refine ⟨fun z => absurd z (nI_nlt (by omega) (by omega)), fun _ => ⟨_, p1, p2, by rw [p3]; exact vp_in_nI (by omega) (by decide), _, by rw [nI_clamp (by omega)]; exact b1, b2, by rw [b3]; exact vp_in_nI (by omega) (by decide), fun S14 e14 => ?_⟩⟩
      rw [nI_clamp (by omega)] at e14
      have h14 : PB ad x σ s i S14 := by rw [e14]; exact h.buy hi (by omega) _ _
      obtain ⟨q1, q2, q3⟩ := h14.1.1.g 104 9 18 260 1000
      refine ⟨_, q1, c_behind hi hs hil (by omega) h14 ⟨q2, by rw [q3]; exact vp_in_nI (by omega) (by decide), fun S24 e24 v27 e27 => ?_⟩⟩
      rw [nI_clamp (by omega)] at e24
      rw [nI_1] at e27
      subst e27
      have h24 : PB ad x σ s i S24 := by rw [e24]; exact h14.cost _ _
      refine ih (j + 1) S24 (by omega) h24 (fun f hf => ?_)
      have e26 : gA S24 262 (ad 11 i) = gA S14 262 (ad 11 i) := by rw [e24, gA_uA, if_neg (fun z => absurd z.1 (by decide))]
      have e28 : gA S14 260 (ad 10 18) = gA S 260 (ad 10 18) := by rw [e14, gA_uA, if_neg (fun z => absurd z.1 (by decide))]
      rw [e26, e24, e14, gA_uA, if_pos ⟨rfl, rfl⟩, gA_uA, if_pos ⟨rfl, rfl⟩]
      by_cases e : f = j
      · subst e
        rw [pk_us, pk_us, hby, hco]; exact ⟨nI_0.symm, rfl⟩
      · rw [pk_un e, pk_un e, ← e14, e28]; exact hr f (by omega)
  exact key (MNs σ s + 1) 0 S (by omega) h (fun f hf => absurd hf (Nat.not_lt_zero f))
theorem mx_sub {a b : Nat} (ha : a < 2 ^ 30) (hb : b < 2 ^ 30) : (if nI a - nI b < (0 : Int32) then (0 : Int32) else nI a - nI b) = nI (a - b) := by
  by_cases h : a < b
  · rw [if_pos (pk_sneg hb h), show a - b = 0 by omega]; rfl
  · rw [pk_sub (by omega), if_neg (nI_pos (by omega))]
theorem c_buying {ad : AD} {x : Nat} {σ : Sg} {s i : Nat} (hi : Inv σ) (hs : s < cN σ 1) (hil : i < cN σ 6 - 1) (hp : prN σ i ≠ 0) {Post : Unit → HSt → Prop} {S : HSt} (h : PB ad x σ s i S) (hP : ∀ S', PL ad x σ s i S' → Post () S') : wp_X0_planBuying (ad 10 9) (nI i) (nI (MNs σ s)) (nI (prN σ i)) S Post := by
  have hn := hi.1.2.2.2.2.2.2
  have hM := (MN_eq hi hs).2
  have hpr := (pr_eq hi (show i < cN σ 6 by omega)).2
  refine ⟨MNs σ s + 1 + 1, ?_⟩
  have key : ∀ (r : Nat) (w3 w4 : Int32) (S : HSt), r ≤ MNs σ s + 1 → PB ad x σ s i S → (∀ f, r ≤ f → f ≤ MNs σ s → gA S 262 (ad 11 i) f = nI (byN σ s i f) ∧ gA S 260 (ad 10 18) f = oNv (cIo σ s i f)) → w3 = oNv (lsc (bkN σ s i) (prN σ i) (MNs σ s) (cIo σ s (i + 1)) (MNs σ s + 1 - r)) → w4 = nI (fsc (bkN σ s i) (prN σ i) (MNs σ s) (cIo σ s (i + 1)) (MNs σ s + 1 - r)) → lp_X0_planBuying_10a (ad 10 9) (nI i) (nI (prN σ i)) (fun _ _ _ S99 => Post () S99) (r + 1) (dI r) w3 w4 S := by
    intro r
    induction r with
    | zero =>
      intro w3 w4 S e h hr e3 e4
      refine ⟨fun _ => hP S ⟨h.1, h.2.1, ⟨fun k f k1 k2 k3 => ?_, fun k k1 k2 => ?_⟩, fun f hf => (hr f (by omega) hf).2⟩, fun z => absurd dI_neg z⟩
      · by_cases e : k = i
        · subst e; exact (hr f (by omega) k3).1
        · exact h.2.2.1.1 k f (by omega) k2 k3
      · by_cases e : k = i
        · subst e; exact h.2.2.2.1
        · exact h.2.2.1.2 k (by omega) k2
    | succ r ih =>
      intro w3 w4 S e h hr e3 e4
      rw [dI_s]
      obtain ⟨p1, p2, p3⟩ := h.1.1.g 103 9 17 1000 6
      obtain ⟨b1, b2, b3⟩ := h.1.1.2.2.2.2.1 i (by omega)
      have hj : MNs σ s + 1 - r = (MNs σ s + 1 - (r + 1)) + 1 := by omega
      have hjr : MNs σ s - (MNs σ s + 1 - (r + 1)) = r := by omega
      have hls : lsc (bkN σ s i) (prN σ i) (MNs σ s) (cIo σ s (i + 1)) (MNs σ s + 1 - r) = omn (lsc (bkN σ s i) (prN σ i) (MNs σ s) (cIo σ s (i + 1)) (MNs σ s + 1 - (r + 1))) (cnd (bkN σ s i) (prN σ i) (cIo σ s (i + 1)) r) := by
        rw [hj]
        show omn _ (cnd _ _ _ (MNs σ s - (MNs σ s + 1 - (r + 1)))) = _
        rw [hjr]
      have hfs : fsc (bkN σ s i) (prN σ i) (MNs σ s) (cIo σ s (i + 1)) (MNs σ s + 1 - r) = pick (lsc (bkN σ s i) (prN σ i) (MNs σ s) (cIo σ s (i + 1)) (MNs σ s + 1 - (r + 1))) (cnd (bkN σ s i) (prN σ i) (cIo σ s (i + 1)) r) r (fsc (bkN σ s i) (prN σ i) (MNs σ s) (cIo σ s (i + 1)) (MNs σ s + 1 - (r + 1))) := by
        rw [hj]
        show pick _ (cnd _ _ _ (MNs σ s - (MNs σ s + 1 - (r + 1)))) (MNs σ s - (MNs σ s + 1 - (r + 1))) _ = _
        rw [hjr]
      have hge := fun l => lsc_ge (b := bkN σ s i) (p := prN σ i) (M := MNs σ s) (nx := cIo σ s (i + 1)) (j := MNs σ s + 1 - r) (l := l) (by omega)
      rw [show MNs σ s + 1 - (MNs σ s + 1 - r) = r by omega] at hge
      have hle := fun j l => lsc_le (b := bkN σ s i) (p := prN σ i) (M := MNs σ s) (nx := cIo σ s (i + 1)) (B := 494505) (fun f c => cIo_le hi hs) (j := j) (l := l)
      have hMp : MNs σ s * prN σ i ≤ 999 * 99 := Nat.mul_le_mul hM hpr
      have hrp : r * prN σ i ≤ 999 * 99 := Nat.mul_le_mul (by omega) hpr
      have hFl : ∀ j, fsc (bkN σ s i) (prN σ i) (MNs σ s) (cIo σ s (i + 1)) j ≤ 999 := fun j => by
        cases hl : lsc (bkN σ s i) (prN σ i) (MNs σ s) (cIo σ s (i + 1)) j with
        | none =>
          have hz : ∀ j, lsc (bkN σ s i) (prN σ i) (MNs σ s) (cIo σ s (i + 1)) j = none → fsc (bkN σ s i) (prN σ i) (MNs σ s) (cIo σ s (i + 1)) j = 0 := by
            intro j
            induction j with
            | zero => intro _; rfl
            | succ j ihj =>
              intro hl
              have hl2 : omn (lsc (bkN σ s i) (prN σ i) (MNs σ s) (cIo σ s (i + 1)) j) (cnd (bkN σ s i) (prN σ i) (cIo σ s (i + 1)) (MNs σ s - j)) = none := hl
              show pick (lsc (bkN σ s i) (prN σ i) (MNs σ s) (cIo σ s (i + 1)) j) (cnd (bkN σ s i) (prN σ i) (cIo σ s (i + 1)) (MNs σ s - j)) (MNs σ s - j) (fsc (bkN σ s i) (prN σ i) (MNs σ s) (cIo σ s (i + 1)) j) = 0
              cases hc : cnd (bkN σ s i) (prN σ i) (cIo σ s (i + 1)) (MNs σ s - j) with
              | none =>
                cases hl0 : lsc (bkN σ s i) (prN σ i) (MNs σ s) (cIo σ s (i + 1)) j with
                | none => exact ihj hl0
                | some l => rw [hl0, hc] at hl2; cases hl2
              | some v =>
                cases hl0 : lsc (bkN σ s i) (prN σ i) (MNs σ s) (cIo σ s (i + 1)) j with
                | none => rw [hl0, hc] at hl2; cases hl2
                | some l =>
                  rw [hl0, hc] at hl2
                  unfold omn at hl2
                  simp only at hl2
                  split at hl2 <;> cases hl2
          rw [hz j hl]; omega
        | some l =>
          obtain ⟨j', k1, k2, -⟩ := (lsc_inv j).2 l hl
          rw [k2]; omega
      have tail : ∀ W3 W4 : Int32, W3 = oNv (lsc (bkN σ s i) (prN σ i) (MNs σ s) (cIo σ s (i + 1)) (MNs σ s + 1 - r)) → W4 = nI (fsc (bkN σ s i) (prN σ i) (MNs σ s) (cIo σ s (i + 1)) (MNs σ s + 1 - r)) → ∃ b12 : Nat, gR S 103 (ad 10 9) = some b12 ∧ gK S b12 = 1000 ∧ vp_in (nI i) (gN S b12) ∧ ∃ b16 : Nat, (gB S 1000 b12 (nI i).toNatClampNeg) = some b16 ∧ gK S b16 = 262 ∧ vp_in (nI r) (gN S b16) ∧ ∀ S20 : HSt, S20 = uA S 262 b16 (nI r).toNatClampNeg (if (W4 - nI r) < (0 : Int32) then (0 : Int32) else (W4 - nI r)) → ∃ b23 : Nat, gR S20 104 (ad 10 9) = some b23 ∧ (((1000000 : Int32) ≤ W3 → gK S20 b23 = 260 ∧ vp_in (nI r) (gN S20 b23) ∧ ∀ S28 : HSt, S28 = uA S20 260 b23 (nI r).toNatClampNeg (1000000 : Int32) → ∀ v31 : Int32, v31 = (nI r + (-1 : Int32)) → lp_X0_planBuying_10a (ad 10 9) (nI i) (nI (prN σ i)) (fun _ _ _ S99 => Post () S99) (r + 1) v31 W3 W4 S28) ∧ (¬ (1000000 : Int32) ≤ W3 → gK S20 b23 = 260 ∧ vp_in (nI r) (gN S20 b23) ∧ ∀ S35 : HSt, S35 = uA S20 260 b23 (nI r).toNatClampNeg (W3 - (nI r * nI (prN σ i))) → ∀ v38 : Int32, v38 = (nI r + (-1 : Int32)) → lp_X0_planBuying_10a (ad 10 9) (nI i) (nI (prN σ i)) (fun _ _ _ S99 => Post () S99) (r + 1) v38 W3 W4 S35)) := by
        intro W3 W4 hW3 hW4
        refine ⟨_, p1, p2, by rw [p3]; exact vp_in_nI (by omega) (by decide), _, by rw [nI_clamp (by omega)]; exact b1, b2, by rw [b3]; exact vp_in_nI (by omega) (by decide), fun S20 e20 => ?_⟩
        have hF := hFl (MNs σ s + 1 - r)
        rw [nI_clamp (by omega), hW4, mx_sub (by omega) (by omega)] at e20
        have hbv : fsc (bkN σ s i) (prN σ i) (MNs σ s) (cIo σ s (i + 1)) (MNs σ s + 1 - r) - r = byN σ s i r := by unfold byN bys; rw [if_neg hp]
        rw [hbv] at e20
        have h20 : PB ad x σ s i S20 := by rw [e20]; exact h.buy hi (by omega) _ _
        obtain ⟨q1, q2, q3⟩ := h20.1.1.g 104 9 18 260 1000
        have go : ∀ val : Int32, val = oNv (cIo σ s i r) → ∀ S28 : HSt, S28 = uA S20 260 (ad 10 18) (nI r).toNatClampNeg val → ∀ v31 : Int32, v31 = (nI r + (-1 : Int32)) → lp_X0_planBuying_10a (ad 10 9) (nI i) (nI (prN σ i)) (fun _ _ _ S99 => Post () S99) (r + 1) v31 W3 W4 S28 := by
          intro val hval S28 e28 v31 e31
          rw [nI_clamp (by omega)] at e28
          subst e31
          have h28 : PB ad x σ s i S28 := by rw [e28]; exact h20.cost _ _
          refine ih W3 W4 S28 (by omega) h28 (fun f f1 f2 => ?_) hW3 hW4
          have e26 : gA S28 262 (ad 11 i) = gA S20 262 (ad 11 i) := by rw [e28, gA_uA, if_neg (fun z => absurd z.1 (by decide))]
          have e29 : gA S20 260 (ad 10 18) = gA S 260 (ad 10 18) := by rw [e20, gA_uA, if_neg (fun z => absurd z.1 (by decide))]
          rw [e26, e28, gA_uA, if_pos ⟨rfl, rfl⟩, e29, e20, gA_uA, if_pos ⟨rfl, rfl⟩]
          by_cases e : f = r
          · subst e; rw [pk_us, pk_us]; exact ⟨rfl, hval⟩
          · rw [pk_un e, pk_un e]; exact hr f (by omega) f2
        have hst := congrFun (cIo_s (s := s) hil) r
        unfold stp at hst
        rw [if_neg hp] at hst
        refine ⟨_, q1, fun ge => ⟨q2, by rw [q3]; exact vp_in_nI (by omega) (by decide), go _ ?_⟩, fun nge => ⟨q2, by rw [q3]; exact vp_in_nI (by omega) (by decide), go _ ?_⟩⟩
        · cases hl : lsc (bkN σ s i) (prN σ i) (MNs σ s) (cIo σ s (i + 1)) (MNs σ s + 1 - r) with
          | none => rw [hst, hl]; rfl
          | some l =>
            rw [hl] at hW3
            have := hle _ _ hl
            rw [hW3] at ge
            exact absurd ge (nI_ge (b := 1000000) (a := l) (by omega) (by decide))
        · cases hl : lsc (bkN σ s i) (prN σ i) (MNs σ s) (cIo σ s (i + 1)) (MNs σ s + 1 - r) with
          | none =>
            rw [hl] at hW3
            rw [hW3] at nge
            exact absurd (Int32.le_refl _) nge
          | some l =>
            rw [hl] at hW3
            rw [hst, hl, hW3]
            show nI l - nI r * nI (prN σ i) = nI (l - r * prN σ i)
            rw [pk_mul, pk_sub (hge l hl)]
      refine ⟨fun z => absurd z (nI_pos (by omega)), fun _ => c_behind hi hs hil (by omega) h ?_⟩
      cases hb : bh (bkN σ s i) (cIo σ s (i + 1)) r with
      | none =>
        have hc0 : cnd (bkN σ s i) (prN σ i) (cIo σ s (i + 1)) r = none := by unfold cnd; rw [hb]; rfl
        rw [hc0] at hls hfs
        refine ⟨fun _ => tail w3 w4 ?_ ?_, fun z => absurd (Int32.le_refl _) z⟩
        · rw [e3, hls]
          cases lsc (bkN σ s i) (prN σ i) (MNs σ s) (cIo σ s (i + 1)) (MNs σ s + 1 - (r + 1)) <;> rfl
        · rw [e4, hfs]
          cases lsc (bkN σ s i) (prN σ i) (MNs σ s) (cIo σ s (i + 1)) (MNs σ s + 1 - (r + 1)) <;> rfl
      | some c =>
        have hcl : c ≤ 494505 := bh_le (fun f c => cIo_le hi hs) hb
        have hc0 : cnd (bkN σ s i) (prN σ i) (cIo σ s (i + 1)) r = some (c + r * prN σ i) := by unfold cnd; rw [hb]; rfl
        rw [hc0] at hls hfs
        have ev : nI c + nI r * nI (prN σ i) = nI (c + r * prN σ i) := by rw [pk_mul, nI_add]
        refine ⟨fun z => absurd z (nI_ge (b := 1000000) (a := c) (by omega) (by decide)), fun _ => ?_⟩
        show (w3 < nI c + nI r * nI (prN σ i) → _) ∧ (¬ w3 < nI c + nI r * nI (prN σ i) → ∀ v69 : Int32, v69 = nI c + nI r * nI (prN σ i) → _)
        rw [ev]
        cases hl : lsc (bkN σ s i) (prN σ i) (MNs σ s) (cIo σ s (i + 1)) (MNs σ s + 1 - (r + 1)) with
        | none =>
          rw [hl] at hls hfs e3
          have hn3 : ¬ w3 < nI (c + r * prN σ i) := by rw [e3]; exact nI_nlt (a := 1000000) (by omega) (by decide)
          exact ⟨fun z => absurd z hn3, fun _ v69 e69 => tail v69 (nI r) (by rw [e69, hls]; rfl) (by rw [hfs]; rfl)⟩
        | some l =>
          rw [hl] at hls hfs e3
          have hll := hle _ _ hl
          have hlt := nI_ltI (a := l) (b := c + r * prN σ i) (by omega) (by omega)
          refine ⟨fun lt => tail w3 w4 ?_ ?_, fun nl v69 e69 => tail v69 (nI r) ?_ ?_⟩
          · rw [e3] at lt
            have := hlt.mp lt
            rw [hls, e3, show omn (some l) (some (c + r * prN σ i)) = some l from if_neg (by omega)]
          · rw [e3] at lt
            have := hlt.mp lt
            rw [hfs, e4, show pick (some l) (some (c + r * prN σ i)) r (fsc (bkN σ s i) (prN σ i) (MNs σ s) (cIo σ s (i + 1)) (MNs σ s + 1 - (r + 1))) = fsc (bkN σ s i) (prN σ i) (MNs σ s) (cIo σ s (i + 1)) (MNs σ s + 1 - (r + 1)) from if_neg (by omega)]
          · rw [e3] at nl
            have : ¬ l < c + r * prN σ i := fun z => nl (hlt.mpr z)
            rw [hls, e69]
            by_cases e9 : c + r * prN σ i < l
            · rw [show omn (some l) (some (c + r * prN σ i)) = some (c + r * prN σ i) from if_pos e9]; rfl
            · rw [show omn (some l) (some (c + r * prN σ i)) = some l from if_neg e9, show c + r * prN σ i = l by omega]; rfl
          · rw [e3] at nl
            have : ¬ l < c + r * prN σ i := fun z => nl (hlt.mpr z)
            rw [hfs, show pick (some l) (some (c + r * prN σ i)) r (fsc (bkN σ s i) (prN σ i) (MNs σ s) (cIo σ s (i + 1)) (MNs σ s + 1 - (r + 1))) = r from if_pos (by omega)]
  have := key (MNs σ s + 1) 1000000 0 S (Nat.le_refl _) h (fun f f1 f2 => by omega) (by rw [Nat.sub_self]; rfl) (by rw [Nat.sub_self]; rfl)
  rw [dI_s] at this
  exact this
