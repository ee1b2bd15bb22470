/-! a row is filled -/
theorem sA_self (S : HSt) (k a : Nat) : sA S k a (gA S k a) = S := by
  unfold sA
  have e : up2 S.2.2.2.2.2.1 k a (gA S k a) = S.2.2.2.2.2.1 := by
    funext f i
    unfold up2 gA
    split
    · rename_i h; rw [h.1, h.2]
    · rfl
  rw [e]
theorem uA_sA (S : HSt) (k a : Nat) (h : Nat → Int32) (j : Nat) (v : Int32) : uA (sA S k a h) k a j v = sA S k a (upd h j v) := by
  unfold uA
  rw [gA_sA, if_pos ⟨rfl, rfl⟩]
  unfold sA
  have e : up2 (up2 S.2.2.2.2.2.1 k a h) k a (upd h j v) = up2 S.2.2.2.2.2.1 k a (upd h j v) := by
    funext f i
    unfold up2
    split
    · rfl
    · rfl
  show (_, _, _, _, _, up2 (up2 S.2.2.2.2.2.1 k a h) k a (upd h j v), _) = _
  rw [e]
theorem c_fill_lp {kd a N : Nat} {v : Int32} (hN : N < 2 ^ 31) {S0 : HSt} (hn : gN S0 a = N) (K : Int32 → HSt → Prop) (hK : ∀ h, (∀ i, i < N → h i = v) → K (nI N) (sA S0 kd a h)) : ∀ (r j : Nat) (h : Nat → Int32), j + r = N → (∀ i, i < j → h i = v) → lp_J7_fill_53178_5a kd (nI N) a v K (r + 1) (nI j) (sA S0 kd a h) := by
  intro r
  induction r with
  | zero =>
    intro j h hj hh
    have : j = N := by omega
    subst this
    exact ⟨fun _ => hK h hh, fun z => absurd (Int32.le_refl _) z⟩
  | succ r ih =>
    intro j h hj hh
    refine ⟨fun z => absurd z (nI_ge (by omega) hN), fun _ => ⟨?_, fun S9 e9 v12 e12 => ?_⟩⟩
    · show vp_in (nI j) (gN S0 a)
      rw [hn]; exact vp_in_nI (by omega) hN
    · rw [nI_1] at e12
      rw [nI_clamp (by omega), uA_sA] at e9
      subst e9 e12
      refine ih (j + 1) _ (by omega) (fun i hi => ?_)
      by_cases e : i = j
      · subst e; simp [upd]
      · simp [upd, e]; exact hh i (by omega)
theorem c_fill {kd a N : Nat} {v : Int32} {S : HSt} (hN : N < 2 ^ 31) (hn : gN S a = N) {Post : Unit → HSt → Prop} (hp : ∀ h, (∀ i, i < N → h i = v) → Post () (sA S kd a h)) : wp_J7_fill_53178 kd a v S Post := by
  intro v1 e1
  rw [hn] at e1
  subst e1
  refine ⟨N + 1, ?_⟩
  have := c_fill_lp (kd := kd) (v := v) hN hn (fun _ S14 => Post () S14) (fun h hh => hp h hh) N 0 (gA S kd a) (by omega) (fun i hi => absurd hi (Nat.not_lt_zero i))
  rw [sA_self] at this
  exact this
/-! sheet -/
def zk (σ : Sg) (t k : Nat) : Sg := (σ.1, fun f i => if f = 1341 ∧ 40 * t ≤ i ∧ i < 40 * t + k then 0 else σ.2 f i)
theorem zk_n {σ : Sg} {t k f i : Nat} (h : f ≠ 1341 := by decide) : dD (zk σ t k) f i = dD σ f i := if_neg (fun z => h z.1)
theorem zk_0 (σ : Sg) (t : Nat) : zk σ t 0 = σ := by
  refine Prod.ext rfl ?_
  funext f i
  show (if f = 1341 ∧ 40 * t ≤ i ∧ i < 40 * t + 0 then 0 else σ.2 f i) = σ.2 f i
  rw [if_neg (by omega)]
theorem zk_s (σ : Sg) (t k : Nat) : sD (zk σ t k) 1341 (40 * t + k) 0 = zk σ t (k + 1) := by
  refine Prod.ext rfl ?_
  funext f i
  show (if f = 1341 ∧ i = 40 * t + k then 0 else if f = 1341 ∧ 40 * t ≤ i ∧ i < 40 * t + k then 0 else σ.2 f i) = (if f = 1341 ∧ 40 * t ≤ i ∧ i < 40 * t + (k + 1) then 0 else σ.2 f i)
  by_cases h1 : f = 1341 ∧ i = 40 * t + k
  · rw [if_pos h1, if_pos (by omega)]
  · rw [if_neg h1]
    by_cases h2 : f = 1341 ∧ 40 * t ≤ i ∧ i < 40 * t + k
    · rw [if_pos h2, if_pos (by omega)]
    · rw [if_neg h2, if_neg (by omega)]
def ad_sheet (σ : Sg) (t : Nat) (so n : Int32) : Sg := zk (sD (sD σ 1339 t so) 1340 t n) t 40
def st_sheet (σ : Sg) (t so n : Int32) : Int32 × Sg := if okN t 4 then if -1 ≤ so ∧ so ≤ 2 then if so = -1 then (1, ad_sheet σ (ix t) so 0) else if n ≤ 40 then if 0 ≤ n then (1, ad_sheet σ (ix t) so n) else (-14, σ) else (-2, σ) else (-2, σ) else (-2, σ)
theorem r_sheet_lp {g : Nat → Nat} {m : Nat} {t : Int32} (ot : okN t 4) (σ : Sg) (K : Int32 → HSt → Prop) (hK : ∀ w S', MR g m S' (zk σ (ix t) 40) → K w S') : ∀ (r j : Nat) (S : HSt), j + r = 40 → MR g m S (zk σ (ix t) j) → lp_X12_sheet_71a g t K (r + 1) (nI (40 * ix t + j)) S := by
  have ht := okN_lt ot (by omega)
  have e1 : (40 : Int32) * t + (40 : Int32) = nI (40 * ix t + 40) := eq_add (eq_mul (k := 40) (okN_eq ot (by omega))) rfl
  intro r
  induction r with
  | zero =>
    intro j S hj h
    have : j = 40 := by omega
    subst this
    refine ⟨fun _ => hK _ _ h, fun z => ?_⟩
    rw [e1] at z; exact absurd (Int32.le_refl _) z
  | succ r ih =>
    intro j S hj h
    refine ⟨fun z => ?_, fun _ => ⟨vp_in_nI (by omega) (by decide), fun S28 e28 v31 e31 => ?_⟩⟩
    · rw [e1] at z; exact absurd z (nI_ge (by omega) (by omega))
    · rw [nI_1] at e31
      rw [nI_clamp (by omega)] at e28
      subst e28 e31
      have := h.pA 1341 241 (40 * ix t + j) 0
      rw [zk_s] at this
      exact ih (j + 1) _ (by omega) this
theorem r_sheet {g : Nat → Nat} {m : Nat} {S : HSt} {σ : Sg} (h : MR g m S σ) (t so n : Int32) : wp_X12_sheet g m t so n S (fun r S' => r = (st_sheet σ t so n).1 ∧ MR g m S' (st_sheet σ t so n).2) := by
  unfold wp_X12_sheet st_sheet
  refine r_isSheet (fun ot => bs1 (r_in (fun is => bs1 ?_) (fun is => bs0 ?_))) (fun ot => bs0 ?_)
  · have hin := okN_in ot (Nat.le_refl _) (show 4 < 2 ^ 31 by decide)
    rw [if_pos ot, if_pos is]
    have key : ∀ (n' : Int32) (S36 : HSt), S36 = uA (uA S 239 (g 1339) t.toNatClampNeg so) 240 (g 1340) t.toNatClampNeg n' → ∀ v39 : Int32, v39 = ((40 : Int32) * t) → (∃ n41 : Nat, lp_X12_sheet_71a g t (fun _ S52 => (1 : Int32) = 1 ∧ MR g m S52 (ad_sheet σ (ix t) so n')) n41 v39 S36) := fun n' S36 e36 v e => by
      subst e36
      have e1 : (40 : Int32) * t = nI (40 * ix t + 0) := eq_mul (k := 40) (okN_eq ot (by omega))
      rw [e1] at e
      subst e
      refine ⟨41, r_sheet_lp ot (sD (sD σ 1339 (ix t) so) 1340 (ix t) n') _ (fun w S' h' => ⟨rfl, h'⟩) 40 0 _ (by omega) ?_⟩
      rw [zk_0]
      exact (h.pA 1339 239 _ so).pA 1340 240 _ n'
    refine ⟨fun e => ⟨fun _ => ⟨hin, fun S12 e12 => ⟨fun ne => absurd e ne, fun _ => ⟨hin, fun S36 e36 v39 e39 => ?_⟩⟩⟩, fun ne => absurd e ne⟩, fun ne => ⟨fun le => ⟨fun e => absurd e ne, fun _ => ⟨fun ge => ⟨hin, fun S12 e12 => ⟨fun _ => ⟨hin, fun S36 e36 v39 e39 => ?_⟩, fun e => absurd e ne⟩⟩, fun nge => ?_⟩⟩, fun nle => ?_⟩⟩
    · subst e12
      rw [if_pos e]; exact key 0 S36 e36 v39 e39
    · subst e12
      rw [if_neg ne, if_pos le, if_pos ge]; exact key n S36 e36 v39 e39
    · rw [if_neg ne, if_pos le, if_neg nge]; exact ⟨rfl, h⟩
    · rw [if_neg ne, if_neg nle]; exact ⟨rfl, h⟩
  · rw [if_pos ot, if_neg is]; exact ⟨rfl, h⟩
  · rw [if_neg ot]; exact ⟨rfl, h⟩
theorem clampN {n : Int32} (h : 0 ≤ n ∧ n ≤ 40) : (if (if (40 : Int32) < n then (40 : Int32) else n) < (0 : Int32) then (0 : Int32) else (if (40 : Int32) < n then (40 : Int32) else n)) = n := by
  rw [if_neg (show ¬ (40 : Int32) < n from (i_nlt _ _).mpr h.2), if_neg ((i_nlt _ _).mpr h.1)]
theorem c_become {ad : AD} {x : Nat} {S : HSt} {σ : Sg} (h : CR ad x S σ) {t : Nat} (ht : t < 4) (so : Int32) {n : Int32} (hn : 0 ≤ n ∧ n ≤ 40) {Post : Unit → HSt → Prop} (hp : ∀ S', CR ad x S' (ad_sheet σ t so n) → Post () S') : wp_X7_become (ad 8 t) so n S Post := by
  obtain ⟨a1, a2, a3, a4, a5, a6, a7, a8⟩ := h.2.2.2.2.2.2.2.2.2.1 t ht
  intro S1 e1 S4 e4
  rw [clampN hn] at e4
  subst e1 e4
  refine ⟨_, a3, a4, c_fill (S := uI (uI S 800 (ad 8 t) so) 801 (ad 8 t) n) (N := 40) (by decide) a5 (fun hh hz => hp _ ?_)⟩
  obtain ⟨hF, hC, hP, hS, hO, hR, hT, hX, hH, hE⟩ := h
  refine ⟨hF.ks (Ks.trans (Ks.trans (Ks_uI rfl) (Ks_uI rfl)) (Ks_sA rfl)) (fun _ _ => rfl), hC, hP, hS, hO, hR, hT, hX, hH, fun k hk => ?_, hE.2⟩
  obtain ⟨z1, z2, z3, z4, z5, z6, z7, z8⟩ := hE.1 k hk
  have inj : ad 8 k = ad 8 t ↔ k = t := ⟨hE.2.1 k t hk ht, fun e => by rw [e]⟩
  refine ⟨z1, z2, z3, z4, z5, ?_, ?_, fun q hq => ?_⟩
  · have := up_like (S := S) (σ := σ) (v := so) inj z6
    refine Eq.trans (show _ = gI (uI S 800 (ad 8 t) so) 800 (ad 8 k) from ?_) (this.trans ?_)
    · show gI (uI (uI S 800 (ad 8 t) so) 801 (ad 8 t) n) 800 (ad 8 k) = _
      rw [gI_uI, if_neg (fun z => absurd z.1 (by decide))]
    · show _ = dD (zk (sD (sD σ 1339 t so) 1340 t n) t 40) 1339 k
      rw [zk_n]; rfl
  · refine Eq.trans (show _ = gI (uI (uI S 800 (ad 8 t) so) 801 (ad 8 t) n) 801 (ad 8 k) from rfl) (Eq.trans (up_like (S := uI S 800 (ad 8 t) so) (σ := sD σ 1339 t so) (fr := 1340) (v := n) inj z7) ?_)
    show _ = dD (zk (sD (sD σ 1339 t so) 1340 t n) t 40) 1340 k
    rw [zk_n]
  · rw [gA_sA]
    show _ = (if (1341 = 1341 ∧ 40 * t ≤ 40 * k + q ∧ 40 * k + q < 40 * t + 40) then (0 : Int32) else dD σ 1341 (40 * k + q))
    by_cases hki : k = t
    · subst hki
      rw [if_pos ⟨rfl, rfl⟩, if_pos (by omega)]; exact hz q hq
    · rw [if_neg (fun z => hki (hE.2.2 k t hk ht z.2)), if_neg (by omega)]
      exact z8 q hq
theorem c_sheet {ad : AD} {x : Nat} {S : HSt} {σ : Sg} (h : CR ad x S σ) (t so n : Int32) : wp_X11_sheet x t so n S (fun r S' => r = (st_sheet σ t so n).1 ∧ ∃ ad', CR ad' x S' (st_sheet σ t so n).2) := by
  unfold wp_X11_sheet st_sheet
  refine c_sheetAt h (fun ot => ⟨fun z => (by cases z), fun b4 e4 => c_within (fun is => br1 ?_) (fun is => br0 ?_)⟩) (fun ot => ⟨fun _ => ?_, fun b4 e4 => (by cases e4)⟩)
  · cases e4
    have ht := okN_lt ot (by omega)
    have a2 := (h.2.2.2.2.2.2.2.2.2.1 _ ht).2.1
    rw [if_pos ot, if_pos is]
    refine ⟨fun ne => ⟨fun le => ⟨fun ge => ⟨a2, c_become h ht so ⟨ge, le⟩ (fun S' h' => ?_)⟩, fun nge => ?_⟩, fun nle => ?_⟩, fun e => ⟨a2, c_become h ht so ⟨by decide, by decide⟩ (fun S' h' => ?_)⟩⟩
    · rw [if_neg ne, if_pos le, if_pos ge]; exact ⟨rfl, ad, h'⟩
    · rw [if_neg ne, if_pos le, if_neg nge]; exact ⟨rfl, ad, h⟩
    · rw [if_neg ne, if_neg nle]; exact ⟨rfl, ad, h⟩
    · rw [if_pos e]; exact ⟨rfl, ad, h'⟩
  · rw [if_pos ot, if_neg is]; exact ⟨rfl, ad, h⟩
  · rw [if_neg ot]; exact ⟨rfl, ad, h⟩
theorem v_sheet {σ : Sg} (hi : Inv σ) (t so n : Int32) : Inv (st_sheet σ t so n).2 := by
  have key : ∀ n' : Int32, t < 4 → (-1 ≤ so ∧ so ≤ 2) → (0 ≤ n' ∧ n' ≤ 40) → (so = -1 → n' = 0) → Inv (ad_sheet σ (ix t) so n') := fun n' ht hs hn hz => by
    obtain ⟨i0, i1, i2, i3, i4, i5, i6, i7, i8, i9, i10, i11⟩ := hi
    refine ⟨i0, i1, i2, i3, i4, i5, i6, i7, i8, i9, fun k hk => ?_, i11⟩
    have e1 : dD (ad_sheet σ (ix t) so n') 1339 k = if k = ix t then so else dD σ 1339 k := by
      unfold ad_sheet
      rw [zk_n, dD_sD, if_neg (fun z => absurd z.1 (by decide)), dD_same]
    have e2 : dD (ad_sheet σ (ix t) so n') 1340 k = if k = ix t then n' else dD σ 1340 k := by
      unfold ad_sheet
      rw [zk_n, dD_same]; rfl
    rw [e1, e2]
    by_cases e : k = ix t
    · rw [if_pos e, if_pos e]
      exact ⟨bet_of hs (by decide) (by decide), bet_of hn (by decide) (by decide), hz⟩
    · rw [if_neg e, if_neg e]
      exact i10 k hk
  unfold st_sheet
  split
  · rename_i ot
    split
    · rename_i is
      split
      · rename_i e
        exact key 0 ot.2 is ⟨by decide, by decide⟩ (fun _ => rfl)
      · split
        · split
          · rename_i ne le ge
            exact key n ot.2 is ⟨ge, le⟩ (fun e => absurd e ne)
          · exact hi
        · exact hi
    · exact hi
  · exact hi
