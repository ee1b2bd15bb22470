/-! feed -/
def fdB (b : Int64) (k : Nat) : Int32 := ((b >>> (((8 : Int32) * nI k).toInt64 &&& 63)) &&& (255 : Int64)).toInt32
def tp1 (σ : Sg) (v : Int32) : Sg := sN (sD σ 1323 (cN σ 5) v) 5 (cN σ 5 + 1)
def fdF (b : Int64) : Nat → Nat → Sg → Sg
  | 0, _, σ => σ
  | r + 1, k, σ => fdF b r (k + 1) (tp1 σ (fdB b k))
theorem fdB_and (b : Int64) (k : Nat) : (b >>> (((8 : Int32) * nI k).toInt64 &&& 63)).toInt32 &&& (255 : Int32) = fdB b k := by
  unfold fdB
  rw [Int64.toInt32_and]; rfl
theorem fdB_bet (b : Int64) (k : Nat) : bet (fdB b k) 0 255 := by
  rw [← fdB_and]
  generalize (b >>> (((8 : Int32) * nI k).toInt64 &&& 63)).toInt32 = y
  have e : (y.toBitVec &&& 255#32).toNat ≤ 255 := by rw [BitVec.toNat_and]; exact Nat.and_le_right
  have e2 : (y &&& 255).toInt = ((y.toBitVec &&& 255#32).toNat : Int) := by
    show (y.toBitVec &&& 255#32).toInt = _
    exact BitVec.toInt_eq_toNat_of_lt (by omega)
  exact ⟨by rw [e2]; omega, by rw [e2]; omega⟩
def st_feed (σ : Sg) (n : Int32) (b : Int64) : Int32 × Sg := if 1 ≤ n ∧ n ≤ 8 then if cN σ 5 + ix n ≤ 160 then (nI (cN σ 5 + ix n), fdF b (ix n) 0 σ) else (-4, σ) else (-2, σ)
theorem v_tp1 {σ : Sg} (hi : Inv σ) (h : cN σ 5 < 160) {v : Int32} (hv : bet v 0 255) : Inv (tp1 σ v) := by
  obtain ⟨i0, i1, i2, i3, i4, i5, i6, i7, i8, i9, i10, i11, i12⟩ := hi
  refine ⟨⟨i0.1, i0.2.1, i0.2.2.1, i0.2.2.2.1, i0.2.2.2.2.1, (show cN σ 5 + 1 ≤ 160 by omega), i0.2.2.2.2.2.2⟩, i1, i2, i3, i4, i5, i6, i7, i8, i9, i10, fun k hk => ?_, i12⟩
  have hk : k < cN σ 5 + 1 := hk
  show bet (dD (sD σ 1323 (cN σ 5) v) 1323 k) 0 255
  rw [dD_same]
  split
  · exact hv
  · exact i11 k (by omega)
theorem fdF_c (b : Int64) : ∀ (r k : Nat) (σ : Sg), cN (fdF b r k σ) 5 = cN σ 5 + r := by
  intro r
  induction r with
  | zero => intro k σ; rfl
  | succ r ih =>
    intro k σ
    show cN (fdF b r (k + 1) (tp1 σ (fdB b k))) 5 = _
    rw [ih]
    show cN σ 5 + 1 + r = _
    omega
theorem v_fdF (b : Int64) : ∀ (r k : Nat) (σ : Sg), Inv σ → cN σ 5 + r ≤ 160 → Inv (fdF b r k σ) := by
  intro r
  induction r with
  | zero => intro k σ h _; exact h
  | succ r ih =>
    intro k σ h hl
    exact ih _ _ (v_tp1 h (by omega) (fdB_bet _ _)) (by show cN σ 5 + 1 + r ≤ 160; omega)
theorem r_feed_lp {g : Nat → Nat} {m : Nat} {b : Int64} {N : Nat} (hN : N ≤ 8) (K : Int32 → HSt → Prop) : ∀ (r k : Nat) (S : HSt) (σ : Sg), k + r = N → MR g m S σ → cN σ 5 + r ≤ 160 → (∀ S', MR g m S' (fdF b r k σ) → K (nI N) S') → lp_X12_feed_31a g (nI N) m b K (r + 1) (nI k) S := by
  intro r
  induction r with
  | zero =>
    intro k S σ hk h hl hK
    have : k = N := by omega
    subst this
    exact ⟨fun _ => hK S h, fun z => absurd (Int32.le_refl _) z⟩
  | succ r ih =>
    intro k S σ hk h hl hK
    have hc := h.c 1324 5
    have hx : (gI S 1324 m).toNatClampNeg = cN σ 5 := by rw [hc]; exact nI_clamp (by omega)
    refine ⟨fun z => absurd z (nI_ge (by omega) (by omega)), fun _ => ⟨by rw [hc]; exact vp_in_nI (by omega) (by decide), fun S12 e12 S15 e15 v18 e18 => ?_⟩⟩
    rw [nI_1] at e18
    have e3 : gI S12 1324 m + 1 = nI (cN σ 5 + 1) := by subst e12; show gI S 1324 m + 1 = _; rw [hc]; exact nI_1 _
    rw [e3] at e15
    rw [hx] at e12
    subst e12 e15 e18
    have hM : MR g m (uI (uA S 223 (g 1323) (cN σ 5) (fdB b k)) 1324 m (nI (cN σ 5 + 1))) (tp1 σ (fdB b k)) := (h.pA 1323 223 _ _).pI 1324 5 (cN σ 5 + 1) _ rfl
    exact ih (k + 1) _ _ (by omega) hM (by show cN σ 5 + 1 + r ≤ 160; omega) hK
theorem CR.tape {ad : AD} {x : Nat} {S : HSt} {σ : Sg} (h : CR ad x S σ) (v : Int32) : CR ad x (uI (uA S 253 (ad 10 20) (cN σ 5) v) 600 (ad 10 10) (nI (cN σ 5 + 1))) (tp1 σ v) := by
  obtain ⟨hF, hC, hP, hS, hO, hR, hT, hX, hH, hE⟩ := h
  refine ⟨hF.ks (Ks.trans (Ks_uA rfl) (Ks_uI rfl)) (fun _ _ => rfl), ?_, hP, hS, hO, hR, fun k hk => ?_, hX, hH, hE⟩
  · obtain ⟨c0, c1, c2, c3, c4, c5, c6⟩ := hC
    refine ⟨c0, c1, c2, c3, c4, ?_, c6⟩
    rw [gI_same, if_pos rfl]; rfl
  · have hk : k < cN σ 5 + 1 := hk
    show gA (uA S 253 (ad 10 20) (cN σ 5) v) 253 (ad 10 20) k = dD (sD σ 1323 (cN σ 5) v) 1323 k
    rw [gA_uA, if_pos ⟨rfl, rfl⟩, dD_same]
    by_cases e : k = cN σ 5
    · subst e; simp [upd]
    · rw [if_neg e]; simp [upd, e]; exact hT k (by omega)
theorem c_tape {ad : AD} {x : Nat} {S : HSt} {σ : Sg} (h : CR ad x S σ) (hl : cN σ 5 < 160) (v : Int32) {Post : Unit → HSt → Prop} (hp : ∀ S', CR ad x S' (tp1 σ v) → Post () S') : wp_X5_append (ad 10 10) v S Post := by
  have hc := h.2.1.2.2.2.2.2.1
  obtain ⟨q1, q2, q3⟩ := h.1.g 601 10 20 253 160
  unfold wp_X5_append
  rw [hc]
  refine ⟨fun z => absurd z (nI_ge (b := 160) hl (by decide)), fun _ => ⟨_, q1, q2, by rw [q3]; exact vp_in_nI hl (by decide), fun S6 e6 S9 e9 => ?_⟩⟩
  rw [nI_clamp (by omega)] at e6
  have e20 : gI S6 600 (ad 10 10) + 1 = nI (cN σ 5 + 1) := by subst e6; show gI S 600 (ad 10 10) + 1 = _; rw [hc]; exact nI_1 _
  rw [e20] at e9
  subst e6 e9
  exact hp _ (h.tape v)
theorem c_feed_lp {ad : AD} {x : Nat} {b : Int64} {N : Nat} (hN : N ≤ 8) (K : Int32 → HSt → Prop) : ∀ (r k : Nat) (S : HSt) (σ : Sg), k + r = N → CR ad x S σ → cN σ 5 + r ≤ 160 → (∀ S', CR ad x S' (fdF b r k σ) → K (nI N) S') → lp_X11_feed_34a (nI N) x b K (r + 1) (nI k) S := by
  intro r
  induction r with
  | zero =>
    intro k S σ hk h hl hK
    have : k = N := by omega
    subst this
    exact ⟨fun _ => hK S h, fun z => absurd (Int32.le_refl _) z⟩
  | succ r ih =>
    intro k S σ hk h hl hK
    refine ⟨fun z => absurd z (nI_ge (by omega) (by omega)), fun _ => ⟨_, (h.1.o 1216 10 6).1, (h.1.o 1216 10 6).2, ?_⟩⟩
    rw [fdB_and]
    refine c_tape h (by omega) _ (fun S' h' v e => ?_)
    rw [nI_1] at e
    subst e
    exact ih (k + 1) _ _ (by omega) h' (by show cN σ 5 + 1 + r ≤ 160; omega) hK
theorem r_feed {g : Nat → Nat} {m : Nat} {S : HSt} {σ : Sg} (h : MR g m S σ) (hi : Inv σ) (n : Int32) (b : Int64) : wp_X12_feed g m n b S (fun r S' => r = (st_feed σ n b).1 ∧ MR g m S' (st_feed σ n b).2) := by
  have hn := hi.1.2.2.2.2.2.1
  have hc := h.c 1324 5
  unfold wp_X12_feed st_feed
  refine r_in (fun iv => br1 ?_) (fun iv => br0 ?_)
  · obtain ⟨N, hN1, hN2, rfl⟩ := n_of (b := 8) (by decide) iv
    rw [if_pos iv, hc, nI_add, ix_nI (by omega)]
    have hle := nI_leI (a := cN σ 5 + N) (b := 160) (by omega) (by decide)
    refine ⟨fun le => ?_, fun nl => ?_⟩
    · have le' := hle.mp le
      rw [if_pos le']
      refine ⟨N + 1, r_feed_lp hN2 _ N 0 S σ (by omega) h le' (fun S' h' => ⟨?_, h'⟩)⟩
      refine (h'.c 1324 5).trans ?_
      rw [fdF_c]
    · rw [if_neg (fun z => nl (hle.mpr z))]; exact ⟨rfl, h⟩
  · rw [if_neg iv]; exact ⟨rfl, h⟩
theorem c_feed {ad : AD} {x : Nat} {S : HSt} {σ : Sg} (h : CR ad x S σ) (hi : Inv σ) (n : Int32) (b : Int64) : wp_X11_feed x n b S (fun r S' => r = (st_feed σ n b).1 ∧ ∃ ad', CR ad' x S' (st_feed σ n b).2) := by
  have hn := hi.1.2.2.2.2.2.1
  have hc := h.2.1.2.2.2.2.2.1
  unfold wp_X11_feed st_feed
  refine c_within (fun iv => br1 ⟨_, (h.1.o 1216 10 6).1, (h.1.o 1216 10 6).2, ?_⟩) (fun iv => br0 ?_)
  · obtain ⟨N, hN1, hN2, rfl⟩ := n_of (b := 8) (by decide) iv
    rw [if_pos iv, hc, show (160 : Int32) - nI (cN σ 5) = nI (160 - cN σ 5) from nI_sub hn, ix_nI (by omega)]
    have hle := nI_leI (a := N) (b := 160 - cN σ 5) (by omega) (by omega)
    refine ⟨fun le => ?_, fun nl => ?_⟩
    · have le' := hle.mp le
      have le2 : cN σ 5 + N ≤ 160 := by omega
      rw [if_pos le2]
      refine ⟨N + 1, c_feed_lp hN2 _ N 0 S σ (by omega) h le2 (fun S' h' => ⟨_, (h'.1.o 1216 10 6).1, (h'.1.o 1216 10 6).2, ?_, ad, h'⟩)⟩
      refine h'.2.1.2.2.2.2.2.1.trans ?_
      rw [fdF_c]
    · rw [if_neg (fun z => nl (hle.mpr (by omega)))]; exact ⟨rfl, ad, h⟩
  · rw [if_neg iv]; exact ⟨rfl, ad, h⟩
theorem v_feed {σ : Sg} (hi : Inv σ) (n : Int32) (b : Int64) : Inv (st_feed σ n b).2 := by
  unfold st_feed
  split
  · split
    · exact v_fdF _ _ _ _ hi (by assumption)
    · exact hi
  · exact hi
/-! lift -/
def st_lift (σ : Sg) (c b : Int32) : Int32 × Sg := if okN c (cN σ 4) then if dD σ 1330 (ix c) = 5 then if dD σ 1338 (ix c) = 0 then (1, sD σ 1338 (ix c) (if b = 0 then 2 else 1)) else (-3, σ) else (-2, σ) else (-2, σ)
theorem r_lift {g : Nat → Nat} {m : Nat} {S : HSt} {σ : Sg} (h : MR g m S σ) (hi : Inv σ) (c b : Int32) : wp_X12_lift g m c b S (fun r S' => r = (st_lift σ c b).1 ∧ MR g m S' (st_lift σ c b).2) := by
  have hs := hi.1.2.2.2.2.1
  unfold wp_X12_lift st_lift
  refine r_isCharter h (by omega) (fun oc => bs1 ?_) (fun oc => bs0 ?_)
  · have hin := okN_in oc hs (show 12 < 2 ^ 31 by decide)
    rw [if_pos oc, show gA S 230 (g 1330) c.toNatClampNeg = dD σ 1330 (ix c) from h.a 1330 230 _, show gA S 238 (g 1338) c.toNatClampNeg = dD σ 1338 (ix c) from h.a 1338 238 _]
    refine ⟨hin, fun e => ⟨hin, fun e0 => ⟨fun b0 => ⟨hin, fun S11 e11 => ?_⟩, fun b0 => ⟨hin, fun S11 e11 => ?_⟩⟩, fun n0 => ?_⟩, fun ne => ?_⟩
    · subst e11; rw [if_pos e, if_pos e0, if_pos b0]; exact ⟨rfl, h.pA 1338 238 _ _⟩
    · subst e11; rw [if_pos e, if_pos e0, if_neg b0]; exact ⟨rfl, h.pA 1338 238 _ _⟩
    · rw [if_pos e, if_neg n0]; exact ⟨rfl, h⟩
    · rw [if_neg ne]; exact ⟨rfl, h⟩
  · rw [if_neg oc]; exact ⟨rfl, h⟩
theorem CH.inj {ad : AD} {S : HSt} {σ : Sg} (h : CH ad S σ) {i j : Nat} (hi : i < cN σ 4) (hj : j < cN σ 4) : ad 7 i = ad 7 j ↔ i = j := ⟨h.2 i j hi hj, fun e => by rw [e]⟩
theorem CR.how {ad : AD} {x : Nat} {S : HSt} {σ : Sg} (h : CR ad x S σ) {c : Nat} (hc : c < cN σ 4) (v : Int32) : CR ad x (uI S 208 (ad 7 c) v) (sD σ 1338 c v) := by
  obtain ⟨hF, hC, hP, hS, hO, hR, hT, hX, hH, hE⟩ := h
  refine ⟨hF.ks (Ks_uI rfl) (fun _ _ => rfl), hC, hP, hS, hO, hR, hT, hX, ⟨fun k hk => ?_, hH.2⟩, hE⟩
  obtain ⟨a1, a2, a3, a4, a5, a6, a7, a8, a9, b1, b2⟩ := hH.1 k hk
  exact ⟨a1, a2, a3, a4, a5, a6, a7, a8, a9, b1, up_like (hH.inj hk hc) b2⟩
theorem c_lift {ad : AD} {x : Nat} {S : HSt} {σ : Sg} (h : CR ad x S σ) (hi : Inv σ) (c b : Int32) : wp_X11_lift x c b S (fun r S' => r = (st_lift σ c b).1 ∧ ∃ ad', CR ad' x S' (st_lift σ c b).2) := by
  have hs := hi.1.2.2.2.2.1
  unfold wp_X11_lift st_lift
  refine c_charterAt h hi (fun oc => ⟨fun z => (by cases z), fun b4 e4 => ?_⟩) (fun oc => ⟨fun _ => ?_, fun b4 e4 => (by cases e4)⟩)
  · cases e4
    have hp := okN_lt oc (by omega)
    obtain ⟨a1, a2, a3, a4, a5, a6, a7, a8, a9, b1, b2⟩ := h.2.2.2.2.2.2.2.2.1.1 _ hp
    rw [if_pos oc, a3, b2]
    refine ⟨a2, fun e => ⟨fun e0 => ⟨fun b0 S11 e11 => ?_, fun b0 S11 e11 => ?_⟩, fun n0 => ?_⟩, fun ne => ?_⟩
    · subst e11; rw [if_pos e, if_pos e0, if_pos b0]; exact ⟨rfl, ad, h.how hp _⟩
    · subst e11; rw [if_pos e, if_pos e0, if_neg b0]; exact ⟨rfl, ad, h.how hp _⟩
    · rw [if_pos e, if_neg n0]; exact ⟨rfl, ad, h⟩
    · rw [if_neg ne]; exact ⟨rfl, ad, h⟩
  · rw [if_neg oc]; exact ⟨rfl, ad, h⟩
theorem v_lift {σ : Sg} (hi : Inv σ) (c b : Int32) : Inv (st_lift σ c b).2 := by
  unfold st_lift
  split
  · split
    · split
      · rename_i oc e e0
        obtain ⟨i0, i1, i2, i3, i4, i5, i6, i7, i8, i9, i10⟩ := hi
        have key : ∀ k, dD (sD σ 1338 (ix c) (if b = 0 then 2 else 1)) 1338 k = if k = ix c then (if b = 0 then 2 else 1) else dD σ 1338 k := fun k => dD_same _ _ _ _ _
        refine ⟨i0, i1, i2, i3, i4, i5, i6, i7, fun k hk => ?_, fun j k hj hk hne he n1 n2 => ?_, i10⟩
        · obtain ⟨a1, a2, a3, a4, a5, a6, a7, a8, a9, b1, b2⟩ := i8 k hk
          refine ⟨a1, a2, a3, a4, a5, a6, a7, a8, a9, ?_, fun _ => ?_⟩
          · rw [key]
            split
            · split
              · exact ⟨by decide, by decide⟩
              · exact ⟨by decide, by decide⟩
            · exact b1
          · rename_i hq
            rw [key] at hq
            split at hq
            · rename_i hkc; subst hkc; exact e
            · exact b2 hq
        · have old : ∀ q, dD (sD σ 1338 (ix c) (if b = 0 then 2 else 1)) 1338 q ≠ 2 → dD σ 1338 q ≠ 2 := fun q hq z => by
            rw [key] at hq
            split at hq
            · rename_i h9; subst h9; rw [e0] at z; exact absurd z (by decide)
            · exact hq z
          exact i9 j k hj hk hne he (old j n1) (old k n2)
      · exact hi
    · exact hi
  · exact hi
