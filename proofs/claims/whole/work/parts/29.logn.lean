/-! log: an hour more -/
def ap1 (σ : Sg) (i : Nat) (v : Int32) : Sg := sD (sD σ 1312 (2000 * i + lgN σ i) v) 1311 i (nI (lgN σ i + 1))
theorem lg_ap1 {σ : Sg} {i : Nat} {v : Int32} (h : lgN σ i < 2000) : lgN (ap1 σ i v) i = lgN σ i + 1 := by
  unfold lgN ap1
  rw [dD_same, if_pos rfl]
  exact nI_clamp (by unfold lgN at *; omega)
theorem MR.ap1 {g : Nat → Nat} {m : Nat} {S : HSt} {σ : Sg} (h : MR g m S σ) {i : Nat} {v : Int32} : MR g m (uA (uA S 112 (g 1312) (2000 * i + lgN σ i) v) 211 (g 1311) i (nI (lgN σ i + 1))) (ap1 σ i v) := (h.pA 1312 112 _ v).pA 1311 211 _ _
theorem v_ap1 {σ : Sg} (hi : Inv σ) {i : Nat} (h1 : i < cN σ 1) (h2 : lgN σ i < 2000) {v : Int32} (hv : bet v 0 5) : Inv (ap1 σ i v) := by
  have hl := v_logAt hi (i := i) (j := lgN σ i) hv
  obtain ⟨i0, i1, i2, i3, i4, i5⟩ := hi
  refine ⟨i0, i1, i2, fun k hk => ?_, fun k hk hk5 => ?_, i5⟩
  · obtain ⟨a1, a2, a3, a4, a5, a6, a7, a8⟩ := i3 k hk
    refine ⟨a1, a2, a3, a4, a5, a6, ?_, ?_⟩
    · show bet (dD (sD (sD σ 1312 (2000 * i + lgN σ i) v) 1311 i (nI (lgN σ i + 1))) 1311 k) 0 2000
      rw [dD_same]
      split
      · exact ⟨by rw [nI_toInt (by omega)]; omega, by rw [nI_toInt (by omega)]; omega⟩
      · exact a7
    · intro q hq
      have hq : q < ix (dD (sD (sD σ 1312 (2000 * i + lgN σ i) v) 1311 i (nI (lgN σ i + 1))) 1311 k) := hq
      rw [dD_same] at hq
      show bet (dD (sD σ 1312 (2000 * i + lgN σ i) v) 1312 (2000 * k + q)) 0 5
      rw [dD_same]
      split
      · exact hv
      · rename_i hne
        split at hq
        · rename_i hki
          subst hki
          rw [ix_nI (by omega)] at hq
          exact a8 q (show q < lgN σ k by omega)
        · exact a8 q hq
  · obtain ⟨a1, a2⟩ := i4 k hk hk5
    have hk : cN σ 1 ≤ k := hk
    refine ⟨a1, ?_⟩
    show dD (sD (sD σ 1312 (2000 * i + lgN σ i) v) 1311 i (nI (lgN σ i + 1))) 1311 k = 0
    rw [dD_same, if_neg (by omega)]; exact a2
theorem CR.ap1 {ad : AD} {x : Nat} {S : HSt} {σ : Sg} (h : CR ad x S σ) (hi : Inv σ) {i : Nat} (hs : i < cN σ 1) (hl : lgN σ i < 2000) (v : Int32) : CR ad x (uI (uA S 150 (ad 3 i) (lgN σ i) v) 907 (ad 2 i) (nI (lgN σ i + 1))) (ap1 σ i v) := by
  refine ⟨h.1.ks (Ks.trans (Ks_uA rfl) (Ks_uI rfl)) (fun _ _ => rfl), h.2.1, h.2.2.1, ⟨fun k hk => ?_, h.2.2.2.1.2⟩, h.2.2.2.2⟩
  obtain ⟨a1, a2, a3, a4, a5, a6, a7, a8, a9, b1, b2, b3, b4, b5⟩ := h.2.2.2.1.1 k hk
  have hk' : k < cN σ 1 := hk
  have hs9 := h.2.2.2.1.inj hi.1.2.1 hk' hs
  refine ⟨a1, a2, a3, a4, a5, a6, a7, a8, a9, b1, b2, b3, up_like (S := uA S 150 (ad 3 i) (lgN σ i) v) (σ := sD σ 1312 (2000 * i + lgN σ i) v) hs9 b4, fun q hq => ?_⟩
  have hq : q < ix (dD (sD (sD σ 1312 (2000 * i + lgN σ i) v) 1311 i (nI (lgN σ i + 1))) 1311 k) := hq
  rw [dD_same] at hq
  show gA (uA S 150 (ad 3 i) (lgN σ i) v) 150 (ad 3 k) q = dD (sD σ 1312 (2000 * i + lgN σ i) v) 1312 (2000 * k + q)
  have hkl := (lg_eq hi hk').2
  rw [gA_uA, dD_same]
  by_cases hki : k = i
  · subst hki
    rw [if_pos rfl, ix_nI (by omega)] at hq
    rw [if_pos ⟨rfl, rfl⟩]
    by_cases hqj : q = lgN σ k
    · subst hqj; rw [if_pos rfl]; simp [upd]
    · rw [if_neg (by omega)]; simp [upd, hqj]; exact b5 q (show q < lgN σ k by omega)
  · rw [if_neg hki] at hq
    have hq : q < lgN σ k := hq
    rw [if_neg (fun z => hki (h.2.2.2.1.2 k i hk' hs z.2)), if_neg (fun z => hki (mul_inj (by omega) hl z).1)]
    exact b5 q hq
theorem c_append {ad : AD} {x : Nat} {S : HSt} {σ : Sg} (h : CR ad x S σ) (hi : Inv σ) {i : Nat} (hs : i < cN σ 1) (hl : lgN σ i < 2000) {v : Int32} (hv : 0 ≤ v ∧ v ≤ 5) {Post : Unit → HSt → Prop} (hp : ∀ S', CR ad x S' (ap1 σ i v) → Post () S') : wp_X8_append (ad 2 i) v S Post := by
  obtain ⟨a1, a2, a3, a4, a5, a6, a7, a8, a9, b1, b2, b3, b4, b5⟩ := h.2.2.2.1.1 _ hs
  obtain ⟨l1, l2⟩ := lg_eq hi hs
  unfold wp_X8_append
  rw [b4, l1]
  refine ⟨fun z => absurd z (nI_ge (b := 2000) hl (by decide)), fun _ => ⟨_, a3, a4, by rw [a5]; exact vp_in_nI hl (by decide), fun S6 e6 S9 e9 => ?_⟩⟩
  rw [nI_clamp (by omega), byte_id hv] at e6
  have e20 : gI S6 907 (ad 2 i) + 1 = nI (lgN σ i + 1) := by subst e6; show gI S 907 (ad 2 i) + 1 = _; rw [b4, l1]; exact nI_1 _
  rw [e20] at e9
  subst e6 e9
  exact hp _ (h.ap1 hi hs hl v)
def apN (i : Nat) (v : Int32) : Nat → Sg → Sg
  | 0, σ => σ
  | k + 1, σ => apN i v k (ap1 σ i v)
theorem apN_c (i : Nat) (v : Int32) (k : Nat) (σ : Sg) (c : Nat) : cN (apN i v k σ) c = cN σ c := by
  induction k generalizing σ with
  | zero => rfl
  | succ k ih => exact (ih _).trans rfl
theorem apN_lg (i : Nat) (v : Int32) (k : Nat) (σ : Sg) (h : lgN σ i + k ≤ 2000) : lgN (apN i v k σ) i = lgN σ i + k := by
  induction k generalizing σ with
  | zero => rfl
  | succ k ih =>
    have h1 : lgN (ap1 σ i v) i = lgN σ i + 1 := lg_ap1 (by omega)
    show lgN (apN i v k (ap1 σ i v)) i = _
    rw [ih _ (by omega), h1]; omega
theorem v_apN {i : Nat} {v : Int32} (hv : bet v 0 5) (k : Nat) (σ : Sg) (hi : Inv σ) (h1 : i < cN σ 1) (h : lgN σ i + k ≤ 2000) : Inv (apN i v k σ) := by
  induction k generalizing σ with
  | zero => exact hi
  | succ k ih => exact ih _ (v_ap1 hi h1 (by omega) hv) h1 (by rw [lg_ap1 (by omega)]; omega)
def st_log (σ : Sg) (s v n : Int32) : Int32 × Sg := if okN s (cN σ 1) then if 0 ≤ v ∧ v ≤ 5 then if 1 ≤ n ∧ n ≤ 500 then if lgN σ (ix s) + ix n ≤ 2000 then (nI (lgN σ (ix s) + ix n), apN (ix s) v (ix n) σ) else (-4, σ) else (-2, σ) else (-2, σ) else (-2, σ)
theorem r_log_lp {g : Nat → Nat} {m : Nat} {s v : Int32} {N : Nat} (hN : N ≤ 500) (hv : 0 ≤ v ∧ v ≤ 5) (K : Int32 → HSt → Prop) : ∀ (k : Nat) (j : Nat) (S : HSt) (σ : Sg), j + k = N → MR g m S σ → Inv σ → okN s (cN σ 1) → lgN σ (ix s) + k ≤ 2000 → (∀ S', MR g m S' (apN (ix s) v k σ) → K (nI N) S') → lp_X12_log_49a g (nI N) s v K (k + 1) (nI j) S := by
  intro k
  induction k with
  | zero =>
    intro j S σ hj h hi os hl hK
    have : j = N := by omega
    subst this
    exact ⟨fun _ => hK S h, fun z => absurd (Int32.le_refl _) z⟩
  | succ k ih =>
    intro j S σ hj h hi os hl hK
    refine ⟨fun z => absurd z (nI_ge (by omega) (by omega)), fun _ => ?_⟩
    have hs := hi.1.2.1
    have h1 := okN_lt os (by omega)
    obtain ⟨l1, l2⟩ := lg_eq hi h1
    have hin := okN_in os hs (show 5 < 2 ^ 31 by decide)
    have e1 : gA S 211 (g 1311) s.toNatClampNeg = nI (lgN σ (ix s)) := (h.a 1311 211 _).trans l1
    have e2 : (2000 : Int32) * s + nI (lgN σ (ix s)) = nI (2000 * ix s + lgN σ (ix s)) := eq_add (eq_mul (k := 2000) (okN_eq os (by omega))) rfl
    rw [e1, e2, nI_clamp (by omega)]
    refine ⟨hin, vp_in_nI (by omega) (by decide), fun S22 e22 => ⟨hin, hin, fun S27 e27 v30 e30 => ?_⟩⟩
    rw [byte_id hv] at e22
    have e3 : gA S22 211 (g 1311) s.toNatClampNeg = nI (lgN σ (ix s)) := by
      subst e22; rw [gA_uA, if_neg (fun z => absurd z.1 (by decide))]; exact e1
    rw [e3, nI_1] at e27
    rw [nI_1] at e30
    subst e22 e27 e30
    have hM : MR g m (uA (uA S 112 (g 1312) (2000 * ix s + lgN σ (ix s)) v) 211 (g 1311) (ix s) (nI (lgN σ (ix s) + 1))) (ap1 σ (ix s) v) := h.ap1
    exact ih (j + 1) _ _ (by omega) hM (v_ap1 hi h1 (by omega) (bet_of hv (by decide) (by decide))) os (by rw [lg_ap1 (by omega)]; omega) hK
theorem c_log_lp {ad : AD} {x : Nat} {s : Nat} {v : Int32} {N : Nat} (hN : N ≤ 500) (hv : 0 ≤ v ∧ v ≤ 5) (K : Int32 → HSt → Prop) : ∀ (k : Nat) (j : Nat) (S : HSt) (σ : Sg), j + k = N → CR ad x S σ → Inv σ → s < cN σ 1 → lgN σ s + k ≤ 2000 → (∀ S', CR ad x S' (apN s v k σ) → K (nI N) S') → lp_X11_log_52a (nI N) (ad 2 s) v K (k + 1) (nI j) S := by
  intro k
  induction k with
  | zero =>
    intro j S σ hj h hi os hl hK
    have : j = N := by omega
    subst this
    exact ⟨fun _ => hK S h, fun z => absurd (Int32.le_refl _) z⟩
  | succ k ih =>
    intro j S σ hj h hi os hl hK
    refine ⟨fun z => absurd z (nI_ge (by omega) (by omega)), fun _ => c_append h hi os (by omega) hv (fun S' h' v24 e24 => ?_)⟩
    rw [nI_1] at e24
    subst e24
    exact ih (j + 1) _ _ (by omega) h' (v_ap1 hi os (by omega) (bet_of hv (by decide) (by decide))) os (by rw [lg_ap1 (by omega)]; omega) hK
theorem n_of {n : Int32} {M : Int32} {b : Nat} (hM : M.toInt = b) (h : 1 ≤ n ∧ n ≤ M) : ∃ k, 1 ≤ k ∧ k ≤ b ∧ n = nI k := by
  have h0 : ¬ n < 0 := fun z => by rw [i_lt] at z; have := (i_le _ _).mp h.1; simp at this z; omega
  obtain ⟨k, hk, rfl⟩ := nI_of2 hM h0 h.2
  refine ⟨k, ?_, hk, rfl⟩
  rcases Nat.eq_zero_or_pos k with z | z
  · subst z; exact absurd h.1 (by decide)
  · exact z
theorem r_log {g : Nat → Nat} {m : Nat} {S : HSt} {σ : Sg} (h : MR g m S σ) (hi : Inv σ) (s v n : Int32) : wp_X12_log g m s v n S (fun r S' => r = (st_log σ s v n).1 ∧ MR g m S' (st_log σ s v n).2) := by
  have hs := hi.1.2.1
  unfold wp_X12_log st_log
  refine r_isShip h (by omega) (fun os => bs1 (r_isSort (fun iv => bs1 (r_in (fun iw => br1 ⟨okN_in os hs (by decide), ?_⟩) (fun iw => br0 ?_))) (fun iv => bs0 ?_))) (fun os => bs0 ?_)
  · have h1 := okN_lt os (by omega)
    have hin := okN_in os hs (show 5 < 2 ^ 31 by decide)
    obtain ⟨l1, l2⟩ := lg_eq hi h1
    obtain ⟨N, hN1, hN2, rfl⟩ := n_of (b := 500) (by decide) iw
    rw [if_pos os, if_pos iv, if_pos iw, show gA S 211 (g 1311) s.toNatClampNeg = nI (lgN σ (ix s)) from (h.a 1311 211 _).trans l1, nI_add, ix_nI (by omega)]
    have hle := nI_leI (a := lgN σ (ix s) + N) (b := 2000) (by omega) (by decide)
    refine ⟨fun le => ?_, fun nl => ?_⟩
    · have le' := hle.mp le
      rw [if_pos le']
      refine ⟨N + 1, r_log_lp hN2 iv _ N 0 S σ (by omega) h hi os le' (fun S' h' => ⟨hin, ?_, h'⟩)⟩
      refine (h'.a 1311 211 _).trans ?_
      have hi' := v_apN (i := ix s) (bet_of iv (by decide) (by decide)) N σ hi h1 le'
      rw [show s.toNatClampNeg = ix s from rfl, (lg_eq hi' (by rw [apN_c]; exact h1)).1, apN_lg _ _ _ _ le']
    · rw [if_neg (fun z => nl (hle.mpr z))]; exact ⟨rfl, h⟩
  · rw [if_pos os, if_pos iv, if_neg iw]; exact ⟨rfl, h⟩
  · rw [if_pos os, if_neg iv]; exact ⟨rfl, h⟩
  · rw [if_neg os]; exact ⟨rfl, h⟩
theorem nI_sub {a b : Nat} (h : b ≤ a) : nI a - nI b = nI (a - b) := by
  have : nI a = nI (a - b) + nI b := by rw [nI_add]; congr 1; omega
  rw [this]; exact Int32.add_sub_cancel _ _
theorem c_log {ad : AD} {x : Nat} {S : HSt} {σ : Sg} (h : CR ad x S σ) (hi : Inv σ) (s v n : Int32) : wp_X11_log x s v n S (fun r S' => r = (st_log σ s v n).1 ∧ ∃ ad', CR ad' x S' (st_log σ s v n).2) := by
  have hs := hi.1.2.1
  unfold wp_X11_log st_log
  refine c_shipAt h hi (fun os => ⟨fun z => (by cases z), fun b4 e4 => c_isSort (fun iv => bs1 (c_within (fun iw => br1 ?_) (fun iw => br0 ?_))) (fun iv => bs0 ?_)⟩) (fun os => ⟨fun _ => ?_, fun b4 e4 => (by cases e4)⟩)
  · cases e4
    have h1 := okN_lt os (by omega)
    obtain ⟨a1, a2, a3, a4, a5, a6, a7, a8, a9, b1, b2, b3, b4, b5⟩ := h.2.2.2.1.1 _ h1
    obtain ⟨l1, l2⟩ := lg_eq hi h1
    obtain ⟨N, hN1, hN2, rfl⟩ := n_of (b := 500) (by decide) iw
    rw [if_pos os, if_pos iv, if_pos iw, b4, l1, ix_nI (by omega), show (2000 : Int32) - nI (lgN σ (ix s)) = nI (2000 - lgN σ (ix s)) from nI_sub l2]
    have hle := nI_leI (a := N) (b := 2000 - lgN σ (ix s)) (by omega) (by omega)
    refine ⟨a2, fun le => ?_, fun nl => ?_⟩
    · have le' := hle.mp le
      have le2 : lgN σ (ix s) + N ≤ 2000 := by omega
      rw [if_pos le2]
      refine ⟨N + 1, c_log_lp hN2 iv _ N 0 S σ (by omega) h hi h1 le2 (fun S' h' => ⟨?_, ad, h'⟩)⟩
      have hi' := v_apN (i := ix s) (bet_of iv (by decide) (by decide)) N σ hi h1 le2
      have h1' : ix s < cN (apN (ix s) v N σ) 1 := by rw [apN_c]; exact h1
      rw [(h'.2.2.2.1.1 _ h1').2.2.2.2.2.2.2.2.2.2.2.2.1, (lg_eq hi' h1').1, apN_lg _ _ _ _ le2]
    · rw [if_neg (fun z => nl (hle.mpr (by omega)))]; exact ⟨rfl, ad, h⟩
  · rw [if_pos os, if_pos iv, if_neg iw]; exact ⟨rfl, ad, h⟩
  · rw [if_pos os, if_neg iv]; exact ⟨rfl, ad, h⟩
  · rw [if_neg os]; exact ⟨rfl, ad, h⟩
theorem v_log {σ : Sg} (hi : Inv σ) (s v n : Int32) : Inv (st_log σ s v n).2 := by
  unfold st_log
  split
  · split
    · split
      · split
        · rename_i os iv iw le
          exact v_apN (bet_of iv (by decide) (by decide)) _ _ hi (okN_lt os (by have := hi.1.2.1; omega)) le
        · exact hi
      · exact hi
    · exact hi
  · exact hi
