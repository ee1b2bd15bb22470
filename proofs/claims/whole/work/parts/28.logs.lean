theorem r_cnt0 {p : Int32} {n : Nat} (hn : n < 2 ^ 31) {S : HSt} {Post : Int32 → HSt → Prop} (h1 : okN p n → Post 1 S) (h0 : ¬ okN p n → Post 0 S) : wp_X12_in p 0 (nI n - 1) S Post := by
  refine ⟨fun h => h0 (fun z => z.1 h), fun h => ⟨fun h' => h0 (fun z => ((le_m1 hn h).mpr z.2) h'), fun h' => h1 ⟨h, (le_m1 hn h).mp h'⟩⟩⟩
theorem ix_m {k n m : Nat} {a b : Int32} (ha : okN a n) (hb : okN b m) (h : k * n + m < 2 ^ 31) (hn : n < 2 ^ 31) (hm : m < 2 ^ 31) : nI k * a + b = nI (k * ix a + ix b) := by
  rw [eq_add (eq_mul (k := k) (okN_eq ha hn)) (okN_eq hb hm)]
theorem le_mul {k a n b m : Nat} (ha : a < n) (hb : b < m) (hm : m ≤ k) : k * a + b < k * n := by
  have h1 : k * (a + 1) ≤ k * n := Nat.mul_le_mul_left k ha
  have h2 : k * (a + 1) = k * a + k := Nat.mul_succ k a
  omega
theorem mul_inj {k a b c d : Nat} (hb : b < k) (hd : d < k) (h : k * a + b = k * c + d) : a = c ∧ b = d := by
  rcases Nat.lt_trichotomy a c with h1 | h1 | h1
  · have := le_mul (k := k) h1 hb (Nat.le_refl k); omega
  · subst h1; exact ⟨rfl, by omega⟩
  · have := le_mul (k := k) h1 hd (Nat.le_refl k); omega
/-! go -/
def ad_go (σ : Sg) (p : Int32) : Sg := sN (sD σ 1322 (cN σ 6) p) 6 (cN σ 6 + 1)
def st_go (σ : Sg) (p : Int32) : Int32 × Sg := if okN p (cN σ 0) then if cN σ 6 = 0 then (nI (cN σ 6 + 1), ad_go σ p) else if dD σ 1322 (cN σ 6 - 1) = p then (-2, σ) else if cN σ 6 = 6 then (-4, σ) else (nI (cN σ 6 + 1), ad_go σ p) else (-2, σ)
theorem nI_le0 {n : Nat} (h : n < 2 ^ 31) : nI n ≤ 0 ↔ n = 0 := by
  constructor
  · intro z
    rcases Nat.eq_zero_or_pos n with h0 | h0
    · exact h0
    · exact absurd z (nI_nle h0 h)
  · intro z; subst z; decide
theorem nI_pr {n : Nat} (h0 : n ≠ 0) : nI n - 1 = nI (n - 1) := by
  obtain ⟨k, rfl⟩ : ∃ k, n = k + 1 := ⟨n - 1, by omega⟩
  exact nI_pred k
theorem r_go1 {g : Nat → Nat} {m : Nat} {S : HSt} {σ : Sg} (h : MR g m S σ) (hi : Inv σ) (p : Int32) (ne : ¬ cN σ 6 = 6) : vp_in (gI S 1321 m) 6 ∧ ∀ S8 : HSt, S8 = uA S 222 (g 1322) (gI S 1321 m).toNatClampNeg p → ∀ S11 : HSt, S11 = uI S8 1321 m (gI S8 1321 m + 1) → (fun r S' => r = nI (cN σ 6 + 1) ∧ MR g m S' (ad_go σ p)) (gI S11 1321 m) S11 := by
  have hn := hi.1.2.2.2.2.2.2
  have hc := h.c 1321 6
  have hx : (gI S 1321 m).toNatClampNeg = cN σ 6 := by rw [hc]; exact nI_clamp (by omega)
  refine ⟨by rw [hc]; exact vp_in_nI (by omega) (by decide), fun S8 e8 S11 e11 => ?_⟩
  subst e8 e11
  refine ⟨?_, ?_⟩
  · rw [gI_same, if_pos rfl]
    show gI S 1321 m + 1 = _
    rw [hc]; exact nI_1 _
  · have := (h.pA 1322 222 (gI S 1321 m).toNatClampNeg p).pI 1321 6 ((gI S 1321 m).toNatClampNeg + 1) (gI S 1321 m + 1) (by rw [hx, hc]; exact nI_1 _)
    unfold ad_go; rw [← hx]; exact this
theorem r_go {g : Nat → Nat} {m : Nat} {S : HSt} {σ : Sg} (h : MR g m S σ) (hi : Inv σ) (p : Int32) : wp_X12_go g m p S (fun r S' => r = (st_go σ p).1 ∧ MR g m S' (st_go σ p).2) := by
  have hn := hi.1.2.2.2.2.2.2
  have h0 := hi.1.1
  have hc := h.c 1321 6
  unfold wp_X12_go st_go
  refine r_isPort h (by omega) (fun op => bs1 ⟨fun z => ?_, fun z => ?_⟩) (fun op => bs0 ?_)
  · have e0 : cN σ 6 = 0 := (nI_le0 (by omega)).mp (hc ▸ z)
    rw [if_pos op, if_pos e0]
    exact ⟨fun _ => r_go1 h hi p (by omega), fun z => absurd (hc ▸ z) (by rw [e0]; decide)⟩
  · have e0 : cN σ 6 ≠ 0 := fun e => z (by rw [hc]; exact (nI_le0 (by omega)).mpr e)
    rw [if_pos op, if_neg e0]
    have e1 : gI S 1321 m - 1 = nI (cN σ 6 - 1) := by rw [hc]; exact nI_pr e0
    refine ⟨by rw [e1]; exact vp_in_nI (by omega) (by decide), ?_⟩
    have e2 : gA S 222 (g 1322) (gI S 1321 m - 1).toNatClampNeg = dD σ 1322 (cN σ 6 - 1) := by rw [e1, nI_clamp (by omega)]; exact h.a 1322 222 _
    rw [e2]
    refine ⟨fun nq => ?_, fun eq => ?_⟩
    · rw [if_neg nq]
      refine ⟨fun n6 => ?_, fun e6 => ?_⟩
      · have n6' : ¬ cN σ 6 = 6 := fun z => n6 (by rw [hc, z]; rfl)
        rw [if_neg n6']; exact r_go1 h hi p n6'
      · rw [if_pos ((cnt_eq (N := 6) (by omega)).mp (hc ▸ e6))]; exact ⟨rfl, h⟩
    · rw [if_pos eq]; exact ⟨rfl, h⟩
  · rw [if_neg op]; exact ⟨rfl, h⟩
theorem c_go {ad : AD} {x : Nat} {S : HSt} {σ : Sg} (h : CR ad x S σ) (hi : Inv σ) (p : Int32) : wp_X11_go x p S (fun r S' => r = (st_go σ p).1 ∧ ∃ ad', CR ad' x S' (st_go σ p).2) := by
  have hn := hi.1.2.2.2.2.2.2
  have h0 := hi.1.1
  have hc := h.2.1.2.2.2.2.2.2
  obtain ⟨q1, q2, q3⟩ := h.1.f 1206 6 601 6
  unfold wp_X11_go st_go
  refine c_portAt h hi (fun op => ⟨fun z => (by cases z), fun b4 e4 => ?_⟩) (fun op => ⟨fun _ => ?_, fun b4 e4 => (by cases e4)⟩)
  · cases e4
    have hpl := okN_lt op (by omega)
    obtain ⟨p1, p2, p3, p4, p5, p6, p7⟩ := h.2.2.1.1 _ hpl
    rw [if_pos op]
    refine ⟨p2, ?_⟩
    have add : ¬ cN σ 6 = 6 → ∃ b12 : Nat, gR S 1206 x = some b12 ∧ gK S b12 = 601 ∧ vp_in (gI S 1212 x) (gN S b12) ∧ ∀ S16 : HSt, S16 = uB S 601 b12 (gI S 1212 x).toNatClampNeg (some (ad 0 (ix p))) → ∀ S19 : HSt, S19 = uI S16 1212 x (gI S16 1212 x + 1) → (fun r S' => r = nI (cN σ 6 + 1) ∧ ∃ ad', CR ad' x S' (ad_go σ p)) (gI S19 1212 x) S19 := by
      intro n6
      refine ⟨_, q1, q2, by rw [q3, hc]; exact vp_in_nI (by omega) (by decide), fun S16 e16 S19 e19 => ?_⟩
      have hx : (gI S 1212 x).toNatClampNeg = cN σ 6 := by rw [hc]; exact nI_clamp (by omega)
      rw [hx] at e16
      have e20 : gI S16 1212 x + 1 = nI (cN σ 6 + 1) := by subst e16; show gI S 1212 x + 1 = _; rw [hc]; exact nI_1 _
      rw [e20] at e19
      subst e16 e19
      refine ⟨?_, ad, ?_⟩
      · rw [gI_same, if_pos rfl]
      · obtain ⟨hF, hC, hP, hS, hO, hR, hT, hX, hH, hE⟩ := h
        refine ⟨hF.ks (Ks.trans (Ks_uB rfl) (Ks_uI rfl)) (fun i hi => gB_uBn (S := S) (k := 601) (fun z => absurd z.1 (by decide))), ?_, hP, hS, hO, fun k hk => ?_, hT, hX, hH, hE⟩
        · obtain ⟨c0, c1, c2, c3, c4, c5, c6⟩ := hC
          refine ⟨c0, c1, c2, c3, c4, c5, ?_⟩
          rw [gI_same, if_pos rfl]; rfl
        · have hk : k < cN σ 6 + 1 := hk
          have e1 : dD (ad_go σ p) 1322 k = if k = cN σ 6 then p else dD σ 1322 k := by simp [ad_go, dD_sN, dD_sD]
          rw [e1]
          by_cases e : k = cN σ 6
          · subst e; rw [if_pos rfl]; exact gB_uBs
          · rw [if_neg e]; refine Eq.trans (gB_uBn (S := S) (fun z => e z.2.2)) (hR k (by omega))
    have tail : ((gI S 1212 x) < (6 : Int32) → ∃ b12 : Nat, gR S 1206 x = some b12 ∧ gK S b12 = 601 ∧ vp_in (gI S 1212 x) (gN S b12) ∧ ∀ S16 : HSt, S16 = uB S 601 b12 (gI S 1212 x).toNatClampNeg (some (ad 0 (ix p))) → ∀ S19 : HSt, S19 = uI S16 1212 x (gI S16 1212 x + 1) → (fun r S' => r = (if cN σ 6 = 6 then ((-4 : Int32), σ) else (nI (cN σ 6 + 1), ad_go σ p)).1 ∧ ∃ ad', CR ad' x S' (if cN σ 6 = 6 then ((-4 : Int32), σ) else (nI (cN σ 6 + 1), ad_go σ p)).2) (gI S19 1212 x) S19) ∧ (¬ (gI S 1212 x) < (6 : Int32) → (fun r S' => r = (if cN σ 6 = 6 then ((-4 : Int32), σ) else (nI (cN σ 6 + 1), ad_go σ p)).1 ∧ ∃ ad', CR ad' x S' (if cN σ 6 = 6 then ((-4 : Int32), σ) else (nI (cN σ 6 + 1), ad_go σ p)).2) (-4) S) := by
      have hlt := nI_ltI (a := cN σ 6) (b := 6) (by omega) (by decide)
      refine ⟨fun lt => ?_, fun nl => ?_⟩
      · rw [hc] at lt
        have : cN σ 6 < 6 := hlt.mp lt
        rw [if_neg (by omega)]; exact add (by omega)
      · rw [hc] at nl
        have : ¬ cN σ 6 < 6 := fun z => nl (hlt.mpr z)
        rw [if_pos (by omega)]; exact ⟨rfl, ad, h⟩
    have hle := nI_leI (a := 1) (b := cN σ 6) (by decide) (by omega)
    refine ⟨fun le => ?_, fun nle => bs0 ?_⟩
    · rw [hc] at le
      have e0 : 1 ≤ cN σ 6 := hle.mp le
      rw [if_neg (show cN σ 6 ≠ 0 by omega)]
      have e1 : gI S 1212 x - 1 = nI (cN σ 6 - 1) := by rw [hc]; exact nI_pr (by omega)
      refine ⟨_, q1, q2, by rw [e1, q3]; exact vp_in_nI (by omega) (by decide), fun v6 e6 => ?_⟩
      have hk := hi.2.2.2.2.2.2.2.1 (cN σ 6 - 1) (by omega)
      rw [e1, nI_clamp (by omega), h.2.2.2.2.2.1 _ (by omega : cN σ 6 - 1 < cN σ 6)] at e6
      subst e6
      obtain ⟨z1, z2, z3, z4, z5, z6, z7⟩ := h.2.2.1.1 _ (okN_lt hk (by omega))
      refine ⟨fun z => (by cases z), fun b8 e8 => ?_⟩
      cases e8
      refine ⟨z2, fun ne => bs0 ?_, fun eq => bs1 ?_⟩
      · rw [if_neg (fun z => ne (by rw [z]))]; exact tail
      · have : dD σ 1322 (cN σ 6 - 1) = p := by
          rw [z6, p6] at eq
          rw [okN_eq hk (by omega), okN_eq op (by omega)]; exact eq
        rw [if_pos this]; exact ⟨rfl, ad, h⟩
    · rw [hc] at nle
      have e0 : cN σ 6 = 0 := by
        have : ¬ 1 ≤ cN σ 6 := fun z => nle (hle.mpr z)
        omega
      rw [if_neg (show ¬ cN σ 6 = 6 by omega)] at tail
      rw [if_pos e0]; exact tail
  · rw [if_neg op]; exact ⟨rfl, ad, h⟩
theorem v_go {σ : Sg} (hi : Inv σ) (p : Int32) : Inv (st_go σ p).2 := by
  have key : okN p (cN σ 0) → cN σ 6 ≠ 6 → Inv (ad_go σ p) := fun op ne => by
    obtain ⟨i0, i1, i2, i3, i4, i5, i6, i7, i8⟩ := hi
    have hn : cN σ 6 + 1 ≤ 6 := by have := i0.2.2.2.2.2.2; omega
    refine ⟨⟨i0.1, i0.2.1, i0.2.2.1, i0.2.2.2.1, i0.2.2.2.2.1, i0.2.2.2.2.2.1, hn⟩, i1, i2, i3, i4, i5, i6, fun k hk => ?_, i8⟩
    have hk : k < cN σ 6 + 1 := hk
    have e1 : dD (ad_go σ p) 1322 k = if k = cN σ 6 then p else dD σ 1322 k := by simp [ad_go, dD_sN, dD_sD]
    rw [e1]
    split
    · exact op
    · exact i7 k (by omega)
  unfold st_go
  split
  · rename_i op
    split
    · exact key op (by omega)
    · split
      · exact hi
      · split
        · exact hi
        · exact key op (by omega)
  · exact hi
/-! the log -/
def lgN (σ : Sg) (i : Nat) : Nat := ix (dD σ 1311 i)
theorem lg_eq {σ : Sg} (hi : Inv σ) {i : Nat} (h : i < cN σ 1) : dD σ 1311 i = nI (lgN σ i) ∧ lgN σ i ≤ 2000 := bet_nI (b := 2000) (hi.2.2.2.1 i h).2.2.2.2.2.2.1
def st_sort (σ : Sg) (s h : Int32) : Int32 := if okN s (cN σ 1) then if okN h (lgN σ (ix s)) then dD σ 1312 (2000 * ix s + ix h) else -1 else -2
theorem in_log {σ : Sg} (hi : Inv σ) {s h : Int32} (os : okN s (cN σ 1)) (oh : okN h (lgN σ (ix s))) : (2000 : Int32) * s + h = nI (2000 * ix s + ix h) ∧ 2000 * ix s + ix h < 10000 ∧ ix h < 2000 := by
  have hs := hi.1.2.1
  have h1 := okN_lt os (by omega)
  have h2 := (lg_eq hi h1).2
  have h3 := okN_lt oh (by omega)
  exact ⟨ix_m (k := 2000) os oh (by omega) (by omega) (by omega), by omega, by omega⟩
theorem r_sort {g : Nat → Nat} {m : Nat} {S : HSt} {σ : Sg} (h : MR g m S σ) (hi : Inv σ) (s w : Int32) : wp_X12_sort g m s w S (fun r S' => r = st_sort σ s w ∧ S' = S) := by
  have hs := hi.1.2.1
  unfold wp_X12_sort st_sort
  refine r_isShip h (by omega) (fun os => br1 ⟨okN_in os hs (by decide), ?_⟩) (fun os => br0 ?_)
  · have h1 := okN_lt os (by omega)
    have h2 := lg_eq hi h1
    rw [if_pos os, show gA S 211 (g 1311) s.toNatClampNeg = nI (lgN σ (ix s)) from (h.a 1311 211 _).trans h2.1]
    refine r_cnt0 (by omega) (fun oh => bs1 ?_) (fun oh => bs0 ?_)
    · obtain ⟨e1, e2, e3⟩ := in_log hi os oh
      rw [if_pos oh, e1, nI_clamp (by omega)]
      exact ⟨vp_in_nI e2 (by decide), h.a 1312 112 _, rfl⟩
    · rw [if_neg oh]; exact ⟨rfl, rfl⟩
  · rw [if_neg os]; exact ⟨rfl, rfl⟩
/-- the log of a ship object at an hour -/
def sAt (σ : Sg) (i : Nat) (h : Int32) : Int32 := if okN h (lgN σ i) then dD σ 1312 (2000 * i + ix h) else -1
theorem c_sortAt {ad : AD} {x : Nat} {S : HSt} {σ : Sg} (h : CR ad x S σ) (hi : Inv σ) {i : Nat} (hs : i < cN σ 1) (w : Int32) {Post : Int32 → HSt → Prop} (hp : Post (sAt σ i w) S) : wp_X8_sortAt (ad 2 i) w S Post := by
  obtain ⟨a1, a2, a3, a4, a5, a6, a7, a8, a9, b1, b2, b3, b4, b5⟩ := h.2.2.2.1.1 _ hs
  obtain ⟨l1, l2⟩ := lg_eq hi hs
  unfold sAt at hp
  refine ⟨fun z => ?_, fun z => ⟨fun le => ?_, fun nl => ⟨_, a3, a4, ?_, ?_⟩⟩⟩
  · rw [if_neg (fun q => q.1 z)] at hp; exact hp
  · rw [if_neg (fun q => ?_)] at hp
    · exact hp
    · rw [b4, l1] at le; exact absurd q.2 ((i_nlt _ _).mpr le)
  · rw [b4, l1] at nl
    have ok : okN w (lgN σ i) := ⟨z, (i_nle _ _).mp nl⟩
    rw [a5]; exact okN_in ok l2 (by decide)
  · rw [b4, l1] at nl
    have ok : okN w (lgN σ i) := ⟨z, (i_nle _ _).mp nl⟩
    rw [if_pos ok] at hp
    rw [b5 _ (okN_lt (n := lgN σ i) ok (by omega))]; exact hp
theorem c_sort {ad : AD} {x : Nat} {S : HSt} {σ : Sg} (h : CR ad x S σ) (hi : Inv σ) (s w : Int32) : wp_X11_sort x s w S (fun r S' => r = st_sort σ s w ∧ S' = S) := by
  have hs := hi.1.2.1
  unfold wp_X11_sort st_sort
  refine c_shipAt h hi (fun os => ⟨fun z => (by cases z), fun b4 e4 => ?_⟩) (fun os => ⟨fun _ => ?_, fun b4 e4 => (by cases e4)⟩)
  · cases e4
    have hp := okN_lt os (by omega)
    rw [if_pos os]
    exact ⟨(h.2.2.2.1.1 _ hp).2.1, c_sortAt h hi hp w ⟨rfl, rfl⟩⟩
  · rw [if_neg os]; exact ⟨rfl, rfl⟩
theorem byte_id {v : Int32} (h : 0 ≤ v ∧ v ≤ 5) : vp_nar .byte (v.toInt8.toInt32) = v := by
  obtain ⟨j, hj, rfl⟩ := nI_of2 (M := 5) (n := 5) (by decide) ((i_nlt _ _).mpr h.1) h.2
  have : j = 0 ∨ j = 1 ∨ j = 2 ∨ j = 3 ∨ j = 4 ∨ j = 5 := by omega
  rcases this with rfl | rfl | rfl | rfl | rfl | rfl <;> decide +kernel
theorem ne_m1 {v : Int32} (h : bet v 0 5) : v ≠ -1 := fun z => by
  subst z; exact absurd h.1 (by decide)
theorem CR.logAt {ad : AD} {x : Nat} {S : HSt} {σ : Sg} (h : CR ad x S σ) (hi : Inv σ) {i j : Nat} (hs : i < cN σ 1) (hj : j < 2000) (v : Int32) : CR ad x (uA S 150 (ad 3 i) j v) (sD σ 1312 (2000 * i + j) v) := by
  refine ⟨h.1.ks (Ks_uA rfl) (fun _ _ => rfl), h.2.1, h.2.2.1, ⟨fun k hk => ?_, h.2.2.2.1.2⟩, h.2.2.2.2⟩
  obtain ⟨a1, a2, a3, a4, a5, a6, a7, a8, a9, b1, b2, b3, b4, b5⟩ := h.2.2.2.1.1 k hk
  refine ⟨a1, a2, a3, a4, a5, a6, a7, a8, a9, b1, b2, b3, b4, fun q hq => ?_⟩
  have hq : q < lgN σ k := hq
  have hk' : k < cN σ 1 := hk
  have := (lg_eq hi hk').2
  rw [gA_uA, dD_same]
  by_cases hki : k = i
  · subst hki
    rw [if_pos ⟨rfl, rfl⟩]
    by_cases hqj : q = j
    · subst hqj; rw [if_pos rfl]; simp [upd]
    · rw [if_neg (by omega)]; simp [upd, hqj]; exact b5 q hq
  · rw [if_neg (fun z => hki (h.2.2.2.1.2 k i hk hs z.2)), if_neg (fun z => hki (mul_inj (by omega) hj z).1)]
    exact b5 q hq
/-! right -/
def st_right (σ : Sg) (s h v : Int32) : Int32 × Sg := if okN s (cN σ 1) then if 0 ≤ h ∧ h ≤ 9999 then if 0 ≤ v ∧ v ≤ 5 then if okN h (lgN σ (ix s)) then (dD σ 1312 (2000 * ix s + ix h), sD σ 1312 (2000 * ix s + ix h) v) else (-3, σ) else (-2, σ) else (-2, σ) else (-2, σ)
theorem r_right {g : Nat → Nat} {m : Nat} {S : HSt} {σ : Sg} (h : MR g m S σ) (hi : Inv σ) (s w v : Int32) : wp_X12_right g m s w v S (fun r S' => r = (st_right σ s w v).1 ∧ MR g m S' (st_right σ s w v).2) := by
  have hs := hi.1.2.1
  unfold wp_X12_right st_right
  refine r_isShip h (by omega) (fun os => bs1 (r_isHour (fun iw => bs1 (r_isSort (fun iv => br1 ⟨okN_in os hs (by decide), ?_⟩) (fun iv => br0 ?_))) (fun iw => bs0 ?_))) (fun os => bs0 ?_)
  · have h1 := okN_lt os (by omega)
    have h2 := lg_eq hi h1
    rw [if_pos os, if_pos iw, if_pos iv, show gA S 211 (g 1311) s.toNatClampNeg = nI (lgN σ (ix s)) from (h.a 1311 211 _).trans h2.1]
    have nw := (i_nlt _ _).mpr iw.1
    refine ⟨fun lt => ?_, fun nl => ?_⟩
    · have oh : okN w (lgN σ (ix s)) := ⟨nw, lt⟩
      obtain ⟨e1, e2, e3⟩ := in_log hi os oh
      rw [if_pos oh, e1, nI_clamp (by omega)]
      refine ⟨vp_in_nI e2 (by decide), fun v16 e16 => ⟨vp_in_nI e2 (by decide), fun S19 e19 => ?_⟩⟩
      subst e16 e19
      rw [byte_id iv]
      exact ⟨h.a 1312 112 _, h.pA 1312 112 _ v⟩
    · rw [if_neg (fun z => nl z.2)]; exact ⟨rfl, h⟩
  · rw [if_pos os, if_pos iw, if_neg iv]; exact ⟨rfl, h⟩
  · rw [if_pos os, if_neg iw]; exact ⟨rfl, h⟩
  · rw [if_neg os]; exact ⟨rfl, h⟩
theorem c_right {ad : AD} {x : Nat} {S : HSt} {σ : Sg} (h : CR ad x S σ) (hi : Inv σ) (s w v : Int32) : wp_X11_right x s w v S (fun r S' => r = (st_right σ s w v).1 ∧ ∃ ad', CR ad' x S' (st_right σ s w v).2) := by
  have hs := hi.1.2.1
  unfold wp_X11_right st_right
  refine c_shipAt h hi (fun os => ⟨fun z => (by cases z), fun b4 e4 => c_isHour (fun iw => bs1 (c_isSort (fun iv => br1 ?_) (fun iv => br0 ?_))) (fun iw => bs0 ?_)⟩) (fun os => ⟨fun _ => ?_, fun b4 e4 => (by cases e4)⟩)
  · cases e4
    have hp := okN_lt os (by omega)
    obtain ⟨a1, a2, a3, a4, a5, a6, a7, a8, a9, b1, b2, b3, b4, b5⟩ := h.2.2.2.1.1 _ hp
    obtain ⟨l1, l2⟩ := lg_eq hi hp
    rw [if_pos os, if_pos iw, if_pos iv]
    have nw := (i_nlt _ _).mpr iw.1
    refine ⟨a2, c_sortAt h hi hp w ?_⟩
    unfold sAt
    by_cases oh : okN w (lgN σ (ix s))
    · obtain ⟨e1, e2, e3⟩ := in_log hi os oh
      rw [if_pos oh, if_pos oh]
      refine ⟨fun _ => ?_, fun z => absurd z (ne_m1 ((hi.2.2.2.1 _ hp).2.2.2.2.2.2.2 _ (okN_lt (n := lgN σ (ix s)) oh (by omega))))⟩
      refine ⟨fun z => absurd z nw, fun _ => ⟨fun z => ?_, fun _ => ⟨_, a3, a4, ?_, fun S7 e7 => ?_⟩⟩⟩
      · rw [b4, l1] at z; exact absurd oh.2 ((i_nlt _ _).mpr z)
      · rw [a5]; exact okN_in oh l2 (by decide)
      · subst e7
        rw [byte_id iv]
        exact ⟨rfl, ad, h.logAt hi hp e3 v⟩
    · rw [if_neg oh, if_neg oh]
      exact ⟨fun z => absurd rfl z, fun _ => ⟨rfl, ad, h⟩⟩
  · rw [if_pos os, if_pos iw, if_neg iv]; exact ⟨rfl, ad, h⟩
  · rw [if_pos os, if_neg iw]; exact ⟨rfl, ad, h⟩
  · rw [if_neg os]; exact ⟨rfl, ad, h⟩
theorem v_logAt {σ : Sg} (hi : Inv σ) {i j : Nat} {v : Int32} (hv : bet v 0 5) : Inv (sD σ 1312 (2000 * i + j) v) := by
  obtain ⟨i0, i1, i2, i3, i4⟩ := hi
  refine ⟨i0, i1, i2, fun k hk => ?_, i4⟩
  obtain ⟨a1, a2, a3, a4, a5, a6, a7, a8⟩ := i3 k hk
  refine ⟨a1, a2, a3, a4, a5, a6, a7, fun q hq => ?_⟩
  rw [dD_same]
  split
  · exact hv
  · exact a8 q hq
theorem v_right {σ : Sg} (hi : Inv σ) (s w v : Int32) : Inv (st_right σ s w v).2 := by
  unfold st_right
  split
  · split
    · split
      · split
        · rename_i iv oh
          exact v_logAt hi (bet_of iv (by decide) (by decide))
        · exact hi
      · exact hi
    · exact hi
  · exact hi
