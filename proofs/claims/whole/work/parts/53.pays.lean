theorem nH_ls {σ : Sg} (hi : Inv σ) {c : Nat} (hc : c < cN σ 4) : nH σ c 9999 = nH σ c (lsN σ c) := by
  obtain ⟨f1, f2, f3, f4, f5, f6, f7, f8⟩ := ch_ok hi hc
  unfold nH
  split
  · rfl
  · omega
theorem lk_ls {σ : Sg} (hi : Inv σ) {c : Nat} (hc : c < cN σ 4) : lkS σ c 9999 = lkS σ c (lsN σ c) := by
  unfold lkS; rw [nH_ls hi hc]
theorem lkF_l {σ : Sg} {c : Nat} : ∀ (n h : Nat) (a : Int32) (l : Nat) (o t : Int32), ∃ l', l ≤ l' ∧ l' ≤ l + n ∧ (lkF σ c n h a (nI l) o t).2.1 = nI l' := by
  intro n
  induction n with
  | zero => intro h a l o t; exact ⟨l, Nat.le_refl _, Nat.le_refl _, rfl⟩
  | succ n ih =>
    intro h a l o t
    unfold lkF
    split
    · split
      · obtain ⟨l', h1, h2, h3⟩ := ih (h + 1) 2 l o (t + 1); exact ⟨l', h1, by omega, h3⟩
      · obtain ⟨l', h1, h2, h3⟩ := ih (h + 1) 1 l (o + 1) t; exact ⟨l', h1, by omega, h3⟩
    · rw [nI_1]
      obtain ⟨l', h1, h2, h3⟩ := ih (h + 1) 0 (l + 1) o t; exact ⟨l', by omega, by omega, h3⟩
theorem lkS_l {σ : Sg} (hi : Inv σ) {c H : Nat} (hc : c < cN σ 4) : ∃ l, l ≤ 2000 ∧ (lkS σ c H).2.1 = nI l := by
  obtain ⟨f1, f2, f3, f4, f5, f6, f7, f8⟩ := ch_ok hi hc
  obtain ⟨l', h1, h2, h3⟩ := lkF_l (σ := σ) (c := c) (nH σ c H) (fsN σ c) (-1) 0 0 0
  refine ⟨l', ?_, h3⟩
  have : nH σ c H ≤ 2000 := by
    unfold nH
    split
    · omega
    · omega
  omega
/-! counts -/
def inS (σ : Sg) (c : Nat) (h : Int32) : Prop := dD σ 1338 c ≠ 2 ∧ dD σ 1332 c ≤ h ∧ h ≤ dD σ 1333 c
noncomputable def st_counts (σ : Sg) (c h : Int32) : Int32 := if okN c (cN σ 4) then @ite _ (inS σ (ix c) h) (Classical.propDecidable _) (if h < nI (lgN σ (shS σ (ix c))) then (lkS σ (ix c) (ix h)).1 else -1) (-1) else -2
theorem in_hr {σ : Sg} (hi : Inv σ) {c : Nat} (hc : c < cN σ 4) {w : Int32} (hw : inS σ c w) : w = nI (ix w) ∧ fsN σ c ≤ ix w ∧ ix w ≤ lsN σ c := by
  obtain ⟨f1, f2, f3, f4, f5, f6, f7, f8⟩ := ch_ok hi hc
  obtain ⟨-, w1, w2⟩ := hw
  rw [f1] at w1
  rw [f2] at w2
  have h0 : ¬ w < 0 := by
    rw [i_nlt]
    exact Int32.le_trans (nI_pos' (n := fsN σ c) (by omega)) w1
  obtain ⟨j, hj, rfl⟩ := nI_of h0
  rw [nI_leI (by omega) hj] at w1
  rw [nI_leI hj (by omega)] at w2
  rw [ix_nI hj]
  exact ⟨rfl, w1, w2⟩
theorem r_counts {g : Nat → Nat} {m : Nat} {S : HSt} {σ : Sg} (h : MR g m S σ) (hi : Inv σ) (c w : Int32) : wp_X12_counts g m c w S (fun r S' => r = st_counts σ c w ∧ MR g m S' σ) := by
  have h4 := hi.1.2.2.2.2.1
  have h1 := hi.1.2.1
  unfold wp_X12_counts
  refine r_isCharter h (by omega) (fun oc => br1 ?_) (fun nc => br0 ?_)
  · obtain ⟨n, hn, rfl⟩ : ∃ n, n < cN σ 4 ∧ c = nI n := ⟨ix c, okN_lt oc (by omega), okN_eq oc (by omega)⟩
    have hin : vp_in (nI n) 12 := vp_in_nI (by omega) (by decide)
    have ec : (nI n).toNatClampNeg = n := nI_clamp (by omega)
    obtain ⟨f1, f2, f3, f4, f5, f6, f7, f8⟩ := ch_ok hi hn
    have es : st_counts σ (nI n) w = @ite _ (inS σ n w) (Classical.propDecidable _) (if w < nI (lgN σ (shS σ n)) then (lkS σ n (ix w)).1 else -1) (-1) := by
      unfold st_counts; rw [if_pos oc, ix_nI (by omega)]
    rw [es]
    refine ⟨hin, r_has h (by omega) _ w (fun hh => bs1 ⟨hin, ?_⟩) (fun hh => bs0 ?_)⟩
    · rw [ec, h.a 1331 231, h.a 1311 211]
      rw [ec, h.a 1331 231] at hh
      have hw : inS σ n w := hh.2
      obtain ⟨w1, w2, w3⟩ := in_hr hi hn hw
      rw [if_pos hw, show (dD σ 1331 n).toNatClampNeg = shS σ n from rfl, f7]
      refine ⟨by rw [f5]; exact vp_in_nI (by omega) (by decide), fun lt => ?_, fun nl => ?_⟩
      · rw [if_pos lt, w1, ix_nI (by omega)]
        exact r_looks h hi hn (by omega) (fun S' q1 _ _ _ => ⟨rfl, q1⟩)
      · rw [if_neg nl]; exact ⟨rfl, h⟩
    · rw [ec, h.a 1331 231] at hh
      rw [if_neg (show ¬ inS σ n w from fun z => hh ⟨rfl, z⟩)]; exact ⟨rfl, h⟩
  · unfold st_counts; rw [if_neg nc]; exact ⟨rfl, h⟩
theorem lt_okN {σ : Sg} {i : Nat} {w : Int32} (h0 : ¬ w < 0) : okN w (lgN σ i) ↔ w < nI (lgN σ i) := ⟨fun z => z.2, fun z => ⟨h0, z⟩⟩
theorem c_counts {ad : AD} {x : Nat} {S : HSt} {σ : Sg} (h : CR ad x S σ) (hi : Inv σ) (c w : Int32) : wp_X11_counts x c w S (fun r S' => r = st_counts σ c w ∧ ∃ ad', CR ad' x S' σ) := by
  have h4 := hi.1.2.2.2.2.1
  have h1 := hi.1.2.1
  unfold wp_X11_counts
  refine c_charterAt h hi (fun oc => ⟨fun z => (by cases z), fun b4 e4 => ?_⟩) (fun nc => ⟨fun _ => ?_, fun b4 e4 => (by cases e4)⟩)
  · cases e4
    obtain ⟨n, hn, rfl⟩ : ∃ n, n < cN σ 4 ∧ c = nI n := ⟨ix c, okN_lt oc (by omega), okN_eq oc (by omega)⟩
    have es : st_counts σ (nI n) w = @ite _ (inS σ n w) (Classical.propDecidable _) (if w < nI (lgN σ (shS σ n)) then (lkS σ n (ix w)).1 else -1) (-1) := by
      unfold st_counts; rw [if_pos oc, ix_nI (by omega)]
    rw [es, ix_nI (by omega)]
    obtain ⟨f1, f2, f3, f4, f5, f6, f7, f8⟩ := ch_ok hi hn
    obtain ⟨a1, a2, a3, a4, a5, a6, a7, a8, a9, b1, b2⟩ := h.2.2.2.2.2.2.2.2.1.1 _ hn
    refine ⟨a2, c_hasH h hn w (fun hh => bs1 ⟨_, a4, (h.2.2.2.1.1 _ f6).2.1, c_sortAt h hi f6 w ?_⟩) (fun hh => bs0 ?_)⟩
    · have hw : inS σ n w := hh
      obtain ⟨w1, w2, w3⟩ := in_hr hi hn hw
      have h0 : ¬ w < 0 := by rw [w1]; exact nI_pos (by omega)
      rw [if_pos hw]
      by_cases lt : w < nI (lgN σ (shS σ n))
      · have ok : okN w (lgN σ (shS σ n)) := ⟨h0, lt⟩
        have hb := (hi.2.2.2.1 _ f6).2.2.2.2.2.2.2 (ix w) (okN_lt (n := lgN σ (shS σ n)) ok (by omega))
        rw [if_pos lt]
        have e1 : sAt σ (shS σ n) w = dD σ 1312 (2000 * shS σ n + ix w) := if_pos ok
        rw [e1]
        refine ⟨fun _ => ⟨_, (h.1.o 1218 11 10).1, (h.1.o 1218 11 10).2, ?_⟩, fun z => ?_⟩
        · have key := c_trun h hi hn (H := ix w) w2 (by omega) (Post := fun r S' => r = (lkS σ n (ix w)).1 ∧ ∃ ad', CR ad' x S' σ) (fun S' q1 _ _ _ => ⟨rfl, ad, q1⟩)
          rw [← w1] at key
          exact key
        · exfalso
          have := hb.1
          rw [z] at this
          revert this; decide
      · rw [if_neg lt]
        have e1 : sAt σ (shS σ n) w = -1 := if_neg (fun z => lt z.2)
        rw [e1]
        exact ⟨fun z => absurd rfl z, fun _ => ⟨rfl, ad, h⟩⟩
    · rw [if_neg (show ¬ inS σ n w from hh)]; exact ⟨rfl, ad, h⟩
  · unfold st_counts; rw [if_neg nc]; exact ⟨rfl, ad, h⟩
/-! pays -/
def vS (a r f l : Nat) : Int64 := if l ≤ f then lN a - lN (r / 2) * lN (f - l) else lN a + lN r * lN (l - f)
theorem lN_neg {k : Nat} (h : k < 2 ^ 31) : (-(lN k)).toInt = -(k : Int) := by
  rw [Int64.toInt_neg, pk_lT (by omega), fb_bmodL (by omega) (by omega)]
theorem sub_l {l f : Nat} (h : l ≤ f) (hf : f < 2 ^ 30) : (nI l - nI f).toInt64 = -(lN (f - l)) := by
  apply Int64.toInt_inj.mp
  rw [Int32.toInt_toInt64, pk_sub_toInt (by omega) hf, lN_neg (by omega)]
  omega
theorem sub_g {l f : Nat} (h : f ≤ l) (hl : l < 2 ^ 30) : (nI l - nI f).toInt64 = lN (l - f) := by
  rw [nI_sub h, nI_l (by omega)]
theorem v_ref {a r f l : Nat} (ha : a ≤ 99999) (hr : r ≤ 999) (hf : f ≤ 999) (hl : l ≤ 2000) {Post : Int64 → HSt → Prop} {S : HSt} {g : Nat → Nat} {m n : Nat} (hn : n < 12) (ea : gA S 235 (g 1335) n = nI a) (er : gA S 236 (g 1336) n = nI r) (ef : gA S 237 (g 1337) n = nI f) (el : gI S 1360 m = nI l) (hp : Post (vS a r f l) S) : wp_X12_voyage g m (nI n) S Post := by
  have hin : vp_in (nI n) 12 := vp_in_nI hn (by decide)
  have ec : (nI n).toNatClampNeg = n := nI_clamp (by omega)
  unfold wp_X12_voyage
  rw [ec, ea, er, ef, el]
  refine ⟨hin, fun v2 e2 => ?_⟩
  rw [nI_l (by omega)] at e2
  rw [nI_l (by omega)]
  subst e2
  have eh : lN r / (2 : Int64) = lN (r / 2) := by rw [show (2 : Int64) = lN 2 by decide, pk_lDiv (by omega) (by decide) (by decide)]
  unfold vS at hp
  refine ⟨hin, hin, fun le => ⟨hin, fun ge => ?_, fun ng => ⟨hin, ?_⟩⟩, fun nl => ⟨hin, hin, fun ge => ?_, fun ng => ?_⟩⟩
  · rw [nI_leI (by omega) (by omega)] at le ge
    have : l = f := by omega
    subst this
    rw [if_pos (Nat.le_refl _), Nat.sub_self, show lN 0 = 0 by decide, Int64.mul_zero] at hp
    rw [Int64.add_zero]; exact hp
  · rw [nI_leI (by omega) (by omega)] at le ng
    rw [if_pos le] at hp
    rw [eh, sub_g le (by omega), Int64.add_zero]; exact hp
  · rw [nI_leI (by omega) (by omega)] at nl ge
    rw [if_neg nl] at hp
    rw [sub_g ge (by omega), Int64.sub_zero]; exact hp
  · rw [nI_leI (by omega) (by omega)] at nl ng
    omega
theorem v_cls {a r f l : Nat} (ha : a ≤ 99999) (hr : r ≤ 999) (hf : f ≤ 999) (hl : l ≤ 2000) {Post : Int64 → HSt → Prop} {S : HSt} {y z : Nat} (ea : gI S 205 y = nI a) (er : gI S 206 y = nI r) (ef : gI S 207 y = nI f) (el : gI S 1000 z = nI l) (hp : Post (vS a r f l) S) : wp_X1_voyagePay y z S Post := by
  unfold wp_X1_voyagePay
  rw [ea, er, ef, el]
  have eh : nI r / (2 : Int32) = nI (r / 2) := pk_div (a := r) (d := 2) (by omega) (by decide) (by decide)
  intro v1 e1
  rw [eh, nI_l (by omega), nI_l (by omega), nI_l (by omega)]
  have e0 : (0 : Int64).toInt = 0 := by decide
  unfold vS at hp
  by_cases le : l ≤ f
  · rw [if_pos le] at hp
    rw [sub_l le (by omega)] at e1
    subst e1
    refine ⟨fun _ => ?_, fun n => absurd ?_ n⟩
    · rw [Int64.neg_mul, Int64.mul_comm, ← Int64.sub_eq_add_neg]; exact hp
    · rw [lg_cmp_le, Int64.le_iff_toInt_le, lN_neg (by omega), e0]; omega
  · rw [if_neg le] at hp
    rw [sub_g (by omega) (by omega)] at e1
    subst e1
    refine ⟨fun z => absurd z ?_, fun _ => ?_⟩
    · rw [lg_cmp_le, Int64.le_iff_toInt_le, pk_lT (by omega), e0]; omega
    · rw [Int64.mul_comm]; exact hp
def payS (σ : Sg) (n : Nat) (L : Int32 × Int32 × Int32 × Int32) : Int64 := if dD σ 1330 n = 1 then (dD σ 1336 n).toInt64 * (L.2.1 + L.2.2.2).toInt64 else if dD σ 1330 n = 2 then (dD σ 1335 n).toInt64 + (dD σ 1336 n).toInt64 * (L.2.1 + L.2.2.2).toInt64 else if dD σ 1330 n = 3 then 2 * vS (ix (dD σ 1335 n)) (ix (dD σ 1336 n)) (ix (dD σ 1337 n)) (ix L.2.1) else if dD σ 1330 n = 4 then 0 else if dD σ 1330 n = 5 then (if dD σ 1338 n = 1 then vS (ix (dD σ 1335 n)) (ix (dD σ 1336 n)) (ix (dD σ 1337 n)) (ix L.2.1) else 0) else vS (ix (dD σ 1335 n)) (ix (dD σ 1336 n)) (ix (dD σ 1337 n)) (ix L.2.1)
def st_pays (σ : Sg) (c : Int32) : Int64 := if okN c (cN σ 4) then payS σ (ix c) (lkS σ (ix c) (lsN σ (ix c))) else -4611686018427387904
theorem pay_n {σ : Sg} (hi : Inv σ) {n : Nat} (hn : n < cN σ 4) : (dD σ 1335 n = nI (ix (dD σ 1335 n)) ∧ ix (dD σ 1335 n) ≤ 99999) ∧ (dD σ 1336 n = nI (ix (dD σ 1336 n)) ∧ ix (dD σ 1336 n) ≤ 999) ∧ dD σ 1337 n = nI (ix (dD σ 1337 n)) ∧ ix (dD σ 1337 n) ≤ 999 := by
  obtain ⟨-, -, -, -, -, -, a7, a8, a9, -⟩ := hi.2.2.2.2.2.2.2.2.1 n hn
  exact ⟨bet_nI (b := 99999) a7, bet_nI (b := 999) a8, bet_nI (b := 999) a9⟩
theorem r_pays {g : Nat → Nat} {m : Nat} {S : HSt} {σ : Sg} (h : MR g m S σ) (hi : Inv σ) (c : Int32) : wp_X12_pays g m c S (fun r S' => r = st_pays σ c ∧ MR g m S' σ) := by
  have h4 := hi.1.2.2.2.2.1
  unfold wp_X12_pays
  refine r_isCharter h (by omega) (fun oc => br1 ?_) (fun nc => br0 ?_)
  · obtain ⟨n, hn, rfl⟩ : ∃ n, n < cN σ 4 ∧ c = nI n := ⟨ix c, okN_lt oc (by omega), okN_eq oc (by omega)⟩
    have hin : vp_in (nI n) 12 := vp_in_nI (by omega) (by decide)
    have ec : (nI n).toNatClampNeg = n := nI_clamp (by omega)
    obtain ⟨⟨p1, p2⟩, ⟨p3, p4⟩, p5, p6⟩ := pay_n hi hn
    obtain ⟨l, l1, l2⟩ := lkS_l hi (H := lsN σ n) hn
    have es : st_pays σ (nI n) = payS σ n (lkS σ n (lsN σ n)) := by
      unfold st_pays; rw [if_pos oc, ix_nI (by omega)]
    rw [es]
    refine r_looks h hi hn (H := 9999) (Nat.le_refl _) (fun S6 q1 q2 q3 q4 => ⟨hin, fun v9 e9 => ⟨hin, ?_⟩⟩)
    rw [lk_ls hi hn] at q2 q3 q4
    have voy : ∀ (Q : Int64 → HSt → Prop), Q (vS (ix (dD σ 1335 n)) (ix (dD σ 1336 n)) (ix (dD σ 1337 n)) (ix (lkS σ n (lsN σ n)).2.1)) S6 → wp_X12_voyage g m (nI n) S6 Q := by
      intro Q hq
      refine v_ref p2 p4 p6 l1 (by omega) ((q1.a 1335 235 n).trans p1) ((q1.a 1336 236 n).trans p3) ((q1.a 1337 237 n).trans p5) (q2.trans l2) ?_
      rw [l2, ix_nI (by omega)] at hq; exact hq
    rw [ec, q1.a 1336 236, q2, q4] at e9
    rw [ec, q1.a 1330 230, q1.a 1335 235, q1.a 1338 238]
    unfold payS
    subst e9
    refine ⟨fun e1 => ?_, fun n1 => ⟨fun e2 => ⟨hin, ?_⟩, fun n2 => ⟨fun e3 => ?_, fun n3 => ⟨fun e4 => ?_, fun n4 => ⟨fun e5 => ⟨hin, fun nh => ?_, fun eh => ?_⟩, fun n5 => ?_⟩⟩⟩⟩⟩
    · rw [if_pos e1]; exact ⟨rfl, q1⟩
    · rw [if_neg n1, if_pos e2, Int64.add_comm]; exact ⟨rfl, q1⟩
    · rw [if_neg n1, if_neg n2, if_pos e3]; exact voy _ ⟨rfl, q1⟩
    · rw [if_neg n1, if_neg n2, if_neg n3, if_pos e4]; exact ⟨rfl, q1⟩
    · rw [if_neg n1, if_neg n2, if_neg n3, if_neg n4, if_pos e5, if_neg nh]; exact ⟨rfl, q1⟩
    · rw [if_neg n1, if_neg n2, if_neg n3, if_neg n4, if_pos e5, if_pos eh]; exact voy _ ⟨rfl, q1⟩
    · rw [if_neg n1, if_neg n2, if_neg n3, if_neg n4, if_neg n5]; exact voy _ ⟨rfl, q1⟩
  · unfold st_pays; rw [if_neg nc]; exact ⟨rfl, h⟩
theorem c_pays {ad : AD} {x : Nat} {S : HSt} {σ : Sg} (h : CR ad x S σ) (hi : Inv σ) (c : Int32) : wp_X11_pays x c S (fun r S' => r = st_pays σ c ∧ ∃ ad', CR ad' x S' σ) := by
  have h4 := hi.1.2.2.2.2.1
  unfold wp_X11_pays
  refine c_charterAt h hi (fun oc => ⟨fun z => (by cases z), fun b4 e4 => ?_⟩) (fun nc => ⟨fun _ => ?_, fun b4 e4 => (by cases e4)⟩)
  · cases e4
    obtain ⟨n, hn, rfl⟩ : ∃ n, n < cN σ 4 ∧ c = nI n := ⟨ix c, okN_lt oc (by omega), okN_eq oc (by omega)⟩
    have es : st_pays σ (nI n) = payS σ n (lkS σ n (lsN σ n)) := by
      unfold st_pays; rw [if_pos oc, ix_nI (by omega)]
    rw [es, ix_nI (by omega)]
    obtain ⟨f1, f2, f3, f4, f5, f6, f7, f8⟩ := ch_ok hi hn
    obtain ⟨a1, a2, a3, a4, a5, a6, a7, a8, a9, b1, b2⟩ := h.2.2.2.2.2.2.2.2.1.1 _ hn
    obtain ⟨⟨p1, p2⟩, ⟨p3, p4⟩, p5, p6⟩ := pay_n hi hn
    obtain ⟨l, l1, l2⟩ := lkS_l hi (H := lsN σ n) hn
    refine ⟨_, (h.1.o 1218 11 10).1, a2, (h.1.o 1218 11 10).2, ?_⟩
    rw [a6, f2]
    refine c_trun h hi hn f3 f4 (fun S' q1 q2 q3 q4 => ⟨_, (q1.1.o 1218 11 10).1, (q1.1.o 1218 11 10).2, ?_⟩)
    obtain ⟨d1, d2, d3, d4, d5, d6, d7, d8, d9, g1, g2⟩ := q1.2.2.2.2.2.2.2.2.1.1 _ hn
    have voy : ∀ (Q : Int64 → HSt → Prop), Q (vS (ix (dD σ 1335 n)) (ix (dD σ 1336 n)) (ix (dD σ 1337 n)) (ix (lkS σ n (lsN σ n)).2.1)) S' → wp_X1_voyagePay (ad 7 n) (ad 10 11) S' Q := by
      intro Q hq
      refine v_cls p2 p4 p6 l1 (d8.trans p1) (d9.trans p3) (g1.trans p5) (q2.trans l2) ?_
      rw [l2, ix_nI (by omega)] at hq; exact hq
    unfold wp_X1_payFor wp_X1_timePay payS
    rw [d3, d8, d9, g2, q2, q4]
    refine ⟨fun e1 => ?_, fun n1 => ⟨fun e2 => ?_, fun n2 => ⟨fun e3 => ?_, fun n3 => ⟨fun e4 => ?_, fun n4 => ⟨fun e5 => ⟨fun nh => ?_, fun eh => ?_⟩, fun n5 => ?_⟩⟩⟩⟩⟩
    · rw [if_pos e1]; exact ⟨rfl, ad, q1⟩
    · rw [if_neg n1, if_pos e2]; exact ⟨rfl, ad, q1⟩
    · rw [if_neg n1, if_neg n2, if_pos e3]; exact voy _ ⟨rfl, ad, q1⟩
    · rw [if_neg n1, if_neg n2, if_neg n3, if_pos e4]; exact ⟨rfl, ad, q1⟩
    · rw [if_neg n1, if_neg n2, if_neg n3, if_neg n4, if_pos e5, if_neg nh]; exact ⟨rfl, ad, q1⟩
    · rw [if_neg n1, if_neg n2, if_neg n3, if_neg n4, if_pos e5, if_pos eh]; exact voy _ ⟨rfl, ad, q1⟩
    · rw [if_neg n1, if_neg n2, if_neg n3, if_neg n4, if_neg n5]; exact voy _ ⟨rfl, ad, q1⟩
  · unfold st_pays; rw [if_neg nc]; exact ⟨rfl, ad, h⟩
/-! charterTold -/
def st_told (σ : Sg) (c w : Int32) : Int32 := if okN c (cN σ 4) then (if w = 0 then dD σ 1330 (ix c) else if w = 1 then dD σ 1331 (ix c) else if w = 2 then dD σ 1332 (ix c) else if w = 3 then dD σ 1333 (ix c) else if w = 4 then dD σ 1334 (ix c) else if w = 5 then (lkS σ (ix c) (lsN σ (ix c))).2.1 else if w = 6 then (lkS σ (ix c) (lsN σ (ix c))).2.2.1 else if w = 7 then (lkS σ (ix c) (lsN σ (ix c))).2.2.2 else if w = 8 then dD σ 1338 (ix c) else -2) else -2
theorem r_told {g : Nat → Nat} {m : Nat} {S : HSt} {σ : Sg} (h : MR g m S σ) (hi : Inv σ) (c w : Int32) : wp_X12_charterTold g m c w S (fun r S' => r = st_told σ c w ∧ MR g m S' σ) := by
  have h4 := hi.1.2.2.2.2.1
  unfold wp_X12_charterTold
  refine r_isCharter h (by omega) (fun oc => bs1 ?_) (fun nc => bs0 ?_)
  · obtain ⟨n, hn, rfl⟩ : ∃ n, n < cN σ 4 ∧ c = nI n := ⟨ix c, okN_lt oc (by omega), okN_eq oc (by omega)⟩
    have hin : vp_in (nI n) 12 := vp_in_nI (by omega) (by decide)
    have ec : (nI n).toNatClampNeg = n := nI_clamp (by omega)
    unfold st_told
    rw [if_pos oc, ix_nI (by omega)]
    refine r_in (fun ab => br1 (r_looks h hi hn (H := 9999) (Nat.le_refl _) (fun S6 q1 q2 q3 q4 => ?_))) (fun ab => br0 ?_)
    · rw [lk_ls hi hn] at q2 q3 q4
      rw [ec, q1.a 1330 230, q1.a 1331 231, q1.a 1332 232, q1.a 1333 233, q1.a 1334 234, q1.a 1338 238, q2, q3, q4]
      refine ⟨fun e => ⟨hin, ?_⟩, fun n0 => ⟨fun e => ⟨hin, ?_⟩, fun n1 => ⟨fun e => ⟨hin, ?_⟩, fun n2 => ⟨fun e => ⟨hin, ?_⟩, fun n3 => ⟨fun e => ⟨hin, ?_⟩, fun n4 => ⟨fun e => ?_, fun n5 => ⟨fun e => ?_, fun n6 => ⟨fun e => ?_, fun n7 => ⟨hin, ?_⟩⟩⟩⟩⟩⟩⟩⟩⟩
      · rw [if_pos e]; exact ⟨rfl, q1⟩
      · rw [if_neg n0, if_pos e]; exact ⟨rfl, q1⟩
      · rw [if_neg n0, if_neg n1, if_pos e]; exact ⟨rfl, q1⟩
      · rw [if_neg n0, if_neg n1, if_neg n2, if_pos e]; exact ⟨rfl, q1⟩
      · rw [if_neg n0, if_neg n1, if_neg n2, if_neg n3, if_pos e]; exact ⟨rfl, q1⟩
      · rw [if_neg n0, if_neg n1, if_neg n2, if_neg n3, if_neg n4, if_pos e]; exact ⟨rfl, q1⟩
      · rw [if_neg n0, if_neg n1, if_neg n2, if_neg n3, if_neg n4, if_neg n5, if_pos e]; exact ⟨rfl, q1⟩
      · rw [if_neg n0, if_neg n1, if_neg n2, if_neg n3, if_neg n4, if_neg n5, if_neg n6, if_pos e]; exact ⟨rfl, q1⟩
      · have e8 : w = 8 := by
          have k0 : w.toInt ≠ (0 : Int32).toInt := fun z => n0 (Int32.toInt_inj.mp z)
          have k1 : w.toInt ≠ (1 : Int32).toInt := fun z => n1 (Int32.toInt_inj.mp z)
          have k2 : w.toInt ≠ (2 : Int32).toInt := fun z => n2 (Int32.toInt_inj.mp z)
          have k3 : w.toInt ≠ (3 : Int32).toInt := fun z => n3 (Int32.toInt_inj.mp z)
          have k4 : w.toInt ≠ (4 : Int32).toInt := fun z => n4 (Int32.toInt_inj.mp z)
          have k5 : w.toInt ≠ (5 : Int32).toInt := fun z => n5 (Int32.toInt_inj.mp z)
          have k6 : w.toInt ≠ (6 : Int32).toInt := fun z => n6 (Int32.toInt_inj.mp z)
          have k7 : w.toInt ≠ (7 : Int32).toInt := fun z => n7 (Int32.toInt_inj.mp z)
          have l0 := (i_le _ _).mp ab.1
          have l8 := (i_le _ _).mp ab.2
          rw [show (0 : Int32).toInt = 0 by decide] at k0 l0
          rw [show (1 : Int32).toInt = 1 by decide] at k1
          rw [show (2 : Int32).toInt = 2 by decide] at k2
          rw [show (3 : Int32).toInt = 3 by decide] at k3
          rw [show (4 : Int32).toInt = 4 by decide] at k4
          rw [show (5 : Int32).toInt = 5 by decide] at k5
          rw [show (6 : Int32).toInt = 6 by decide] at k6
          rw [show (7 : Int32).toInt = 7 by decide] at k7
          rw [show (8 : Int32).toInt = 8 by decide] at l8
          apply Int32.toInt_inj.mp
          rw [show (8 : Int32).toInt = 8 by decide]
          omega
        rw [if_neg n0, if_neg n1, if_neg n2, if_neg n3, if_neg n4, if_neg n5, if_neg n6, if_neg n7, if_pos e8]; exact ⟨rfl, q1⟩
    · have nn : ∀ k : Int32, (0 ≤ k ∧ k ≤ 8) → ¬ w = k := fun k hk z => ab (by rw [z]; exact hk)
      rw [if_neg (nn 0 (by decide)), if_neg (nn 1 (by decide)), if_neg (nn 2 (by decide)), if_neg (nn 3 (by decide)), if_neg (nn 4 (by decide)), if_neg (nn 5 (by decide)), if_neg (nn 6 (by decide)), if_neg (nn 7 (by decide)), if_neg (nn 8 (by decide))]; exact ⟨rfl, h⟩
  · unfold st_told; rw [if_neg nc]; exact ⟨rfl, h⟩
theorem c_hoursOf {ad : AD} {x : Nat} {S : HSt} {σ : Sg} (h : CR ad x S σ) (hi : Inv σ) {n : Nat} (hn : n < cN σ 4) (w : Int32) {Post : Int32 → HSt → Prop} (hp : ∀ S', CR ad x S' σ → Post (if w = 0 then (lkS σ n (lsN σ n)).2.1 else if w = 1 then (lkS σ n (lsN σ n)).2.2.1 else (lkS σ n (lsN σ n)).2.2.2) S') : wp_X11_hoursOf x (ad 7 n) w S Post := by
  obtain ⟨f1, f2, f3, f4, f5, f6, f7, f8⟩ := ch_ok hi hn
  obtain ⟨a1, a2, a3, a4, a5, a6, a7, a8, a9, b1, b2⟩ := h.2.2.2.2.2.2.2.2.1.1 _ hn
  refine ⟨_, (h.1.o 1218 11 10).1, (h.1.o 1218 11 10).2, ?_⟩
  rw [a6, f2]
  refine c_trun h hi hn f3 f4 (fun S' q1 q2 q3 q4 => ?_)
  have hq := hp S' q1
  refine ⟨fun e => ⟨_, (q1.1.o 1218 11 10).1, (q1.1.o 1218 11 10).2, ?_⟩, fun n0 => ⟨fun e => ⟨_, (q1.1.o 1218 11 10).1, (q1.1.o 1218 11 10).2, ?_⟩, fun n1 => ⟨_, (q1.1.o 1218 11 10).1, (q1.1.o 1218 11 10).2, ?_⟩⟩⟩
  · rw [if_pos e] at hq; rw [q2]; exact hq
  · rw [if_neg n0, if_pos e] at hq; rw [q3]; exact hq
  · rw [if_neg n0, if_neg n1] at hq; rw [q4]; exact hq
theorem c_told {ad : AD} {x : Nat} {S : HSt} {σ : Sg} (h : CR ad x S σ) (hi : Inv σ) (c w : Int32) : wp_X11_charterTold x c w S (fun r S' => r = st_told σ c w ∧ ∃ ad', CR ad' x S' σ) := by
  have h4 := hi.1.2.2.2.2.1
  have h1 := hi.1.2.1
  have h3 := hi.1.2.2.2.1.2
  unfold wp_X11_charterTold st_told
  refine c_charterAt h hi (fun oc => ⟨fun z => (by cases z), fun b4 e4 => ?_⟩) (fun nc => ⟨fun _ => ?_, fun b4 e4 => (by cases e4)⟩)
  · cases e4
    obtain ⟨n, hn, rfl⟩ : ∃ n, n < cN σ 4 ∧ c = nI n := ⟨ix c, okN_lt oc (by omega), okN_eq oc (by omega)⟩
    rw [if_pos oc, ix_nI (by omega)]
    obtain ⟨f1, f2, f3, f4, f5, f6, f7, f8⟩ := ch_ok hi hn
    obtain ⟨ot, tl⟩ := tx_ok hi hn
    obtain ⟨a1, a2, a3, a4, a5, a6, a7, a8, a9, b1, b2⟩ := h.2.2.2.2.2.2.2.2.1.1 _ hn
    have s6 := (h.2.2.2.1.1 _ f6).2.2.2.2.2.1
    have t6 := (h.2.2.2.2.2.2.2.1.1 _ tl).2.2.2.2.2.1
    refine ⟨fun e => ⟨a2, ?_⟩, fun n0 => ⟨fun e => ⟨a2, _, a4, (h.2.2.2.1.1 _ f6).2.1, ?_⟩, fun n1 => ⟨fun e => ⟨a2, ?_⟩, fun n2 => ⟨fun e => ⟨a2, ?_⟩, fun n3 => ⟨fun e => ⟨a2, _, a7, (h.2.2.2.2.2.2.2.1.1 _ tl).2.1, ?_⟩, fun n4 => ⟨fun e => ⟨a2, ?_⟩, fun n5 => ⟨fun e => ⟨a2, ?_⟩, fun n6 => ⟨fun e => ⟨a2, ?_⟩, fun n7 => ⟨fun e => ⟨a2, ?_⟩, fun n8 => ?_⟩⟩⟩⟩⟩⟩⟩⟩⟩
    · rw [if_pos e]; exact ⟨a3, ad, h⟩
    · rw [if_neg n0, if_pos e]; exact ⟨s6.trans f5.symm, ad, h⟩
    · rw [if_neg n0, if_neg n1, if_pos e]; exact ⟨a5, ad, h⟩
    · rw [if_neg n0, if_neg n1, if_neg n2, if_pos e]; exact ⟨a6, ad, h⟩
    · rw [if_neg n0, if_neg n1, if_neg n2, if_neg n3, if_pos e]; exact ⟨t6.trans (okN_eq ot (by omega)).symm, ad, h⟩
    · rw [if_neg n0, if_neg n1, if_neg n2, if_neg n3, if_neg n4, if_pos e]
      subst e
      refine c_hoursOf h hi hn _ (fun S' q => ⟨?_, ad, q⟩)
      rw [if_pos (by decide)]
    · rw [if_neg n0, if_neg n1, if_neg n2, if_neg n3, if_neg n4, if_neg n5, if_pos e]
      subst e
      refine c_hoursOf h hi hn _ (fun S' q => ⟨?_, ad, q⟩)
      rw [if_neg (by decide), if_pos (by decide)]
    · rw [if_neg n0, if_neg n1, if_neg n2, if_neg n3, if_neg n4, if_neg n5, if_neg n6, if_pos e]
      subst e
      refine c_hoursOf h hi hn _ (fun S' q => ⟨?_, ad, q⟩)
      rw [if_neg (by decide), if_neg (by decide)]
    · rw [if_neg n0, if_neg n1, if_neg n2, if_neg n3, if_neg n4, if_neg n5, if_neg n6, if_neg n7, if_pos e]; exact ⟨b2, ad, h⟩
    · rw [if_neg n0, if_neg n1, if_neg n2, if_neg n3, if_neg n4, if_neg n5, if_neg n6, if_neg n7, if_neg n8]; exact ⟨rfl, ad, h⟩
  · rw [if_neg nc]; exact ⟨rfl, ad, h⟩
