theorem fb_rng (x : Int32) : -2147483648 ≤ x.toInt ∧ x.toInt < 2147483648 := by
  have h1 := Int32.le_toInt x
  have h2 := Int32.toInt_lt x
  omega
theorem fb_bmod {z : Int} (h1 : -2147483648 ≤ z) (h2 : z < 2147483648) : z.bmod (2 ^ 32) = z := by
  rw [Int.bmod_eq_of_le (by omega) (by omega)]
theorem fb_addI {x y : Int32} (h1 : -2147483648 ≤ x.toInt + y.toInt) (h2 : x.toInt + y.toInt < 2147483648) : (x + y).toInt = x.toInt + y.toInt := by
  rw [Int32.toInt_add, fb_bmod h1 h2]
theorem fb_subI {x y : Int32} (h1 : -2147483648 ≤ x.toInt - y.toInt) (h2 : x.toInt - y.toInt < 2147483648) : (x - y).toInt = x.toInt - y.toInt := by
  rw [Int32.toInt_sub, fb_bmod h1 h2]
theorem fb_mulI {x y : Int32} (h1 : -2147483648 ≤ x.toInt * y.toInt) (h2 : x.toInt * y.toInt < 2147483648) : (x * y).toInt = x.toInt * y.toInt := by
  rw [Int32.toInt_mul, fb_bmod h1 h2]
theorem fb_negI {x : Int32} (h : x.toInt ≠ -2147483648) : (-x).toInt = -x.toInt := by
  have := fb_rng x
  rw [Int32.toInt_neg, fb_bmod (by omega) (by omega)]
theorem fb_ofI {z : Int} (h1 : -2147483648 ≤ z) (h2 : z < 2147483648) : (Int32.ofInt z).toInt = z := by
  rw [Int32.toInt_ofInt, fb_bmod h1 h2]
theorem fb_asI (x : Int32) : Int32.ofInt x.toInt = x := Int32.ofInt_toInt x
theorem fb_rngL (x : Int64) : -9223372036854775808 ≤ x.toInt ∧ x.toInt < 9223372036854775808 := by
  have h1 := Int64.le_toInt x
  have h2 := Int64.toInt_lt x
  omega
theorem fb_bmodL {z : Int} (h1 : -9223372036854775808 ≤ z) (h2 : z < 9223372036854775808) : z.bmod (2 ^ 64) = z := by
  rw [Int.bmod_eq_of_le (by omega) (by omega)]
theorem fb_addL {x y : Int64} (h1 : -9223372036854775808 ≤ x.toInt + y.toInt) (h2 : x.toInt + y.toInt < 9223372036854775808) : (x + y).toInt = x.toInt + y.toInt := by
  rw [Int64.toInt_add, fb_bmodL h1 h2]
theorem fb_subL {x y : Int64} (h1 : -9223372036854775808 ≤ x.toInt - y.toInt) (h2 : x.toInt - y.toInt < 9223372036854775808) : (x - y).toInt = x.toInt - y.toInt := by
  rw [Int64.toInt_sub, fb_bmodL h1 h2]
theorem fb_mulL {x y : Int64} (h1 : -9223372036854775808 ≤ x.toInt * y.toInt) (h2 : x.toInt * y.toInt < 9223372036854775808) : (x * y).toInt = x.toInt * y.toInt := by
  rw [Int64.toInt_mul, fb_bmodL h1 h2]
/-! hours of a charter that the log has -/
theorem lh_1 {A : Int32} {a : Int} (hA : A.toInt = a) {f : Nat} (h1 : -1 ≤ a) (h2 : a ≤ 9999) (hf : f ≤ 9999) : (if A - nI f + 1 < 0 then (0 : Int32) else A - nI f + 1) = nI (a + 1 - f).toNat := by
  have e1 : (A - nI f).toInt = a - f := by rw [fb_subI (by rw [nI_toInt (by omega)]; omega) (by rw [nI_toInt (by omega)]; omega), nI_toInt (by omega), hA]
  have e0 : (1 : Int32).toInt = 1 := by decide
  have e2 : (A - nI f + 1).toInt = a - f + 1 := by rw [fb_addI (by omega) (by omega), e1, e0]
  have ez : (0 : Int32).toInt = 0 := by decide
  apply Int32.toInt_inj.mp
  by_cases h : A - nI f + 1 < 0
  · rw [if_pos h]
    rw [i_lt] at h
    rw [nI_toInt (by omega)]; omega
  · rw [if_neg h]
    rw [i_lt] at h
    rw [nI_toInt (by omega)]; omega
theorem lh_eq {l t f : Nat} (hl : l ≤ 2000) (ht : t ≤ 9999) (hf : f ≤ 9999) : (if (((if (nI l - (1 : Int32)) < nI t then (nI l - (1 : Int32)) else nI t) - nI f) + (1 : Int32)) < (0 : Int32) then (0 : Int32) else (((if (nI l - (1 : Int32)) < nI t then (nI l - (1 : Int32)) else nI t) - nI f) + (1 : Int32))) = nI (min (t + 1) l - f) := by
  have e1 : (nI l - (1 : Int32)).toInt = (l : Int) - 1 := pk_sub_toInt (b := 1) (by omega) (by omega)
  by_cases h : nI l - 1 < nI t
  · rw [if_pos h, lh_1 e1 (by omega) (by omega) hf]
    rw [i_lt, e1, nI_toInt (by omega)] at h
    congr 1; omega
  · rw [if_neg h, lh_1 (nI_toInt (by omega)) (by omega) (by omega) hf]
    rw [i_lt, e1, nI_toInt (by omega)] at h
    congr 1; omega
noncomputable def mC (σ : Sg) (c L : Nat) : Nat := if dD σ 1338 c = 2 then 0 else min (ix (dD σ 1333 c) + 1) L - ix (dD σ 1332 c)
noncomputable def smM (σ : Sg) (s : Int32) (L : Nat) : Nat → Nat → Nat
  | 0, _ => 0
  | n + 1, c => (if dD σ 1331 c = s then mC σ c L else 0) + smM σ s L n (c + 1)
noncomputable def cntH (σ : Sg) (s h : Int32) : Nat → Nat → Nat
  | 0, _ => 0
  | n + 1, c => @ite _ (hasS σ c s h) (Classical.propDecidable _) 1 0 + cntH σ s h n (c + 1)
noncomputable def ownN (σ : Sg) (s : Int32) : Nat → Nat
  | 0 => 0
  | L + 1 => ownN σ s L + if acF σ s (nI L) (cN σ 4) 0 = -1 then 1 else 0
theorem cntH_0 {σ : Sg} {s h : Int32} : ∀ (n c : Nat), (∀ d, c ≤ d → d < c + n → ¬ hasS σ d s h) → cntH σ s h n c = 0 := by
  intro n
  induction n with
  | zero => intro c _; rfl
  | succ n ih =>
    intro c hd
    unfold cntH
    rw [if_neg (hd c (Nat.le_refl _) (by omega)), ih (c + 1) (fun d h1 h2 => hd d (by omega) (by omega))]
theorem cnt_ac {σ : Sg} (hi : Inv σ) {s h : Int32} : ∀ (n c : Nat), c + n = cN σ 4 → cntH σ s h n c + (if acF σ s h n c = -1 then 1 else 0) = 1 := by
  have h4 := hi.1.2.2.2.2.1
  intro n
  induction n with
  | zero => intro c _; unfold cntH acF; rw [if_pos rfl]
  | succ n ih =>
    intro c e
    by_cases hh : hasS σ c s h
    · rw [acF_y hh]
      unfold cntH
      rw [if_pos hh, cntH_0 n (c + 1) (fun d h1 h2 hd => ?_), if_neg (fun z => ?_)]
      · have := nI_toInt (n := c) (by omega)
        rw [z] at this
        have e9 : (-1 : Int32).toInt = -1 := by decide
        omega
      · have := hi.2.2.2.2.2.2.2.2.2.1 c d (by omega) (by omega) (by omega) (hh.1.trans hd.1.symm) hh.2.1 hd.2.1
        rcases this with z | z
        · exact absurd (Int32.lt_of_lt_of_le z hd.2.2.1) (Int32.not_lt.mpr hh.2.2.2)
        · exact absurd (Int32.lt_of_lt_of_le z hh.2.2.1) (Int32.not_lt.mpr hd.2.2.2)
    · rw [acF_n hh]
      unfold cntH
      rw [if_neg hh]
      have := ih (c + 1) (by omega)
      omega
theorem mC_s {σ : Sg} (hi : Inv σ) {c L : Nat} (hc : c < cN σ 4) (hL : L < 2000) (s : Int32) : (if dD σ 1331 c = s then mC σ c (L + 1) else 0) = (if dD σ 1331 c = s then mC σ c L else 0) + @ite _ (hasS σ c s (nI L)) (Classical.propDecidable _) 1 0 := by
  obtain ⟨a1, a2, a3, a4, a5, -⟩ := hi.2.2.2.2.2.2.2.2.1 c hc
  obtain ⟨e3, l3⟩ := bet_nI (b := 9999) a3
  obtain ⟨e4, l4⟩ := bet_nI (b := 9999) a4
  rw [e3, e4, nI_leI (by omega) (by omega)] at a5
  unfold mC
  by_cases hs : dD σ 1331 c = s
  · rw [if_pos hs, if_pos hs]
    by_cases h2 : dD σ 1338 c = 2
    · rw [if_pos h2, if_pos h2, if_neg (fun z => z.2.1 h2)]
    · rw [if_neg h2, if_neg h2]
      have hle1 := nI_leI (a := ix (dD σ 1332 c)) (b := L) (by omega) (by omega)
      have hle2 := nI_leI (a := L) (b := ix (dD σ 1333 c)) (by omega) (by omega)
      rw [← e3] at hle1
      rw [← e4] at hle2
      by_cases hh : hasS σ c s (nI L)
      · rw [if_pos hh]
        have z1 := hle1.mp hh.2.2.1
        have z2 := hle2.mp hh.2.2.2
        omega
      · rw [if_neg hh]
        have : ¬ (ix (dD σ 1332 c) ≤ L ∧ L ≤ ix (dD σ 1333 c)) := fun z => hh ⟨hs, h2, hle1.mpr z.1, hle2.mpr z.2⟩
        omega
  · rw [if_neg hs, if_neg hs, if_neg (fun z => hs z.1)]
theorem smM_s {σ : Sg} (hi : Inv σ) {s : Int32} {L : Nat} (hL : L < 2000) : ∀ (n c : Nat), c + n = cN σ 4 → smM σ s (L + 1) n c = smM σ s L n c + cntH σ s (nI L) n c := by
  intro n
  induction n with
  | zero => intro c _; rfl
  | succ n ih =>
    intro c e
    unfold smM cntH
    rw [mC_s hi (by omega) hL, ih (c + 1) (by omega)]; omega
theorem smM_0 {σ : Sg} {s : Int32} : ∀ (n c : Nat), smM σ s 0 n c = 0 := by
  intro n
  induction n with
  | zero => intro c; rfl
  | succ n ih =>
    intro c
    unfold smM mC
    rw [ih]
    split
    · split
      · rfl
      · omega
    · rfl
theorem own_sum {σ : Sg} (hi : Inv σ) {s : Int32} : ∀ L, L ≤ 2000 → ownN σ s L + smM σ s L (cN σ 4) 0 = L := by
  intro L
  induction L with
  | zero => intro _; rw [smM_0]; rfl
  | succ L ih =>
    intro hL
    have h1 := ih (by omega)
    have h2 := cnt_ac hi (s := s) (h := nI L) (cN σ 4) 0 (by omega)
    rw [smM_s hi (by omega) _ _ (by omega)]
    show ownN σ s L + (if acF σ s (nI L) (cN σ 4) 0 = -1 then 1 else 0) + _ = _
    omega
noncomputable def st_owners (σ : Sg) (s : Int32) : Int32 := if okN s (cN σ 1) then nI (ownN σ s (lgN σ (ix s))) else -2
theorem r_owners {g : Nat → Nat} {m : Nat} {S : HSt} {σ : Sg} (h : MR g m S σ) (hi : Inv σ) (s : Int32) : wp_X12_owners g m s S (fun r S' => r = st_owners σ s ∧ S' = S) := by
  have hs := hi.1.2.1
  unfold wp_X12_owners st_owners
  refine r_isShip h (by omega) (fun os => br1 ?_) (fun os => br0 ?_)
  · have h1 := okN_lt os (by omega)
    obtain ⟨l1, l2⟩ := lg_eq hi h1
    have hin := okN_in os hs (show 5 < 2 ^ 31 by decide)
    have e1 : gA S 211 (g 1311) s.toNatClampNeg = nI (lgN σ (ix s)) := (h.a 1311 211 _).trans l1
    rw [if_pos os]
    have key : ∀ (n j : Nat), j + n = lgN σ (ix s) → lp_X12_owners_15a g s m (fun _ w7 S24 => w7 = nI (ownN σ s (lgN σ (ix s))) ∧ S24 = S) (n + 1) (nI j) (nI (ownN σ s j)) S := by
      intro n
      induction n with
      | zero =>
        intro j e
        have : j = lgN σ (ix s) := by omega
        subst this
        exact ⟨hin, fun _ => ⟨rfl, rfl⟩, fun z => absurd (e1 ▸ Int32.le_refl _) z⟩
      | succ n ih =>
        intro j e
        refine ⟨hin, fun z => ?_, fun _ => r_accountOf h hi s (nI j) ⟨fun ne v16 e16 v18 e18 => ?_, fun eq v20 e20 v22 e22 => ?_⟩⟩
        · rw [e1] at z; exact absurd z (nI_ge (by omega) (by omega))
        · have : ownN σ s (j + 1) = ownN σ s j := by show ownN σ s j + (if _ then 1 else 0) = _; rw [if_neg ne]; rfl
          rw [show nI (ownN σ s j) + (0 : Int32) = nI (ownN σ s (j + 1)) by rw [this]; exact nI_add _ 0] at e16
          rw [nI_1] at e18
          subst e16 e18
          exact ih (j + 1) (by omega)
        · have : ownN σ s (j + 1) = ownN σ s j + 1 := by show ownN σ s j + (if _ then 1 else 0) = _; rw [if_pos eq]
          rw [nI_1, ← this] at e20
          rw [nI_1] at e22
          subst e20 e22
          exact ih (j + 1) (by omega)
    exact ⟨_, key (lgN σ (ix s)) 0 (by omega)⟩
  · rw [if_neg os]; exact ⟨rfl, rfl⟩
theorem c_loggedHours {ad : AD} {x : Nat} {S : HSt} {σ : Sg} (h : CR ad x S σ) (hi : Inv σ) {c : Nat} (hc : c < cN σ 4) {Post : Int32 → HSt → Prop} (hp : Post (nI (mC σ c (lgN σ (ix (dD σ 1331 c))))) S) : wp_X1_loggedHours (ad 7 c) S Post := by
  have hs := hi.1.2.1
  obtain ⟨a1, a2, a3, a4, a5, a6, a7, a8, a9, b1, b2⟩ := h.2.2.2.2.2.2.2.2.1.1 _ hc
  obtain ⟨i1, i2, i3, i4, -⟩ := hi.2.2.2.2.2.2.2.2.1 _ hc
  have hsl := okN_lt i2 (by omega)
  obtain ⟨s1, s2, s3, s4, s5, s6, s7, s8, s9, t1, t2, t3, t4, -⟩ := h.2.2.2.1.1 _ hsl
  obtain ⟨l1, l2⟩ := lg_eq hi hsl
  obtain ⟨e3, l3⟩ := bet_nI (b := 9999) i3
  obtain ⟨e4, l4⟩ := bet_nI (b := 9999) i4
  unfold wp_X1_loggedHours
  unfold mC at hp
  rw [b2]
  refine ⟨fun n2 => ⟨_, a4, s2, ?_⟩, fun e2 => ?_⟩
  · rw [if_neg n2] at hp
    rw [t4, a5, a6, l1, e3, e4, lh_eq l2 l4 l3]
    exact hp
  · rw [if_pos e2] at hp; exact hp
theorem c_owners {ad : AD} {x : Nat} {S : HSt} {σ : Sg} (h : CR ad x S σ) (hi : Inv σ) (s : Int32) : wp_X11_owners x s S (fun r S' => r = st_owners σ s ∧ S' = S) := by
  have hs := hi.1.2.1
  have hs4 := hi.1.2.2.2.2.1
  have hc := h.2.1.2.2.2.2.1
  unfold wp_X11_owners st_owners
  refine c_shipAt h hi (fun os => ⟨fun z => (by cases z), fun b4 e4 => ?_⟩) (fun os => ⟨fun _ => ?_, fun b4 e4 => (by cases e4)⟩)
  · cases e4
    have h1 := okN_lt os (by omega)
    obtain ⟨s1, s2, s3, s4, s5, s6, s7, s8, s9, t1, t2, t3, t4, -⟩ := h.2.2.2.1.1 _ h1
    obtain ⟨l1, l2⟩ := lg_eq hi h1
    have hsum := own_sum hi (s := s) _ l2
    rw [if_pos os]
    refine ⟨s2, fun v7 e7 => ⟨cN σ 4 + 1, ?_⟩⟩
    rw [t4, l1] at e7
    subst e7
    have key : ∀ (n c lft : Nat), c + n = cN σ 4 → lft = ownN σ s (lgN σ (ix s)) + smM σ s (lgN σ (ix s)) n c → lp_X11_owners_21a x (ad 2 (ix s)) (fun _ w11 S36 => w11 = nI (ownN σ s (lgN σ (ix s))) ∧ S36 = S) (n + 1) (nI c) (nI lft) S := by
      intro n
      induction n with
      | zero =>
        intro c lft e el
        have : c = cN σ 4 := by omega
        subst this
        refine ⟨fun _ => ⟨?_, rfl⟩, fun z => absurd (hc ▸ Int32.le_refl _) z⟩
        rw [el]; rfl
      | succ n ih =>
        intro c lft e el
        have hcl : c < cN σ 4 := by omega
        unfold smM at el
        refine ⟨fun z => ?_, fun _ => c_charterAt h hi (fun oc => ⟨fun z => (by cases z), fun b18 e18 => ?_⟩) (fun nc => absurd (okN_nI hcl (by omega)) nc)⟩
        · rw [hc] at z; exact absurd z (nI_ge (by omega) (by omega))
        · cases e18
          rw [ix_nI (by omega)]
          have a2 := (h.2.2.2.2.2.2.2.2.1.1 _ hcl).2.1
          refine ⟨a2, c_isOf h hi hcl os (fun e1 => bs1 (c_loggedHours h hi hcl (fun v32 e32 v34 e34 => ?_))) (fun n1 => bs0 (fun v27 e27 => ?_))⟩
          · rw [if_pos e1] at el
            rw [e1, nI_sub (by omega)] at e32
            rw [nI_1] at e34
            subst e32 e34
            exact ih (c + 1) _ (by omega) (by omega)
          · rw [if_neg n1] at el
            rw [nI_1] at e27
            subst e27
            exact ih (c + 1) _ (by omega) (by omega)
    exact key (cN σ 4) 0 _ (by omega) (by omega)
  · rw [if_neg os]; exact ⟨rfl, rfl⟩
