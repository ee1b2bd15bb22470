/-! longs -/
theorem lN_of {x : Int64} (h : ¬ x < 0) : ∃ n : Nat, n < 2 ^ 63 ∧ x = lN n := by
  have h0 : 0 ≤ x.toInt := by
    rw [Int64.lt_iff_toInt_lt] at h
    have e : (0 : Int64).toInt = 0 := by decide
    omega
  have h1 := Int64.toInt_lt x
  refine ⟨x.toInt.toNat, by omega, ?_⟩
  apply Int64.toInt_inj.mp
  rw [pk_lT (by omega)]; omega
theorem am_eq {n : Nat} (hn : n < 2 ^ 63) : ((lN n / (1000000 : Int64))).toInt32 = nI (n / 1000000) ∧ ((lN n / (1000 : Int64)) - (lN n / (1000 : Int64)) / (1000 : Int64) * (1000 : Int64)).toInt32 = nI (n / 1000 % 1000) ∧ (lN n - lN n / (1000 : Int64) * (1000 : Int64)).toInt32 = nI (n % 1000) := by
  have e6 : (1000000 : Int64) = lN 1000000 := by decide
  have e3 : (1000 : Int64) = lN 1000 := by decide
  have h1 : n / 1000 < 2 ^ 63 := by omega
  refine ⟨?_, ?_, ?_⟩
  · rw [e6, pk_lDiv hn (by decide) (by decide), lN_i]
  · rw [e3, pk_lDiv hn (by decide) (by decide), pk_lDiv h1 (by decide) (by decide), lN_mul, lN_sub (by omega), lN_i]
    congr 1; omega
  · rw [e3, pk_lDiv hn (by decide) (by decide), lN_mul, lN_sub (by omega), lN_i]
    congr 1; omega
/-! charter -/
def meetS (σ : Sg) (s f t : Int32) : Prop := ∃ c, c < cN σ 4 ∧ dD σ 1331 c = s ∧ dD σ 1338 c ≠ 2 ∧ dD σ 1332 c ≤ t ∧ f ≤ dD σ 1333 c
def ad_charter (σ : Sg) (k s f t tx : Int32) (am : Int64) : Sg := sN (sD (sD (sD (sD (sD (sD (sD (sD (sD σ 1330 (cN σ 4) k) 1331 (cN σ 4) s) 1332 (cN σ 4) f) 1333 (cN σ 4) t) 1334 (cN σ 4) tx) 1335 (cN σ 4) ((am / (1000000 : Int64))).toInt32) 1336 (cN σ 4) ((am / (1000 : Int64)) - (am / (1000 : Int64)) / (1000 : Int64) * (1000 : Int64)).toInt32) 1337 (cN σ 4) (am - am / (1000 : Int64) * (1000 : Int64)).toInt32) 1338 (cN σ 4) 0) 4 (cN σ 4 + 1)
noncomputable def st_charter (σ : Sg) (k s f t tx : Int32) (am : Int64) : Int32 × Sg := if okN k 6 then if okN s (cN σ 1) then if 0 ≤ f ∧ f ≤ 9999 then if 0 ≤ t ∧ t ≤ 9999 then if f ≤ t then if okN tx (cN σ 3) then if ¬ am < 0 then if am ≤ 99999999999 then @ite _ (meetS σ s f t) (Classical.propDecidable _) (-3, σ) (if cN σ 4 = 12 then (-4, σ) else (nI (cN σ 4), ad_charter σ k s f t tx am)) else (-2, σ) else (-2, σ) else (-2, σ) else (-2, σ) else (-2, σ) else (-2, σ) else (-2, σ) else (-2, σ)
theorem am_le {am : Int64} (h : ¬ am < 0) : lg_cmp (am / (1000000 : Int64)) (99999 : Int64) ≤ 0 ↔ am ≤ 99999999999 := by
  obtain ⟨n, hn, rfl⟩ := lN_of h
  rw [lg_cmp_le, show (1000000 : Int64) = lN 1000000 by decide, pk_lDiv hn (by decide) (by decide), Int64.le_iff_toInt_le, Int64.le_iff_toInt_le, pk_lT (by omega), pk_lT hn]
  have e1 : (99999 : Int64).toInt = 99999 := by decide
  have e2 : (99999999999 : Int64).toInt = 99999999999 := by decide
  rw [e1, e2]; omega
theorem r_isText {g : Nat → Nat} {m : Nat} {S : HSt} {σ : Sg} (h : MR g m S σ) (hn : cN σ 3 < 2 ^ 31) {p : Int32} {Post : Int32 → HSt → Prop} (h1 : okN p (cN σ 3) → Post 1 S) (h0 : ¬ okN p (cN σ 3) → Post 0 S) : wp_X12_in p 0 (gI S 1325 m - 1) S Post := by
  rw [h.c 1325 3]
  exact r_cnt0 hn h1 h0
theorem r_meets_lp {g : Nat → Nat} {m : Nat} {S : HSt} {σ : Sg} (h : MR g m S σ) (hi : Inv σ) (s f t : Int32) (hft : f ≤ t) (K0 K1 : Int32 → HSt → Prop) (h0 : ¬ meetS σ s f t → ∀ w, K0 w S) (h1 : meetS σ s f t → ∀ w, K1 w S) : ∀ (n c : Nat), c + n = cN σ 4 → (∀ d, d < c → ¬ (dD σ 1331 d = s ∧ dD σ 1338 d ≠ 2 ∧ dD σ 1332 d ≤ t ∧ f ≤ dD σ 1333 d)) → lp_X12_charter_91a g m s f t K0 K1 (n + 1) (nI c) S := by
  have hs := hi.1.2.2.2.2.1
  have hc := h.c 1329 4
  intro n
  induction n with
  | zero =>
    intro c e hp
    have : c = cN σ 4 := by omega
    subst this
    exact ⟨fun _ => h0 (fun ⟨d, d1, d2⟩ => hp d d1 d2) _, fun z => absurd (hc ▸ Int32.le_refl _) z⟩
  | succ n ih =>
    intro c e hp
    have hcl : c < cN σ 4 := by omega
    have hle := (hi.2.2.2.2.2.2.2.2.1 c hcl).2.2.2.2.1
    have hin : vp_in (nI c) 12 := vp_in_nI (by omega) (by decide)
    have yes : ∀ w, w = nI c → (dD σ 1331 c = s ∧ dD σ 1338 c ≠ 2 ∧ dD σ 1332 c ≤ t ∧ f ≤ dD σ 1333 c) → K1 w S := fun w _ q => h1 ⟨c, hcl, q⟩ w
    have next : ¬ (dD σ 1331 c = s ∧ dD σ 1338 c ≠ 2 ∧ dD σ 1332 c ≤ t ∧ f ≤ dD σ 1333 c) → ∀ v20, v20 = nI c + 1 → lp_X12_charter_91a g m s f t K0 K1 (n + 1) v20 S := fun hh v20 e20 => by
      rw [nI_1] at e20
      subst e20
      refine ih (c + 1) (by omega) (fun d hd => ?_)
      by_cases e : d = c
      · subst e; exact hh
      · exact hp d (by omega)
    refine ⟨fun z => ?_, fun _ => r_has h (by omega) s f (fun hh => br1 ?_) (fun nf => br0 (r_has h (by omega) s t (fun hh => br1 ?_) (fun nt => br0 ⟨hin, ?_⟩)))⟩
    · rw [hc] at z; exact absurd z (nI_ge (by omega) (by omega))
    · exact yes _ rfl ⟨hh.1, hh.2.1, Int32.le_trans hh.2.2.1 hft, hh.2.2.2⟩
    · exact yes _ rfl ⟨hh.1, hh.2.1, hh.2.2.1, Int32.le_trans hft hh.2.2.2⟩
    · rw [nI_clamp (by omega), h.a 1331 231, h.a 1338 238, h.a 1332 232]
      refine ⟨fun ne => next (fun z => ne z.1), fun eq => ⟨hin, fun e2 => next (fun z => z.2.1 e2), fun n2 => ⟨hin, r_in (fun i => bs1 ?_) (fun i => bs0 ?_)⟩⟩⟩
      · exact yes _ rfl ⟨eq, n2, i.2, Int32.le_trans i.1 hle⟩
      · refine next (fun z => ?_)
        by_cases hf : f ≤ dD σ 1332 c
        · exact i ⟨hf, z.2.2.1⟩
        · exact nf ⟨eq, n2, Int32.le_of_lt (Int32.not_le.mp hf), z.2.2.2⟩
theorem r_charter {g : Nat → Nat} {m : Nat} {S : HSt} {σ : Sg} (h : MR g m S σ) (hi : Inv σ) (k s f t tx : Int32) (am : Int64) : wp_X12_charter g m k s f t tx am S (fun r S' => r = (st_charter σ k s f t tx am).1 ∧ MR g m S' (st_charter σ k s f t tx am).2) := by
  have hs := hi.1.2.1
  have h3 := hi.1.2.2.2.1.2
  have h4 := hi.1.2.2.2.2.1
  have hc := h.c 1329 4
  unfold wp_X12_charter st_charter
  refine r_in (fun ik => bs1 (r_isShip h (by omega) (fun os => bs1 (r_isHour (fun jf => bs1 (r_isHour (fun jt => bs1 ⟨fun lt => ?_, fun nlt => r_isText h (by omega) (fun ox => bs1 ⟨fun an => ?_, fun ap => ⟨fun al => ⟨cN σ 4 + 1, ?_⟩, fun al => ?_⟩⟩) (fun ox => bs0 ?_)⟩) (fun jt => bs0 ?_))) (fun jf => bs0 ?_))) (fun os => bs0 ?_))) (fun ik => bs0 ?_)
  · rw [if_pos (in05.mp ik), if_pos os, if_pos jf, if_pos jt, if_neg (fun z => absurd lt (Int32.not_lt.mpr z))]; exact ⟨rfl, h⟩
  · rw [lg_cmp_lt] at an
    rw [if_pos (in05.mp ik), if_pos os, if_pos jf, if_pos jt, if_pos (Int32.not_lt.mp nlt), if_pos ox, if_neg (fun z => z an)]; exact ⟨rfl, h⟩
  · rw [lg_cmp_lt] at ap
    rw [am_le ap] at al
    have le := Int32.not_lt.mp nlt
    rw [if_pos (in05.mp ik), if_pos os, if_pos jf, if_pos jt, if_pos le, if_pos ox, if_pos ap, if_pos al]
    refine r_meets_lp h hi s f t le _ _ (fun nm w => ?_) (fun mm w => ?_) (cN σ 4) 0 (by omega) (fun d hd => absurd hd (Nat.not_lt_zero d))
    · rw [if_neg nm]
      refine ⟨fun ne => ?_, fun e => ?_⟩
      · have ne' : ¬ cN σ 4 = 12 := fun z => ne (by rw [hc, z]; rfl)
        rw [if_neg ne']
        have hin : vp_in (nI (cN σ 4)) 12 := vp_in_nI (by omega) (by decide)
        have hx : (nI (cN σ 4)).toNatClampNeg = cN σ 4 := nI_clamp (by omega)
        refine ⟨by rw [hc]; exact hin, fun S1 e1 => ?_⟩
        have h11 : MR g m S1 (sD σ 1330 (cN σ 4) (k)) := by rw [e1, hc, hx]; exact h.pA 1330 230 _ _
        have c1 : gI S1 1329 m = nI (cN σ 4) := by rw [e1]; exact hc
        clear e1
        refine ⟨by rw [c1]; exact hin, fun S2 e2 => ?_⟩
        have h12 : MR g m S2 (sD (sD σ 1330 (cN σ 4) (k)) 1331 (cN σ 4) (s)) := by rw [e2, c1, hx]; exact h11.pA 1331 231 _ _
        have c2 : gI S2 1329 m = nI (cN σ 4) := by rw [e2]; exact c1
        clear e2
        refine ⟨by rw [c2]; exact hin, fun S3 e3 => ?_⟩
        have h13 : MR g m S3 (sD (sD (sD σ 1330 (cN σ 4) (k)) 1331 (cN σ 4) (s)) 1332 (cN σ 4) (f)) := by rw [e3, c2, hx]; exact h12.pA 1332 232 _ _
        have c3 : gI S3 1329 m = nI (cN σ 4) := by rw [e3]; exact c2
        clear e3
        refine ⟨by rw [c3]; exact hin, fun S4 e4 => ?_⟩
        have h14 : MR g m S4 (sD (sD (sD (sD σ 1330 (cN σ 4) (k)) 1331 (cN σ 4) (s)) 1332 (cN σ 4) (f)) 1333 (cN σ 4) (t)) := by rw [e4, c3, hx]; exact h13.pA 1333 233 _ _
        have c4 : gI S4 1329 m = nI (cN σ 4) := by rw [e4]; exact c3
        clear e4
        refine ⟨by rw [c4]; exact hin, fun S5 e5 => ?_⟩
        have h15 : MR g m S5 (sD (sD (sD (sD (sD σ 1330 (cN σ 4) (k)) 1331 (cN σ 4) (s)) 1332 (cN σ 4) (f)) 1333 (cN σ 4) (t)) 1334 (cN σ 4) (tx)) := by rw [e5, c4, hx]; exact h14.pA 1334 234 _ _
        have c5 : gI S5 1329 m = nI (cN σ 4) := by rw [e5]; exact c4
        clear e5
        refine ⟨by rw [c5]; exact hin, fun S6 e6 => ?_⟩
        have h16 : MR g m S6 (sD (sD (sD (sD (sD (sD σ 1330 (cN σ 4) (k)) 1331 (cN σ 4) (s)) 1332 (cN σ 4) (f)) 1333 (cN σ 4) (t)) 1334 (cN σ 4) (tx)) 1335 (cN σ 4) (((am / (1000000 : Int64))).toInt32)) := by rw [e6, c5, hx]; exact h15.pA 1335 235 _ _
        have c6 : gI S6 1329 m = nI (cN σ 4) := by rw [e6]; exact c5
        clear e6
        refine ⟨by rw [c6]; exact hin, fun S7 e7 => ?_⟩
        have h17 : MR g m S7 (sD (sD (sD (sD (sD (sD (sD σ 1330 (cN σ 4) (k)) 1331 (cN σ 4) (s)) 1332 (cN σ 4) (f)) 1333 (cN σ 4) (t)) 1334 (cN σ 4) (tx)) 1335 (cN σ 4) (((am / (1000000 : Int64))).toInt32)) 1336 (cN σ 4) (((am / (1000 : Int64)) - (am / (1000 : Int64)) / (1000 : Int64) * (1000 : Int64)).toInt32)) := by rw [e7, c6, hx]; exact h16.pA 1336 236 _ _
        have c7 : gI S7 1329 m = nI (cN σ 4) := by rw [e7]; exact c6
        clear e7
        refine ⟨by rw [c7]; exact hin, fun S8 e8 => ?_⟩
        have h18 : MR g m S8 (sD (sD (sD (sD (sD (sD (sD (sD σ 1330 (cN σ 4) (k)) 1331 (cN σ 4) (s)) 1332 (cN σ 4) (f)) 1333 (cN σ 4) (t)) 1334 (cN σ 4) (tx)) 1335 (cN σ 4) (((am / (1000000 : Int64))).toInt32)) 1336 (cN σ 4) (((am / (1000 : Int64)) - (am / (1000 : Int64)) / (1000 : Int64) * (1000 : Int64)).toInt32)) 1337 (cN σ 4) ((am - am / (1000 : Int64) * (1000 : Int64)).toInt32)) := by rw [e8, c7, hx]; exact h17.pA 1337 237 _ _
        have c8 : gI S8 1329 m = nI (cN σ 4) := by rw [e8]; exact c7
        clear e8
        refine ⟨by rw [c8]; exact hin, fun S9 e9 => ?_⟩
        have h19 : MR g m S9 (sD (sD (sD (sD (sD (sD (sD (sD (sD σ 1330 (cN σ 4) (k)) 1331 (cN σ 4) (s)) 1332 (cN σ 4) (f)) 1333 (cN σ 4) (t)) 1334 (cN σ 4) (tx)) 1335 (cN σ 4) (((am / (1000000 : Int64))).toInt32)) 1336 (cN σ 4) (((am / (1000 : Int64)) - (am / (1000 : Int64)) / (1000 : Int64) * (1000 : Int64)).toInt32)) 1337 (cN σ 4) ((am - am / (1000 : Int64) * (1000 : Int64)).toInt32)) 1338 (cN σ 4) (0)) := by rw [e9, c8, hx]; exact h18.pA 1338 238 _ _
        have c9 : gI S9 1329 m = nI (cN σ 4) := by rw [e9]; exact c8
        clear e9
        intro S19 e19
        rw [c9, nI_1] at e19
        have hz : MR g m S19 (ad_charter σ k s f t tx am) := by rw [e19]; exact h19.pI 1329 4 (cN σ 4 + 1) _ rfl
        refine ⟨?_, hz⟩
        rw [e19, gI_same, if_pos rfl]; exact nI_pred _
      · rw [if_pos ((cnt_eq (N := 12) (by omega)).mp (hc ▸ e))]; exact ⟨rfl, h⟩
    · rw [if_pos mm]; exact ⟨rfl, h⟩
  · rw [lg_cmp_lt] at ap
    rw [am_le ap] at al
    rw [if_pos (in05.mp ik), if_pos os, if_pos jf, if_pos jt, if_pos (Int32.not_lt.mp nlt), if_pos ox, if_pos ap, if_neg al]; exact ⟨rfl, h⟩
  · rw [if_pos (in05.mp ik), if_pos os, if_pos jf, if_pos jt, if_pos (Int32.not_lt.mp nlt), if_neg ox]; exact ⟨rfl, h⟩
  · rw [if_pos (in05.mp ik), if_pos os, if_pos jf, if_neg jt]; exact ⟨rfl, h⟩
  · rw [if_pos (in05.mp ik), if_pos os, if_neg jf]; exact ⟨rfl, h⟩
  · rw [if_pos (in05.mp ik), if_neg os]; exact ⟨rfl, h⟩
  · rw [if_neg (fun z => ik (in05.mpr z))]; exact ⟨rfl, h⟩
theorem c_meets {ad : AD} {x : Nat} {S : HSt} {σ : Sg} (h : CR ad x S σ) (hi : Inv σ) {s f t : Int32} (os : okN s (cN σ 1)) {Post : Int32 → HSt → Prop} (h1 : meetS σ s f t → Post 1 S) (h0 : ¬ meetS σ s f t → Post 0 S) : wp_X11_meets x (ad 2 (ix s)) f t S Post := by
  have hs := hi.1.2.1
  have hs4 := hi.1.2.2.2.2.1
  have hc := h.2.1.2.2.2.2.1
  refine ⟨cN σ 4 + 1, ?_⟩
  have key : ∀ (n c : Nat), c + n = cN σ 4 → (∀ d, d < c → ¬ (dD σ 1331 d = s ∧ dD σ 1338 d ≠ 2 ∧ dD σ 1332 d ≤ t ∧ f ≤ dD σ 1333 d)) → lp_X11_meets_3a x (ad 2 (ix s)) t f (fun _ S29 => Post 0 S29) (fun _ S31 => Post 1 S31) (n + 1) (nI c) S := by
    intro n
    induction n with
    | zero =>
      intro c e hp
      have : c = cN σ 4 := by omega
      subst this
      exact ⟨fun _ => h0 (fun ⟨d, d1, d2⟩ => hp d d1 d2), fun z => absurd (hc ▸ Int32.le_refl _) z⟩
    | succ n ih =>
      intro c e hp
      have hcl : c < cN σ 4 := by omega
      have next : ¬ (dD σ 1331 c = s ∧ dD σ 1338 c ≠ 2 ∧ dD σ 1332 c ≤ t ∧ f ≤ dD σ 1333 c) → ∀ v20, v20 = nI c + 1 → lp_X11_meets_3a x (ad 2 (ix s)) t f (fun _ S29 => Post 0 S29) (fun _ S31 => Post 1 S31) (n + 1) v20 S := fun hh v20 e20 => by
        rw [nI_1] at e20
        subst e20
        refine ih (c + 1) (by omega) (fun d hd => ?_)
        by_cases e : d = c
        · subst e; exact hh
        · exact hp d (by omega)
      refine ⟨fun z => ?_, fun _ => c_charterAt h hi (fun oc => ⟨fun z => (by cases z), fun b18 e18 => ?_⟩) (fun nc => absurd (okN_nI hcl (by omega)) nc)⟩
      · rw [hc] at z; exact absurd z (nI_ge (by omega) (by omega))
      · cases e18
        rw [ix_nI (by omega)]
        obtain ⟨a1, a2, a3, a4, a5, a6, a7, a8, a9, b1, b2⟩ := h.2.2.2.2.2.2.2.2.1.1 _ hcl
        refine ⟨a2, c_isOf h hi hcl os (fun e1 => bs1 ?_) (fun n1 => bs0 (next (fun z => n1 z.1)))⟩
        rw [b2, a5, a6]
        refine ⟨fun e2 => next (fun z => z.2.1 e2), fun n2 => ⟨fun l1 => next (fun z => absurd l1 (Int32.not_lt.mpr z.2.2.1)), fun l1 => ⟨fun l2 => next (fun z => absurd l2 (Int32.not_lt.mpr z.2.2.2)), fun l2 => h1 ⟨c, hcl, e1, n2, Int32.not_lt.mp l1, Int32.not_lt.mp l2⟩⟩⟩⟩
  exact key (cN σ 4) 0 (by omega) (fun d hd => absurd hd (Nat.not_lt_zero d))
theorem CR.pre1330 {ad : AD} {x : Nat} {S : HSt} {σ : Sg} (h : CR ad x S σ) (v : Int32) : CR ad x S (sD σ 1330 (cN σ 4) v) := by
  obtain ⟨hF, hC, hP, hS, hO, hR, hT, hX, hH, hE⟩ := h
  refine ⟨hF, hC, hP, hS, hO, hR, hT, hX, ⟨fun i hi => ?_, hH.2⟩, hE⟩
  have hi : i < cN σ 4 := hi
  have e : i ≠ cN σ 4 := by omega
  obtain ⟨a1, a2, a3, a4, a5, a6, a7, a8, a9, b1, b2⟩ := hH.1 i hi
  refine ⟨a1, a2, a3.trans ?_, a4, a5, a6, a7, a8, a9, b1, b2⟩
  rw [dD_same, if_neg e]
theorem CR.pre1331 {ad : AD} {x : Nat} {S : HSt} {σ : Sg} (h : CR ad x S σ) (v : Int32) : CR ad x S (sD σ 1331 (cN σ 4) v) := by
  obtain ⟨hF, hC, hP, hS, hO, hR, hT, hX, hH, hE⟩ := h
  refine ⟨hF, hC, hP, hS, hO, hR, hT, hX, ⟨fun i hi => ?_, hH.2⟩, hE⟩
  have hi : i < cN σ 4 := hi
  have e : i ≠ cN σ 4 := by omega
  obtain ⟨a1, a2, a3, a4, a5, a6, a7, a8, a9, b1, b2⟩ := hH.1 i hi
  refine ⟨a1, a2, a3, a4.trans ?_, a5, a6, a7, a8, a9, b1, b2⟩
  rw [dD_same, if_neg e]
theorem CR.pre1332 {ad : AD} {x : Nat} {S : HSt} {σ : Sg} (h : CR ad x S σ) (v : Int32) : CR ad x S (sD σ 1332 (cN σ 4) v) := by
  obtain ⟨hF, hC, hP, hS, hO, hR, hT, hX, hH, hE⟩ := h
  refine ⟨hF, hC, hP, hS, hO, hR, hT, hX, ⟨fun i hi => ?_, hH.2⟩, hE⟩
  have hi : i < cN σ 4 := hi
  have e : i ≠ cN σ 4 := by omega
  obtain ⟨a1, a2, a3, a4, a5, a6, a7, a8, a9, b1, b2⟩ := hH.1 i hi
  refine ⟨a1, a2, a3, a4, a5.trans ?_, a6, a7, a8, a9, b1, b2⟩
  rw [dD_same, if_neg e]
theorem CR.pre1333 {ad : AD} {x : Nat} {S : HSt} {σ : Sg} (h : CR ad x S σ) (v : Int32) : CR ad x S (sD σ 1333 (cN σ 4) v) := by
  obtain ⟨hF, hC, hP, hS, hO, hR, hT, hX, hH, hE⟩ := h
  refine ⟨hF, hC, hP, hS, hO, hR, hT, hX, ⟨fun i hi => ?_, hH.2⟩, hE⟩
  have hi : i < cN σ 4 := hi
  have e : i ≠ cN σ 4 := by omega
  obtain ⟨a1, a2, a3, a4, a5, a6, a7, a8, a9, b1, b2⟩ := hH.1 i hi
  refine ⟨a1, a2, a3, a4, a5, a6.trans ?_, a7, a8, a9, b1, b2⟩
  rw [dD_same, if_neg e]
theorem CR.pre1334 {ad : AD} {x : Nat} {S : HSt} {σ : Sg} (h : CR ad x S σ) (v : Int32) : CR ad x S (sD σ 1334 (cN σ 4) v) := by
  obtain ⟨hF, hC, hP, hS, hO, hR, hT, hX, hH, hE⟩ := h
  refine ⟨hF, hC, hP, hS, hO, hR, hT, hX, ⟨fun i hi => ?_, hH.2⟩, hE⟩
  have hi : i < cN σ 4 := hi
  have e : i ≠ cN σ 4 := by omega
  obtain ⟨a1, a2, a3, a4, a5, a6, a7, a8, a9, b1, b2⟩ := hH.1 i hi
  refine ⟨a1, a2, a3, a4, a5, a6, a7.trans ?_, a8, a9, b1, b2⟩
  rw [dD_same, if_neg e]
theorem CR.pre1335 {ad : AD} {x : Nat} {S : HSt} {σ : Sg} (h : CR ad x S σ) (v : Int32) : CR ad x S (sD σ 1335 (cN σ 4) v) := by
  obtain ⟨hF, hC, hP, hS, hO, hR, hT, hX, hH, hE⟩ := h
  refine ⟨hF, hC, hP, hS, hO, hR, hT, hX, ⟨fun i hi => ?_, hH.2⟩, hE⟩
  have hi : i < cN σ 4 := hi
  have e : i ≠ cN σ 4 := by omega
  obtain ⟨a1, a2, a3, a4, a5, a6, a7, a8, a9, b1, b2⟩ := hH.1 i hi
  refine ⟨a1, a2, a3, a4, a5, a6, a7, a8.trans ?_, a9, b1, b2⟩
  rw [dD_same, if_neg e]
theorem CR.pre1336 {ad : AD} {x : Nat} {S : HSt} {σ : Sg} (h : CR ad x S σ) (v : Int32) : CR ad x S (sD σ 1336 (cN σ 4) v) := by
  obtain ⟨hF, hC, hP, hS, hO, hR, hT, hX, hH, hE⟩ := h
  refine ⟨hF, hC, hP, hS, hO, hR, hT, hX, ⟨fun i hi => ?_, hH.2⟩, hE⟩
  have hi : i < cN σ 4 := hi
  have e : i ≠ cN σ 4 := by omega
  obtain ⟨a1, a2, a3, a4, a5, a6, a7, a8, a9, b1, b2⟩ := hH.1 i hi
  refine ⟨a1, a2, a3, a4, a5, a6, a7, a8, a9.trans ?_, b1, b2⟩
  rw [dD_same, if_neg e]
theorem CR.pre1337 {ad : AD} {x : Nat} {S : HSt} {σ : Sg} (h : CR ad x S σ) (v : Int32) : CR ad x S (sD σ 1337 (cN σ 4) v) := by
  obtain ⟨hF, hC, hP, hS, hO, hR, hT, hX, hH, hE⟩ := h
  refine ⟨hF, hC, hP, hS, hO, hR, hT, hX, ⟨fun i hi => ?_, hH.2⟩, hE⟩
  have hi : i < cN σ 4 := hi
  have e : i ≠ cN σ 4 := by omega
  obtain ⟨a1, a2, a3, a4, a5, a6, a7, a8, a9, b1, b2⟩ := hH.1 i hi
  refine ⟨a1, a2, a3, a4, a5, a6, a7, a8, a9, b1.trans ?_, b2⟩
  rw [dD_same, if_neg e]
theorem CR.pre1338 {ad : AD} {x : Nat} {S : HSt} {σ : Sg} (h : CR ad x S σ) (v : Int32) : CR ad x S (sD σ 1338 (cN σ 4) v) := by
  obtain ⟨hF, hC, hP, hS, hO, hR, hT, hX, hH, hE⟩ := h
  refine ⟨hF, hC, hP, hS, hO, hR, hT, hX, ⟨fun i hi => ?_, hH.2⟩, hE⟩
  have hi : i < cN σ 4 := hi
  have e : i ≠ cN σ 4 := by omega
  obtain ⟨a1, a2, a3, a4, a5, a6, a7, a8, a9, b1, b2⟩ := hH.1 i hi
  refine ⟨a1, a2, a3, a4, a5, a6, a7, a8, a9, b1, b2.trans ?_⟩
  rw [dD_same, if_neg e]
def pcS (σ : Sg) (k s f t tx u r w : Int32) : Sg := sD (sD (sD (sD (sD (sD (sD (sD (sD σ 1330 (cN σ 4) k) 1331 (cN σ 4) s) 1332 (cN σ 4) f) 1333 (cN σ 4) t) 1334 (cN σ 4) tx) 1335 (cN σ 4) u) 1336 (cN σ 4) r) 1337 (cN σ 4) w) 1338 (cN σ 4) 0
theorem pc_1330 (σ : Sg) (k s f t tx u r w : Int32) (i : Nat) : dD (pcS σ k s f t tx u r w) 1330 i = if i = cN σ 4 then k else dD σ 1330 i := by simp [pcS, dD_sD]
theorem pc_1331 (σ : Sg) (k s f t tx u r w : Int32) (i : Nat) : dD (pcS σ k s f t tx u r w) 1331 i = if i = cN σ 4 then s else dD σ 1331 i := by simp [pcS, dD_sD]
theorem pc_1332 (σ : Sg) (k s f t tx u r w : Int32) (i : Nat) : dD (pcS σ k s f t tx u r w) 1332 i = if i = cN σ 4 then f else dD σ 1332 i := by simp [pcS, dD_sD]
theorem pc_1333 (σ : Sg) (k s f t tx u r w : Int32) (i : Nat) : dD (pcS σ k s f t tx u r w) 1333 i = if i = cN σ 4 then t else dD σ 1333 i := by simp [pcS, dD_sD]
theorem pc_1334 (σ : Sg) (k s f t tx u r w : Int32) (i : Nat) : dD (pcS σ k s f t tx u r w) 1334 i = if i = cN σ 4 then tx else dD σ 1334 i := by simp [pcS, dD_sD]
theorem pc_1335 (σ : Sg) (k s f t tx u r w : Int32) (i : Nat) : dD (pcS σ k s f t tx u r w) 1335 i = if i = cN σ 4 then u else dD σ 1335 i := by simp [pcS, dD_sD]
theorem pc_1336 (σ : Sg) (k s f t tx u r w : Int32) (i : Nat) : dD (pcS σ k s f t tx u r w) 1336 i = if i = cN σ 4 then r else dD σ 1336 i := by simp [pcS, dD_sD]
theorem pc_1337 (σ : Sg) (k s f t tx u r w : Int32) (i : Nat) : dD (pcS σ k s f t tx u r w) 1337 i = if i = cN σ 4 then w else dD σ 1337 i := by simp [pcS, dD_sD]
theorem pc_1338 (σ : Sg) (k s f t tx u r w : Int32) (i : Nat) : dD (pcS σ k s f t tx u r w) 1338 i = if i = cN σ 4 then 0 else dD σ 1338 i := by simp [pcS, dD_sD]
theorem ad_pc (σ : Sg) (k s f t tx : Int32) (am : Int64) : ad_charter σ k s f t tx am = sN (pcS σ k s f t tx ((am / (1000000 : Int64))).toInt32 ((am / (1000 : Int64)) - (am / (1000 : Int64)) / (1000 : Int64) * (1000 : Int64)).toInt32 (am - am / (1000 : Int64) * (1000 : Int64)).toInt32) 4 (cN σ 4 + 1) := rfl
theorem CR.pc {ad : AD} {x : Nat} {S : HSt} {σ : Sg} (h : CR ad x S σ) (k s f t tx u r w : Int32) : CR ad x S (pcS σ k s f t tx u r w) := (((((((((h.pre1330 k).pre1331 s).pre1332 f).pre1333 t).pre1334 tx).pre1335 u).pre1336 r).pre1337 w).pre1338 0)
theorem CR.addCharter {ad : AD} {x : Nat} {S : HSt} {σ : Sg} (h : CR ad x S σ) {n q : Nat} (hn : n = cN σ 4) (ha : ad 7 n = q) (f1 : gK S q = 2) (f2 : gI S 200 q = dD σ 1330 n) (f3 : gR S 201 q = some (ad 2 (ix (dD σ 1331 n)))) (f4 : gI S 202 q = dD σ 1332 n) (f5 : gI S 203 q = dD σ 1333 n) (f6 : gR S 204 q = some (ad 5 (ix (dD σ 1334 n)))) (f7 : gI S 205 q = dD σ 1335 n) (f8 : gI S 206 q = dD σ 1336 n) (f9 : gI S 207 q = dD σ 1337 n) (g1 : gI S 208 q = dD σ 1338 n) (g4 : ∀ i, i < n → ad 7 i ≠ q) : CR ad x (uI (uB S 400 (ad 10 4) n (some q)) 1211 x (nI (n + 1))) (sN σ 4 (n + 1)) := by
  subst hn
  obtain ⟨hF, hC, hP, hS, hO, hR, hT, hX, hH, hE⟩ := h
  have hrow : ∀ j, j ≠ cN σ 4 → gB (uB S 400 (ad 10 4) (cN σ 4) (some q)) 400 (ad 10 4) j = gB S 400 (ad 10 4) j := fun j hj => gB_uBn (fun z => hj z.2.2)
  refine ⟨hF.ks (Ks.trans (Ks_uB rfl) (Ks_uI rfl)) (fun i hi => gB_uBn (S := S) (k := 400) (fun z => absurd z.1 (by decide))), ?_, hP, hS, hO, hR, hT, hX, ⟨fun i hi' => ?_, fun i j h1 h2 => ?_⟩, hE⟩
  · obtain ⟨c0, c1, c2, c3, c4, c5, c6⟩ := hC
    refine ⟨c0, c1, c2, c3, ?_, c5, c6⟩
    rw [gI_same, if_pos rfl]; rfl
  · have hi' : i < cN σ 4 + 1 := hi'
    by_cases e : i = cN σ 4
    · subst e
      subst ha
      exact ⟨gB_uBs, f1, f2, f3, f4, f5, f6, f7, f8, f9, g1⟩
    · have hlt' : i < cN σ 4 := by omega
      obtain ⟨a1, a2⟩ := hH.1 i hlt'
      exact ⟨(hrow i e).trans a1, a2⟩
  · have h1 : i < cN σ 4 + 1 := h1
    have h2 : j < cN σ 4 + 1 := h2
    intro e
    by_cases e1 : i = cN σ 4
    · by_cases e2 : j = cN σ 4
      · omega
      · subst e1; rw [ha] at e; exact absurd e.symm (g4 j (by omega))
    · by_cases e2 : j = cN σ 4
      · subst e2; rw [ha] at e; exact absurd e (g4 i (by omega))
      · exact hH.2 i j (by omega) (by omega) e
theorem c_charter {ad : AD} {x : Nat} {S : HSt} {σ : Sg} (h : CR ad x S σ) (hi : Inv σ) (k s f t tx : Int32) (am : Int64) : wp_X11_charter x k s f t tx am S (fun v S' => v = (st_charter σ k s f t tx am).1 ∧ ∃ ad', CR ad' x S' (st_charter σ k s f t tx am).2) := by
  have hs := hi.1.2.1
  have h3 := hi.1.2.2.2.1.2
  have h4 := hi.1.2.2.2.2.1
  have hc := h.2.1.2.2.2.2.1
  unfold wp_X11_charter st_charter
  by_cases os : okN s (cN σ 1)
  case neg =>
    refine c_shipAt h hi (fun z => absurd z os) (fun _ => c_textAt h hi (fun ox => c_isKind (fun ok => bs1 ⟨fun _ => ?_, fun b e => (by cases e)⟩) (fun nk => bs0 ?_)) (fun ox => c_isKind (fun ok => bs1 ⟨fun _ => ?_, fun b e => (by cases e)⟩) (fun nk => bs0 ?_)))
    · rw [if_pos ok, if_neg os]; exact ⟨rfl, ad, h⟩
    · rw [if_neg nk]; exact ⟨rfl, ad, h⟩
    · rw [if_pos ok, if_neg os]; exact ⟨rfl, ad, h⟩
    · rw [if_neg nk]; exact ⟨rfl, ad, h⟩
  case pos =>
  refine c_shipAt h hi (fun _ => ?_) (fun z => absurd os z)
  by_cases ox : okN tx (cN σ 3)
  case neg =>
    refine c_textAt h hi (fun z => absurd z ox) (fun _ => c_isKind (fun ok => bs1 ⟨fun z => (by cases z), fun b e => c_isHour (fun jf => bs1 (c_isHour (fun jt => bs1 ⟨fun le => ⟨fun _ => ?_, fun b e => (by cases e)⟩, fun nle => ?_⟩) (fun jt => bs0 ?_))) (fun jf => bs0 ?_)⟩) (fun nk => bs0 ?_))
    · rw [if_pos ok, if_pos os, if_pos jf, if_pos jt, if_pos le, if_neg ox]; exact ⟨rfl, ad, h⟩
    · rw [if_pos ok, if_pos os, if_pos jf, if_pos jt, if_neg nle]; exact ⟨rfl, ad, h⟩
    · rw [if_pos ok, if_pos os, if_pos jf, if_neg jt]; exact ⟨rfl, ad, h⟩
    · rw [if_pos ok, if_pos os, if_neg jf]; exact ⟨rfl, ad, h⟩
    · rw [if_neg nk]; exact ⟨rfl, ad, h⟩
  case pos =>
  refine c_textAt h hi (fun _ => c_isKind (fun ok => bs1 ⟨fun z => (by cases z), fun b e => c_isHour (fun jf => bs1 (c_isHour (fun jt => bs1 ⟨fun le => ⟨fun z => (by cases z), fun b2 e2 => ⟨fun an => ?_, fun ap => ⟨fun al => ?_, fun al => ?_⟩⟩⟩, fun nle => ?_⟩) (fun jt => bs0 ?_))) (fun jf => bs0 ?_)⟩) (fun nk => bs0 ?_)) (fun z => absurd ox z)
  · rw [lg_cmp_lt] at an
    rw [if_pos ok, if_pos os, if_pos jf, if_pos jt, if_pos le, if_pos ox, if_neg (fun z => z an)]; exact ⟨rfl, ad, h⟩
  · cases e; cases e2
    rw [lg_cmp_lt] at ap
    rw [lg_cmp_le] at al
    rw [if_pos ok, if_pos os, if_pos jf, if_pos jt, if_pos le, if_pos ox, if_pos ap, if_pos al]
    have hsl := okN_lt os (by omega)
    have hxl := okN_lt ox (by omega)
    have ksh := (h.2.2.2.1.1 _ hsl).2.1
    have ktx := (h.2.2.2.2.2.2.2.1.1 _ hxl).2.1
    refine ⟨ksh, c_meets h hi os (fun mm => bs1 ?_) (fun nm => bs0 ?_)⟩
    · rw [if_pos mm]; exact ⟨rfl, ad, h⟩
    · rw [if_neg nm, hc]
      have hlt := nI_ltI (a := cN σ 4) (b := 12) (by omega) (by decide)
      refine ⟨fun lt => ?_, fun nl => ?_⟩
      · have lt' := hlt.mp lt
        rw [if_neg (by omega)]
        obtain ⟨q1, q2, q3⟩ := h.1.f 1204 4 400 12
        refine ⟨_, q1, fun a ha S14 e14 => ?_⟩
        subst e14
        refine ⟨((Ex_nO Ex.rf ha).k (k0 ktx)).trans ktx, fun S1 e1 S2 e2 => ⟨?_, fun S3 e3 S4 e4 S5 e5 => ⟨?_, fun S6 e6 S7 e7 S8 e8 S9 e9 => ?_⟩⟩⟩
        · subst e1 e2; simp [gR, nO, uI, cl2]
        · subst e1 e2 e3 e4 e5; simp [gR, nO, uI, uR, cl2, up2]
        subst e1 e2 e3 e4 e5 e6 e7 e8 e9
        have eX : Ex S (uI (uI (uI (uR (uI (uI (uR (uI (uI (nO S 2 a) 208 a 0) 200 a k) 201 a (some (ad 2 (ix s)))) 202 a f) 203 a t) 204 a (some (ad 5 (ix tx)))) 205 a ((am / (1000000 : Int64))).toInt32) 206 a ((am / (1000 : Int64)) - (am / (1000 : Int64)) / (1000 : Int64) * (1000 : Int64)).toInt32) 207 a (am - am / (1000 : Int64) * (1000 : Int64)).toInt32) := Ex_uI (Ex_uI (Ex_uI (Ex_uR (Ex_uI (Ex_uI (Ex_uR (Ex_uI (Ex_uI (Ex_nO Ex.rf ha) ha) ha) ha) ha) ha) ha) ha) ha) ha
        generalize hS : (uI (uI (uI (uR (uI (uI (uR (uI (uI (nO S 2 a) 208 a 0) 200 a k) 201 a (some (ad 2 (ix s)))) 202 a f) 203 a t) 204 a (some (ad 5 (ix tx)))) 205 a ((am / (1000000 : Int64))).toInt32) 206 a ((am / (1000 : Int64)) - (am / (1000 : Int64)) / (1000 : Int64) * (1000 : Int64)).toInt32) 207 a (am - am / (1000 : Int64) * (1000 : Int64)).toInt32) = S18 at eX ⊢
        have f1 : gK S18 a = 2 := by subst hS; simp [gK, uI, uR, nO, va_up]
        have f2 : gI S18 200 a = k := by subst hS; simp [gI, uI, uR, nO, up2]
        have f3 : gR S18 201 a = some (ad 2 (ix s)) := by subst hS; simp [gR, uI, uR, nO, up2]
        have f4 : gI S18 202 a = f := by subst hS; simp [gI, uI, uR, nO, up2]
        have f5 : gI S18 203 a = t := by subst hS; simp [gI, uI, uR, nO, up2]
        have f6 : gR S18 204 a = some (ad 5 (ix tx)) := by subst hS; simp [gR, uI, uR, nO, up2]
        have f7 : gI S18 205 a = ((am / (1000000 : Int64))).toInt32 := by subst hS; simp [gI, uI, uR, nO, up2]
        have f8 : gI S18 206 a = ((am / (1000 : Int64)) - (am / (1000 : Int64)) / (1000 : Int64) * (1000 : Int64)).toInt32 := by subst hS; simp [gI, uI, uR, nO, up2]
        have f9 : gI S18 207 a = (am - am / (1000 : Int64) * (1000 : Int64)).toInt32 := by subst hS; simp [gI, uI, uR, nO, up2]
        have g1 : gI S18 208 a = 0 := by subst hS; simp [gI, uI, uR, nO, up2, cl2]
        have h2 : CR ad x S18 σ := h.ext eX
        have h3 : CR (up2 ad 7 (cN σ 4) a) x S18 σ := h2.ad hi (fun r i hl => by
          rw [up2_n (fun z => ?_)]
          have := hl.2.2.2.2 z.1; omega)
        have q2' : gK S18 (ad 10 4) = 400 := (eX.k (k0 q2)).trans q2
        have q3' : gN S18 (ad 10 4) = 12 := (eX.n (k0 q2)).trans q3
        refine ⟨q2', by rw [q3']; exact vp_in_nI lt' (by decide), fun S22 e22 S25 e25 => ?_⟩
        have hc' : gI S18 1211 x = nI (cN σ 4) := h2.2.1.2.2.2.2.1
        rw [nI_clamp (by omega)] at e22
        subst e22 e25
        refine ⟨?_, up2 ad 7 (cN σ 4) a, ?_⟩
        · rw [gI_same, if_pos rfl]
          show gI S18 1211 x + 1 - 1 = _
          rw [hc']; exact nI_sub1 _
        · have := (h3.pc k s f t tx ((am / (1000000 : Int64))).toInt32 ((am / (1000 : Int64)) - (am / (1000 : Int64)) / (1000 : Int64) * (1000 : Int64)).toInt32 (am - am / (1000 : Int64) * (1000 : Int64)).toInt32).addCharter (n := cN σ 4) (q := a) rfl (by simp [up2]) f1 (f2.trans ((pc_1330 σ k s f t tx _ _ _ (cN σ 4)).trans (if_pos rfl)).symm) (by rw [f3, pc_1331, if_pos rfl]; simp [up2]) (f4.trans ((pc_1332 σ k s f t tx _ _ _ (cN σ 4)).trans (if_pos rfl)).symm) (f5.trans ((pc_1333 σ k s f t tx _ _ _ (cN σ 4)).trans (if_pos rfl)).symm) (by rw [f6, pc_1334, if_pos rfl]; simp [up2]) (f7.trans ((pc_1335 σ k s f t tx _ _ _ (cN σ 4)).trans (if_pos rfl)).symm) (f8.trans ((pc_1336 σ k s f t tx _ _ _ (cN σ 4)).trans (if_pos rfl)).symm) (f9.trans ((pc_1337 σ k s f t tx _ _ _ (cN σ 4)).trans (if_pos rfl)).symm) (g1.trans ((pc_1338 σ k s f t tx _ _ _ (cN σ 4)).trans (if_pos rfl)).symm) (fun i hl z => by
            have z' : ad 7 i = a := by rw [up2_n (by omega)] at z; exact z
            have := (h.2.2.2.2.2.2.2.2.1.1 i hl).2.1
            rw [z', ha] at this; exact absurd this (by decide))
          show CR _ x (uI (uB S18 400 (ad 10 4) (cN σ 4) (some a)) 1211 x (gI S18 1211 x + 1)) (ad_charter σ k s f t tx am)
          rw [hc', nI_1, ad_pc]
          exact this
      · have : ¬ cN σ 4 < 12 := fun z => nl (hlt.mpr z)
        rw [if_pos (by omega)]; exact ⟨rfl, ad, h⟩
  · rw [lg_cmp_lt] at ap
    rw [lg_cmp_le] at al
    rw [if_pos ok, if_pos os, if_pos jf, if_pos jt, if_pos le, if_pos ox, if_pos ap, if_neg al]; exact ⟨rfl, ad, h⟩
  · rw [if_pos ok, if_pos os, if_pos jf, if_pos jt, if_neg nle]; exact ⟨rfl, ad, h⟩
  · rw [if_pos ok, if_pos os, if_pos jf, if_neg jt]; exact ⟨rfl, ad, h⟩
  · rw [if_pos ok, if_pos os, if_neg jf]; exact ⟨rfl, ad, h⟩
  · rw [if_neg nk]; exact ⟨rfl, ad, h⟩
theorem v_pre {σ : Sg} (hi : Inv σ) (k s f t tx u r w : Int32) : Inv (pcS σ k s f t tx u r w) := by
  obtain ⟨i0, i1, i2, i3, i4, i5, i6, i7, i8, i9, i10⟩ := hi
  refine ⟨i0, i1, i2, i3, i4, i5, i6, i7, fun i h => ?_, fun i j h1 h2 ne => ?_, i10⟩
  · have h : i < cN σ 4 := h
    have e : i ≠ cN σ 4 := by omega
    rw [pc_1330, if_neg e, pc_1331, if_neg e, pc_1332, if_neg e, pc_1333, if_neg e, pc_1334, if_neg e, pc_1335, if_neg e, pc_1336, if_neg e, pc_1337, if_neg e, pc_1338, if_neg e]
    exact i8 i h
  · have h1 : i < cN σ 4 := h1
    have h2 : j < cN σ 4 := h2
    have e : i ≠ cN σ 4 := by omega
    have e' : j ≠ cN σ 4 := by omega
    rw [(pc_1331 σ k s f t tx u r w i).trans (if_neg e), (pc_1332 σ k s f t tx u r w i).trans (if_neg e), (pc_1333 σ k s f t tx u r w i).trans (if_neg e), (pc_1338 σ k s f t tx u r w i).trans (if_neg e), (pc_1331 σ k s f t tx u r w j).trans (if_neg e'), (pc_1332 σ k s f t tx u r w j).trans (if_neg e'), (pc_1333 σ k s f t tx u r w j).trans (if_neg e'), (pc_1338 σ k s f t tx u r w j).trans (if_neg e')]
    exact i9 i j h1 h2 ne
theorem v_addC {σ : Sg} (hi : Inv σ) {n : Nat} (hn : n = cN σ 4) (hl : n < 12) (f1 : bet (dD σ 1330 n) 0 5) (f2 : okN (dD σ 1331 n) (cN σ 1)) (f3 : bet (dD σ 1332 n) 0 9999) (f4 : bet (dD σ 1333 n) 0 9999) (f5 : dD σ 1332 n ≤ dD σ 1333 n) (f6 : okN (dD σ 1334 n) (cN σ 3)) (f7 : bet (dD σ 1335 n) 0 99999) (f8 : bet (dD σ 1336 n) 0 999) (f9 : bet (dD σ 1337 n) 0 999) (g1 : dD σ 1338 n = 0) (g2 : ∀ c, c < n → dD σ 1331 c = dD σ 1331 n → dD σ 1338 c ≠ 2 → dD σ 1333 n < dD σ 1332 c ∨ dD σ 1333 c < dD σ 1332 n) : Inv (sN σ 4 (n + 1)) := by
  subst hn
  obtain ⟨i0, i1, i2, i3, i4, i5, i6, i7, i8, i9, i10⟩ := hi
  refine ⟨⟨i0.1, i0.2.1, i0.2.2.1, i0.2.2.2.1, (show cN σ 4 + 1 ≤ 12 by omega), i0.2.2.2.2.2⟩, i1, i2, i3, i4, i5, i6, i7, fun i h => ?_, fun i j h1 h2 ne he n1 n2 => ?_, i10⟩
  · have h : i < cN σ 4 + 1 := h
    by_cases e : i = cN σ 4
    · subst e
      exact ⟨f1, f2, f3, f4, f5, f6, f7, f8, f9, by rw [show dD (sN σ 4 (cN σ 4 + 1)) 1338 (cN σ 4) = 0 from g1]; exact ⟨by decide, by decide⟩, fun z => absurd g1 z⟩
    · exact i8 i (by omega)
  · have h1 : i < cN σ 4 + 1 := h1
    have h2 : j < cN σ 4 + 1 := h2
    by_cases e1 : i = cN σ 4
    · by_cases e2 : j = cN σ 4
      · exact absurd (e1.trans e2.symm) ne
      · subst e1
        exact g2 j (by omega) he.symm n2
    · by_cases e2 : j = cN σ 4
      · subst e2
        exact (g2 i (by omega) he n1).symm
      · exact i9 i j (by omega) (by omega) ne he n1 n2
theorem bet_n {n N : Nat} (h : n ≤ N) (hN : N < 2 ^ 31) : bet (nI n) 0 N := ⟨by rw [nI_toInt (by omega)]; omega, by rw [nI_toInt (by omega)]; omega⟩
theorem v_charter {σ : Sg} (hi : Inv σ) (k s f t tx : Int32) (am : Int64) : Inv (st_charter σ k s f t tx am).2 := by
  unfold st_charter
  split
  · split
    · split
      · split
        · split
          · split
            · split
              · split
                · split
                  · exact hi
                  · split
                    · exact hi
                    · rename_i ok os jf jt le ox ap al nm ne
                      have h4 := hi.1.2.2.2.2.1
                      obtain ⟨n, hn, rfl⟩ := lN_of ap
                      obtain ⟨q1, q2, q3⟩ := am_eq hn
                      have hn2 : n ≤ 99999999999 := by
                        rw [Int64.le_iff_toInt_le, pk_lT hn] at al
                        have e2 : (99999999999 : Int64).toInt = 99999999999 := by decide
                        omega
                      show Inv (ad_charter σ k s f t tx (lN n))
                      rw [ad_pc, q1, q2, q3]
                      refine v_addC (v_pre hi k s f t tx (nI (n / 1000000)) (nI (n / 1000 % 1000)) (nI (n % 1000))) (n := cN σ 4) rfl (by omega) ?_ ?_ ?_ ?_ ?_ ?_ ?_ ?_ ?_ ?_ ?_
                      · rw [pc_1330, if_pos rfl]; exact bet_of (in05.mpr ok) (by decide) (by decide)
                      · rw [pc_1331, if_pos rfl]; exact os
                      · rw [pc_1332, if_pos rfl]; exact bet_of jf (by decide) (by decide)
                      · rw [pc_1333, if_pos rfl]; exact bet_of jt (by decide) (by decide)
                      · rw [pc_1332, if_pos rfl, pc_1333, if_pos rfl]; exact le
                      · rw [pc_1334, if_pos rfl]; exact ox
                      · rw [pc_1335, if_pos rfl]; exact bet_n (N := 99999) (by omega) (by decide)
                      · rw [pc_1336, if_pos rfl]; exact bet_n (N := 999) (by omega) (by decide)
                      · rw [pc_1337, if_pos rfl]; exact bet_n (N := 999) (by omega) (by decide)
                      · rw [pc_1338, if_pos rfl]
                      · intro c hc he h2
                        have hc : c < cN σ 4 := hc
                        have e : c ≠ cN σ 4 := by omega
                        rw [pc_1331, if_neg e, pc_1331, if_pos rfl] at he
                        rw [pc_1338, if_neg e] at h2
                        rw [pc_1333, if_pos rfl, pc_1332, if_neg e, pc_1333, if_neg e, pc_1332, if_pos rfl]
                        by_cases z1 : dD σ 1332 c ≤ t
                        · by_cases z2 : f ≤ dD σ 1333 c
                          · exact absurd ⟨c, hc, he, h2, z1, z2⟩ nm
                          · exact Or.inr (Int32.not_le.mp z2)
                        · exact Or.inl (Int32.not_le.mp z1)
                · exact hi
              · exact hi
            · exact hi
          · exact hi
        · exact hi
      · exact hi
    · exact hi
  · exact hi
