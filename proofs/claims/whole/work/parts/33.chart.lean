/-! taken -/
theorem c_isKind {a : Int32} {S : HSt} {Post : Int32 → HSt → Prop} (h1 : okN a 6 → Post 1 S) (h0 : ¬ okN a 6 → Post 0 S) : wp_X1_isKind a S Post :=
  ⟨fun z => h0 (fun q => q.1 z), fun z => ⟨fun le => h0 (fun q => absurd q.2 ((i_nlt _ _).mpr le)), fun nl => h1 ⟨z, (i_nle _ _).mp nl⟩⟩⟩
theorem in05 {a : Int32} : 0 ≤ a ∧ a ≤ 5 ↔ okN a 6 := by
  show 0 ≤ a ∧ a ≤ 5 ↔ ¬ a < 0 ∧ a < 6
  rw [i_nlt]
  constructor
  · intro ⟨h1, h2⟩; refine ⟨h1, ?_⟩; rw [i_le] at h2; rw [i_lt]; have e1 : (5 : Int32).toInt = 5 := by decide
    have e2 : (6 : Int32).toInt = 6 := by decide
    omega
  · intro ⟨h1, h2⟩; refine ⟨h1, ?_⟩; rw [i_lt] at h2; rw [i_le]; have e1 : (5 : Int32).toInt = 5 := by decide
    have e2 : (6 : Int32).toInt = 6 := by decide
    omega
def uF (a : Int32) : Nat → Int32 → Int32
  | 0, k => k
  | n + 1, k => if ¬ k < 0 ∧ k < 6 ∧ k ≠ a then uF a n (undB k.toNatClampNeg) else k
theorem c_under_lp {a : Int32} {K : Int32 → Int32 → HSt → Prop} {S : HSt} : ∀ (n j : Nat) (k : Int32), j + n = 6 → (∀ w, K w (uF a n k) S) → lp_X1_isUnder_7a a K (n + 1) (nI j) k S := by
  intro n
  induction n with
  | zero =>
    intro j k hj hK
    have : j = 6 := by omega
    subst this
    exact ⟨fun _ => hK _, fun z => absurd (Int32.le_refl _) z⟩
  | succ n ih =>
    intro j k hj hK
    unfold uF at hK
    refine ⟨fun z => absurd z (nI_ge (b := 6) (by omega) (by decide)), fun _ => c_isKind (fun ok => bs1 ⟨fun e => ?_, fun ne => ⟨okN_in ok (Nat.le_refl _) (by decide), fun v15 e15 v17 e17 => ?_⟩⟩) (fun nk => bs0 ?_)⟩
    · rw [if_neg (fun z => z.2.2 e)] at hK; exact hK _
    · rw [if_pos ⟨ok.1, ok.2, ne⟩] at hK
      rw [nI_1] at e17
      subst e15 e17
      exact ih (j + 1) _ (by omega) hK
    · rw [if_neg (fun z => nk ⟨z.1, z.2.1⟩)] at hK; exact hK _
theorem uF_tab : ∀ i, i < 6 → ∀ j, j < 6 → (uF (nI j) 6 (nI i) = nI j ↔ (nI j = 0 ∨ nI i = nI j ∨ (nI j = 1 ∧ nI i = 2))) := by decide +kernel
def st_taken (σ : Sg) (c k : Int32) : Int32 := if okN k 6 then if okN c (cN σ 4) then if k = 0 ∨ dD σ 1330 (ix c) = k ∨ (k = 1 ∧ dD σ 1330 (ix c) = 2) then dD σ 1331 (ix c) else -13 else -11 else -2
theorem r_taken {g : Nat → Nat} {m : Nat} {S : HSt} {σ : Sg} (h : MR g m S σ) (hi : Inv σ) (c k : Int32) : wp_X12_taken g m c k S (fun r S' => r = st_taken σ c k ∧ S' = S) := by
  have hs := hi.1.2.2.2.2.1
  unfold wp_X12_taken st_taken
  refine r_in (fun ik => br1 (r_isCharter h (by omega) (fun oc => br1 ?_) (fun oc => br0 ?_))) (fun ik => br0 ?_)
  · have hin := okN_in oc hs (show 12 < 2 ^ 31 by decide)
    rw [if_pos (in05.mp ik), if_pos oc, show gA S 230 (g 1330) c.toNatClampNeg = dD σ 1330 (ix c) from h.a 1330 230 _, show gA S 231 (g 1331) c.toNatClampNeg = dD σ 1331 (ix c) from h.a 1331 231 _]
    refine ⟨fun e => ⟨hin, ?_⟩, fun n0 => ⟨hin, fun e => ⟨hin, ?_⟩, fun n1 => ⟨fun n2 => ?_, fun e2 => ⟨hin, fun n3 => ?_, fun e3 => ⟨hin, ?_⟩⟩⟩⟩⟩
    · rw [if_pos (Or.inl e)]; exact ⟨rfl, rfl⟩
    · rw [if_pos (Or.inr (Or.inl e))]; exact ⟨rfl, rfl⟩
    · rw [if_neg (fun z => z.elim n0 (fun z => z.elim n1 (fun z => n2 z.1)))]; exact ⟨rfl, rfl⟩
    · rw [if_neg (fun z => z.elim n0 (fun z => z.elim n1 (fun z => n3 z.2)))]; exact ⟨rfl, rfl⟩
    · rw [if_pos (Or.inr (Or.inr ⟨e2, e3⟩))]; exact ⟨rfl, rfl⟩
  · rw [if_pos (in05.mp ik), if_neg oc]; exact ⟨rfl, rfl⟩
  · rw [if_neg (fun z => ik (in05.mpr z))]; exact ⟨rfl, rfl⟩
theorem c_taken {ad : AD} {x : Nat} {S : HSt} {σ : Sg} (h : CR ad x S σ) (hi : Inv σ) (c k : Int32) : wp_X11_taken x c k S (fun r S' => r = st_taken σ c k ∧ S' = S) := by
  have hs := hi.1.2.2.2.2.1
  unfold wp_X11_taken st_taken
  refine c_isKind (fun ok => br1 (c_charterAt h hi (fun oc => ⟨fun z => (by cases z), fun b8 e8 => ?_⟩) (fun oc => ⟨fun _ => ?_, fun b8 e8 => (by cases e8)⟩))) (fun nk => br0 ?_)
  · cases e8
    have hp := okN_lt oc (by omega)
    obtain ⟨a1, a2, a3, a4, a5, a6, a7, a8, a9, b1, b2⟩ := h.2.2.2.2.2.2.2.2.1.1 _ hp
    obtain ⟨i1, i2, -⟩ := hi.2.2.2.2.2.2.2.2.1 _ hp
    have hsl := okN_lt i2 (by have := hi.1.2.1; omega)
    obtain ⟨s1, s2, s3, s4, s5, s6, s7⟩ := h.2.2.2.1.1 _ hsl
    rw [if_pos ok, if_pos oc]
    refine ⟨a2, fun v1 e1 => ⟨7, ?_⟩⟩
    rw [a3] at e1
    subst e1
    have hk0 : dD σ 1330 (ix c) = nI (ix (dD σ 1330 (ix c))) ∧ ix (dD σ 1330 (ix c)) ≤ 5 := bet_nI (b := 5) i1
    have ht := uF_tab (ix (dD σ 1330 (ix c))) (by omega) (ix k) (okN_lt ok (by decide))
    rw [← hk0.1, ← okN_eq ok (by decide)] at ht
    have := c_under_lp (a := k) (S := S) (K := fun w4 w5 S19 => (¬ w5 = k → (fun (r11 : Int32) (S12 : HSt) => ((r11 = 0 → (fun r S' => r = (if k = 0 ∨ dD σ 1330 (ix c) = k ∨ k = 1 ∧ dD σ 1330 (ix c) = 2 then dD σ 1331 (ix c) else -13) ∧ S' = S) (-13 : Int32) S12) ∧ (¬ r11 = 0 → ∃ b15 : Nat, gR S12 201 (ad 7 (ix c)) = some b15 ∧ gK S12 b15 = 9 ∧ (fun r S' => r = (if k = 0 ∨ dD σ 1330 (ix c) = k ∨ k = 1 ∧ dD σ 1330 (ix c) = 2 then dD σ 1331 (ix c) else -13) ∧ S' = S) (gI S12 900 b15) S12))) (0 : Int32) S19) ∧ (w5 = k → (fun (r11 : Int32) (S12 : HSt) => ((r11 = 0 → (fun r S' => r = (if k = 0 ∨ dD σ 1330 (ix c) = k ∨ k = 1 ∧ dD σ 1330 (ix c) = 2 then dD σ 1331 (ix c) else -13) ∧ S' = S) (-13 : Int32) S12) ∧ (¬ r11 = 0 → ∃ b15 : Nat, gR S12 201 (ad 7 (ix c)) = some b15 ∧ gK S12 b15 = 9 ∧ (fun r S' => r = (if k = 0 ∨ dD σ 1330 (ix c) = k ∨ k = 1 ∧ dD σ 1330 (ix c) = 2 then dD σ 1331 (ix c) else -13) ∧ S' = S) (gI S12 900 b15) S12))) (1 : Int32) S19)) 6 0 (dD σ 1330 (ix c)) (by omega) (fun w => ⟨fun ne => bs0 ?_, fun e => bs1 ⟨_, a4, s2, ?_⟩⟩)
    · exact this
    · rw [if_neg (fun z => ne (ht.mpr z))]; exact ⟨rfl, rfl⟩
    · rw [if_pos (ht.mp e)]
      exact ⟨s6.trans (okN_eq i2 (by have := hi.1.2.1; omega)).symm, rfl⟩
  · rw [if_pos ok, if_neg oc]; exact ⟨rfl, rfl⟩
  · rw [if_neg nk]; exact ⟨rfl, rfl⟩
/-! account -/
def hasS (σ : Sg) (c : Nat) (s h : Int32) : Prop := dD σ 1331 c = s ∧ dD σ 1338 c ≠ 2 ∧ dD σ 1332 c ≤ h ∧ h ≤ dD σ 1333 c
def hasD (σ : Sg) (c : Nat) (s h : Int32) : Decidable (hasS σ c s h) := inferInstanceAs (Decidable (dD σ 1331 c = s ∧ dD σ 1338 c ≠ 2 ∧ dD σ 1332 c ≤ h ∧ h ≤ dD σ 1333 c))
noncomputable def acF (σ : Sg) (s h : Int32) : Nat → Nat → Int32
  | 0, _ => -1
  | n + 1, c => @ite _ (hasS σ c s h) (Classical.propDecidable _) (nI c) (acF σ s h n (c + 1))
theorem acF_y {σ : Sg} {s h : Int32} {n c : Nat} (hh : hasS σ c s h) : acF σ s h (n + 1) c = nI c := if_pos hh
theorem acF_n {σ : Sg} {s h : Int32} {n c : Nat} (hh : ¬ hasS σ c s h) : acF σ s h (n + 1) c = acF σ s h n (c + 1) := if_neg hh
noncomputable def st_account (σ : Sg) (s h : Int32) : Int32 := if okN s (cN σ 1) then if 0 ≤ h ∧ h ≤ 9999 then acF σ s h (cN σ 4) 0 else -2 else -2
theorem r_has {g : Nat → Nat} {m : Nat} {S : HSt} {σ : Sg} (h : MR g m S σ) {c : Nat} (hc : c < 12) (s w : Int32) {Post : Int32 → HSt → Prop} (h1 : hasS σ c s w → Post 1 S) (h0 : ¬ hasS σ c s w → Post 0 S) : wp_X12_has g m (nI c) s w S Post := by
  have hin : vp_in (nI c) 12 := vp_in_nI hc (by decide)
  unfold wp_X12_has
  rw [nI_clamp (by omega), h.a 1331 231, h.a 1338 238, h.a 1332 232, h.a 1333 233]
  refine ⟨hin, fun n0 => h0 (fun z => n0 z.1), fun e0 => ⟨hin, fun e1 => h0 (fun z => z.2.1 e1), fun n1 => ⟨hin, hin, r_in (fun i => bs1 (h1 ⟨e0, n1, i⟩)) (fun i => bs0 (h0 (fun z => i z.2.2)))⟩⟩⟩
theorem r_accountOf {g : Nat → Nat} {m : Nat} {S : HSt} {σ : Sg} (h : MR g m S σ) (hi : Inv σ) (s w : Int32) {Post : Int32 → HSt → Prop} (hp : Post (acF σ s w (cN σ 4) 0) S) : wp_X12_accountOf g m s w S Post := by
  have hs := hi.1.2.2.2.2.1
  have hc := h.c 1329 4
  refine ⟨cN σ 4 + 1, ?_⟩
  have key : ∀ (n c : Nat), c + n = cN σ 4 → Post (acF σ s w n c) S → lp_X12_accountOf_2a g m s w (fun _ S12 => Post (-1) S12) (fun w2 S14 => Post w2 S14) (n + 1) (nI c) S := by
    intro n
    induction n with
    | zero =>
      intro c e hp
      have : c = cN σ 4 := by omega
      subst this
      exact ⟨fun _ => hp, fun z => absurd (hc ▸ Int32.le_refl _) z⟩
    | succ n ih =>
      intro c e hp
      refine ⟨fun z => ?_, fun _ => r_has h (by omega) s w (fun hh => bs1 ?_) (fun hh => bs0 (fun v10 e10 => ?_))⟩
      · rw [hc] at z; exact absurd z (nI_ge (by omega) (by omega))
      · rw [acF_y hh] at hp; exact hp
      · rw [nI_1] at e10
        subst e10
        rw [acF_n hh] at hp
        exact ih (c + 1) (by omega) hp
  exact key (cN σ 4) 0 (by omega) hp
theorem r_account {g : Nat → Nat} {m : Nat} {S : HSt} {σ : Sg} (h : MR g m S σ) (hi : Inv σ) (s w : Int32) : wp_X12_account g m s w S (fun r S' => r = st_account σ s w ∧ S' = S) := by
  have hs := hi.1.2.1
  unfold wp_X12_account st_account
  refine r_isShip h (by omega) (fun os => bs1 (r_isHour (fun iw => bs1 (r_accountOf h hi s w ?_)) (fun iw => bs0 ?_))) (fun os => bs0 ?_)
  · rw [if_pos os, if_pos iw]; exact ⟨rfl, rfl⟩
  · rw [if_pos os, if_neg iw]; exact ⟨rfl, rfl⟩
  · rw [if_neg os]; exact ⟨rfl, rfl⟩
/-- the ship of a charter, and whether it is of a ship -/
theorem c_isOf {ad : AD} {x : Nat} {S : HSt} {σ : Sg} (h : CR ad x S σ) (hi : Inv σ) {c : Nat} (hc : c < cN σ 4) {s : Int32} (os : okN s (cN σ 1)) {Post : Int32 → HSt → Prop} (h1 : dD σ 1331 c = s → Post 1 S) (h0 : dD σ 1331 c ≠ s → Post 0 S) : wp_X1_isOf (ad 7 c) (ad 2 (ix s)) S Post := by
  have hs := hi.1.2.1
  obtain ⟨a1, a2, a3, a4, a5, a6, a7, a8, a9, b1, b2⟩ := h.2.2.2.2.2.2.2.2.1.1 _ hc
  obtain ⟨i1, i2, -⟩ := hi.2.2.2.2.2.2.2.2.1 _ hc
  have hsl := okN_lt i2 (by omega)
  obtain ⟨s1, s2, s3, s4, s5, s6, s7⟩ := h.2.2.2.1.1 _ hsl
  obtain ⟨t1, t2, t3, t4, t5, t6, t7⟩ := h.2.2.2.1.1 _ (okN_lt os (by omega))
  refine ⟨_, a4, s2, fun ne => h0 (fun e => ne (by rw [s6, t6, e])), fun e => h1 ?_⟩
  rw [s6, t6] at e
  rw [okN_eq i2 (by omega), okN_eq os (by omega)]; exact e
theorem c_hasH {ad : AD} {x : Nat} {S : HSt} {σ : Sg} (h : CR ad x S σ) {c : Nat} (hc : c < cN σ 4) (w : Int32) {Post : Int32 → HSt → Prop} (h1 : (dD σ 1338 c ≠ 2 ∧ dD σ 1332 c ≤ w ∧ w ≤ dD σ 1333 c) → Post 1 S) (h0 : ¬ (dD σ 1338 c ≠ 2 ∧ dD σ 1332 c ≤ w ∧ w ≤ dD σ 1333 c) → Post 0 S) : wp_X1_has (ad 7 c) w S Post := by
  obtain ⟨a1, a2, a3, a4, a5, a6, a7, a8, a9, b1, b2⟩ := h.2.2.2.2.2.2.2.2.1.1 _ hc
  unfold wp_X1_has
  rw [b2, a5, a6]
  exact ⟨fun e => h0 (fun z => z.1 e), fun ne => c_within (fun i => bs1 (h1 ⟨ne, i⟩)) (fun i => bs0 (h0 (fun z => i z.2)))⟩
theorem c_account {ad : AD} {x : Nat} {S : HSt} {σ : Sg} (h : CR ad x S σ) (hi : Inv σ) (s w : Int32) : wp_X11_account x s w S (fun r S' => r = st_account σ s w ∧ S' = S) := by
  have hs := hi.1.2.1
  have hs4 := hi.1.2.2.2.2.1
  have hc := h.2.1.2.2.2.2.1
  unfold wp_X11_account st_account
  refine c_shipAt h hi (fun os => ⟨fun z => (by cases z), fun b4 e4 => c_isHour (fun iw => br1 ⟨cN σ 4 + 1, ?_⟩) (fun iw => br0 ?_)⟩) (fun os => ⟨fun _ => ?_, fun b4 e4 => (by cases e4)⟩)
  · cases e4
    rw [if_pos os, if_pos iw]
    have hsh := (h.2.2.2.1.1 _ (okN_lt os (by omega))).2.1
    have key : ∀ (n c : Nat), c + n = cN σ 4 → ∀ v, v = acF σ s w n c → lp_X11_account_23a x (ad 2 (ix s)) w (fun _ S36 => (-1 : Int32) = v ∧ S36 = S) (fun w11 S38 => w11 = v ∧ S38 = S) (n + 1) (nI c) S := by
      intro n
      induction n with
      | zero =>
        intro c e v hp
        have : c = cN σ 4 := by omega
        subst this
        exact ⟨fun _ => ⟨hp.symm, rfl⟩, fun z => absurd (hc ▸ Int32.le_refl _) z⟩
      | succ n ih =>
        intro c e v hp
        have hcl : c < cN σ 4 := by omega
        have next : ¬ hasS σ c s w → ∀ v20, v20 = nI c + 1 → lp_X11_account_23a x (ad 2 (ix s)) w (fun _ S36 => (-1 : Int32) = v ∧ S36 = S) (fun w11 S38 => w11 = v ∧ S38 = S) (n + 1) v20 S := fun hh v20 e20 => by
          rw [nI_1] at e20
          subst e20
          rw [acF_n hh] at hp
          exact ih (c + 1) (by omega) v hp
        refine ⟨fun z => ?_, fun _ => c_charterAt h hi (fun oc => ⟨fun z => (by cases z), fun b18 e18 => ?_⟩) (fun nc => absurd (okN_nI hcl (by omega)) nc)⟩
        · rw [hc] at z; exact absurd z (nI_ge (by omega) (by omega))
        · cases e18
          rw [ix_nI (by omega)]
          have a2 := (h.2.2.2.2.2.2.2.2.1.1 _ hcl).2.1
          refine ⟨a2, hsh, c_isOf h hi hcl os (fun e1 => bs1 (c_hasH h hcl w (fun hh => bs1 ?_) (fun hh => bs0 ?_))) (fun n1 => bs0 ?_)⟩
          · rw [acF_y ⟨e1, hh⟩] at hp; exact ⟨hp.symm, rfl⟩
          · exact next (fun z => hh z.2)
          · exact next (fun z => n1 z.1)
    exact key (cN σ 4) 0 (by omega) _ rfl
  · rw [if_pos os, if_neg iw]; exact ⟨rfl, rfl⟩
  · rw [if_neg os]; exact ⟨rfl, rfl⟩
