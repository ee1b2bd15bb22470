/-! sheets -/
def shN (σ : Sg) (t : Nat) : Nat := ix (dD σ 1340 t)
theorem sh_eq {σ : Sg} (hi : Inv σ) {t : Nat} (h : t < 4) : dD σ 1340 t = nI (shN σ t) ∧ shN σ t ≤ 40 := bet_nI (b := 40) (hi.2.2.2.2.2.2.2.2.2.2.1 t h).2.1
theorem r_isSheet {p : Int32} {S : HSt} {Post : Int32 → HSt → Prop} (h1 : okN p 4 → Post 1 S) (h0 : ¬ okN p 4 → Post 0 S) : wp_X12_isSheet p S Post := by
  unfold wp_X12_isSheet
  rw [show (3 : Int32) = nI 4 - 1 by decide]
  exact r_cnt (by decide) h1 h0
theorem c_has {ad : AD} {x : Nat} {S : HSt} {σ : Sg} (h : CR ad x S σ) (hi : Inv σ) {t : Nat} (ht : t < 4) (w : Int32) {Post : Int32 → HSt → Prop} (h1 : okN w (shN σ t) → Post 1 S) (h0 : ¬ okN w (shN σ t) → Post 0 S) : wp_X7_has (ad 8 t) w S Post := by
  obtain ⟨a1, a2, a3, a4, a5, a6, a7, a8⟩ := h.2.2.2.2.2.2.2.2.2.1 t ht
  obtain ⟨l1, l2⟩ := sh_eq hi ht
  unfold wp_X7_has
  rw [a7, l1]
  exact ⟨fun z => h0 (fun q => q.1 z), fun z => ⟨fun le => h0 (fun q => absurd q.2 ((i_nlt _ _).mpr le)), fun nl => h1 ⟨z, (i_nle _ _).mp nl⟩⟩⟩
theorem c_item {ad : AD} {x : Nat} {S : HSt} {σ : Sg} (h : CR ad x S σ) (hi : Inv σ) {t : Nat} (ht : t < 4) (w : Int32) (ok : okN w (shN σ t)) {Post : Int32 → HSt → Prop} (hp : Post (dD σ 1341 (40 * t + ix w)) S) : wp_X7_item (ad 8 t) w S Post := by
  obtain ⟨a1, a2, a3, a4, a5, a6, a7, a8⟩ := h.2.2.2.2.2.2.2.2.2.1 t ht
  obtain ⟨l1, l2⟩ := sh_eq hi ht
  refine c_has h hi ht w (fun _ => bs1 ⟨_, a3, a4, ?_, ?_⟩) (fun z => absurd ok z)
  · rw [a5]; exact okN_in ok l2 (by decide)
  · have := okN_lt ok (by omega)
    rw [a8 _ (show ix w < 40 by omega)]; exact hp
def laF (s t : Nat) (i n : Int32) : Nat → Int32 → Sg → Int32 × Sg
  | 0, _, σ => (0, σ)
  | f + 1, w, σ => if n ≤ w then (nI (lgN σ s), σ) else if okN (i + w) (shN σ t) then (if 0 ≤ dD σ 1341 (40 * t + ix (i + w)) ∧ dD σ 1341 (40 * t + ix (i + w)) ≤ 5 then (if lgN σ s = 2000 then (-4, σ) else laF s t i n f (w + 1) (ap1 σ s (dD σ 1341 (40 * t + ix (i + w))))) else (-2, σ)) else (-12, σ)
def st_lay (σ : Sg) (s t so i n : Int32) : Int32 × Sg := if okN s (cN σ 1) then if okN t 4 then if 0 ≤ so ∧ so ≤ 2 then if 0 ≤ n then if dD σ 1339 (ix t) = -1 then (-11, σ) else if dD σ 1339 (ix t) = so then laF (ix s) (ix t) i n 2001 0 σ else (-13, σ) else (-2, σ) else (-2, σ) else (-2, σ) else (-2, σ)
theorem in_sh {σ : Sg} (hi : Inv σ) {t w : Int32} (ot : okN t 4) (ow : okN w (shN σ (ix t))) : (40 : Int32) * t + w = nI (40 * ix t + ix w) ∧ 40 * ix t + ix w < 160 ∧ ix w < 40 := by
  have h1 := okN_lt ot (by omega)
  have h2 := (sh_eq hi h1).2
  have h3 := okN_lt ow (by omega)
  exact ⟨ix_m (k := 40) ot ow (by omega) (by omega) (by omega), by omega, by omega⟩
theorem r_lay_lp {g : Nat → Nat} {m : Nat} {s t i n : Int32} (ot : okN t 4) {Post : Int32 → HSt → Prop} : ∀ (f : Nat) (w : Int32) (S : HSt) (σ : Sg), MR g m S σ → Inv σ → okN s (cN σ 1) → 2000 < f + lgN σ (ix s) → (∀ S', MR g m S' (laF (ix s) (ix t) i n f w σ).2 → Post (laF (ix s) (ix t) i n f w σ).1 S') → lp_X12_lay_71a g n i t s (fun _ S => vp_in s 5 ∧ Post (gA S 211 (g 1311) s.toNatClampNeg) S) (fun _ S => Post (-4) S) (fun _ S => Post (-2) S) (fun _ S => Post (-12) S) f w S := by
  intro f
  induction f with
  | zero => intro w S σ h hi os hf hP; have := (lg_eq hi (okN_lt os (by have := hi.1.2.1; omega))).2; omega
  | succ f ih =>
    intro w S σ h hi os hf hP
    have hs := hi.1.2.1
    have h1 := okN_lt os (by omega)
    have hin := okN_in os hs (show 5 < 2 ^ 31 by decide)
    obtain ⟨l1, l2⟩ := lg_eq hi h1
    have e1 : gA S 211 (g 1311) s.toNatClampNeg = nI (lgN σ (ix s)) := (h.a 1311 211 _).trans l1
    have ht := okN_lt ot (by omega)
    unfold laF at hP
    refine ⟨fun le => ?_, fun nl v23 e23 => ?_⟩
    · rw [if_pos le] at hP
      refine ⟨hin, ?_⟩
      rw [e1]; exact hP S h
    · subst e23
      rw [if_neg nl] at hP
      refine ⟨okN_in ot (Nat.le_refl _) (by decide), ?_⟩
      rw [show gA S 240 (g 1340) t.toNatClampNeg = nI (shN σ (ix t)) from (h.a 1340 240 _).trans (sh_eq hi ht).1]
      refine r_cnt0 (by have := (sh_eq hi ht).2; omega) (fun ow => br1 ?_) (fun nw => br0 ?_)
      · rw [if_pos ow] at hP
        obtain ⟨q1, q2, q3⟩ := in_sh hi ot ow
        rw [q1, nI_clamp (by omega)]
        refine ⟨vp_in_nI q2 (by decide), fun v31 e31 => ?_⟩
        rw [h.a 1341 241] at e31
        subst e31
        refine r_isSort (fun iv => br1 ⟨hin, fun ne => ?_, fun eq => ?_⟩) (fun iv => br0 ?_)
        · rw [e1] at ne
          have ne' : ¬ lgN σ (ix s) = 2000 := fun z => ne (by rw [z]; rfl)
          rw [if_pos iv, if_neg ne'] at hP
          have e2 : (2000 : Int32) * s + nI (lgN σ (ix s)) = nI (2000 * ix s + lgN σ (ix s)) := eq_add (eq_mul (k := 2000) (okN_eq os (by omega))) rfl
          rw [e1, e2, nI_clamp (by omega)]
          refine ⟨hin, vp_in_nI (by omega) (by decide), fun S22 e22 => ⟨hin, hin, fun S27 e27 v30 e30 => ?_⟩⟩
          rw [byte_id iv] at e22
          have e3 : gA S22 211 (g 1311) s.toNatClampNeg = nI (lgN σ (ix s)) := by
            subst e22; rw [gA_uA, if_neg (fun z => absurd z.1 (by decide))]; exact e1
          rw [e3, nI_1] at e27
          subst e22 e27 e30
          exact ih (w + 1) _ _ h.ap1 (v_ap1 hi h1 (by omega) (bet_of iv (by decide) (by decide))) os (by rw [lg_ap1 (by omega)]; omega) hP
        · rw [e1] at eq
          have eq' : lgN σ (ix s) = 2000 := (cnt_eq (N := 2000) (by omega)).mp eq
          rw [if_pos iv, if_pos eq'] at hP
          exact hP S h
        · rw [if_neg iv] at hP; exact hP S h
      · rw [if_neg nw] at hP; exact hP S h
theorem c_lay_lp {ad : AD} {x : Nat} {s t : Nat} {i n : Int32} (ht : t < 4) {Post : Int32 → HSt → Prop} : ∀ (f : Nat) (w : Int32) (S : HSt) (σ : Sg), CR ad x S σ → Inv σ → s < cN σ 1 → 2000 < f + lgN σ s → (∀ S', CR ad x S' (laF s t i n f w σ).2 → Post (laF s t i n f w σ).1 S') → lp_X11_lay_68a n (ad 2 s) (ad 8 t) i (fun _ S => gK S (ad 2 s) = 9 ∧ Post (gI S 907 (ad 2 s)) S) Post f w S := by
  intro f
  induction f with
  | zero => intro w S σ h hi os hf hP; have := (lg_eq hi os).2; omega
  | succ f ih =>
    intro w S σ h hi h1 hf hP
    obtain ⟨a1, a2, a3, a4, a5, a6, a7, a8, a9, b1, b2, b3, b4, b5⟩ := h.2.2.2.1.1 _ h1
    obtain ⟨l1, l2⟩ := lg_eq hi h1
    unfold laF at hP
    refine ⟨fun le => ?_, fun nl => ⟨a2, ?_⟩⟩
    · rw [if_pos le] at hP
      refine ⟨a2, ?_⟩
      rw [b4, l1]; exact hP S h
    · rw [if_neg nl] at hP
      refine c_has h hi ht _ (fun ow => br1 ?_) (fun nw => br0 ?_)
      · rw [if_pos ow] at hP
        refine c_item h hi ht _ ow (c_isSort (fun iv => br1 ?_) (fun iv => br0 ?_))
        · rw [if_pos iv] at hP
          rw [b4, l1]
          have hlt := nI_ltI (a := lgN σ s) (b := 2000) (by omega) (by decide)
          refine ⟨fun lt => ?_, fun nl => ?_⟩
          · have lt' := hlt.mp lt
            rw [if_neg (by omega)] at hP
            refine c_append h hi h1 lt' iv (fun S' h' => bs0 (fun v29 e29 => ?_))
            subst e29
            exact ih (w + 1) _ _ h' (v_ap1 hi h1 (by omega) (bet_of iv (by decide) (by decide))) h1 (by rw [lg_ap1 (by omega)]; omega) hP
          · have : ¬ lgN σ s < 2000 := fun z => nl (hlt.mpr z)
            rw [if_pos (by omega)] at hP
            exact ⟨fun z => absurd z (by decide), fun _ => hP S h⟩
        · rw [if_neg iv] at hP
          exact ⟨fun z => absurd z (by decide), fun _ => hP S h⟩
      · rw [if_neg nw] at hP
        exact ⟨fun z => absurd z (by decide), fun _ => hP S h⟩
theorem r_lay {g : Nat → Nat} {m : Nat} {S : HSt} {σ : Sg} (h : MR g m S σ) (hi : Inv σ) (s t so i n : Int32) : wp_X12_lay g m s t so i n S (fun r S' => r = (st_lay σ s t so i n).1 ∧ MR g m S' (st_lay σ s t so i n).2) := by
  have hs := hi.1.2.1
  unfold wp_X12_lay st_lay
  refine r_isShip h (by omega) (fun os => bs1 (r_isSheet (fun ot => bs1 (r_in (fun iso => bs1 ⟨fun hn => ⟨okN_in ot (Nat.le_refl _) (by decide), ?_⟩, fun hn => ?_⟩) (fun iso => bs0 ?_))) (fun ot => bs0 ?_))) (fun os => bs0 ?_)
  · have hin := okN_in ot (Nat.le_refl _) (show 4 < 2 ^ 31 by decide)
    have h1 := okN_lt os (by omega)
    rw [if_pos os, if_pos ot, if_pos iso, if_pos hn, show gA S 239 (g 1339) t.toNatClampNeg = dD σ 1339 (ix t) from h.a 1339 239 _]
    refine ⟨fun e => ⟨hin, fun ne => absurd e ne, fun _ => ?_⟩, fun ne => ⟨hin, fun eq => ⟨hin, fun _ => ⟨2001, ?_⟩, fun e => absurd e ne⟩, fun nq => ?_⟩⟩
    · rw [if_pos e]; exact ⟨rfl, h⟩
    · rw [if_neg ne, if_pos eq]
      exact r_lay_lp ot (i := i) (n := n) (Post := fun r S' => r = (laF (ix s) (ix t) i n 2001 0 σ).1 ∧ MR g m S' (laF (ix s) (ix t) i n 2001 0 σ).2) 2001 0 S σ h hi os (by omega) (fun S' h' => ⟨rfl, h'⟩)
    · rw [if_neg ne, if_neg nq]; exact ⟨rfl, h⟩
  · rw [if_pos os, if_pos ot, if_pos iso, if_neg hn]; exact ⟨rfl, h⟩
  · rw [if_pos os, if_pos ot, if_neg iso]; exact ⟨rfl, h⟩
  · rw [if_pos os, if_neg ot]; exact ⟨rfl, h⟩
  · rw [if_neg os]; exact ⟨rfl, h⟩
theorem c_lay {ad : AD} {x : Nat} {S : HSt} {σ : Sg} (h : CR ad x S σ) (hi : Inv σ) (s t so i n : Int32) : wp_X11_lay x s t so i n S (fun r S' => r = (st_lay σ s t so i n).1 ∧ ∃ ad', CR ad' x S' (st_lay σ s t so i n).2) := by
  have hs := hi.1.2.1
  unfold wp_X11_lay st_lay
  refine c_shipAt h hi (fun os => c_sheetAt h (fun ot => ⟨fun z => (by cases z), fun b7 e7 => ⟨fun z => (by cases z), fun b9 e9 => c_within (fun iso => bs1 ⟨fun hn => ?_, fun hn => ?_⟩) (fun iso => bs0 ?_)⟩⟩) (fun ot => ⟨fun z => (by cases z), fun b7 e7 => ⟨fun _ => ?_, fun b9 e9 => (by cases e9)⟩⟩)) (fun os => c_sheetAt h (fun ot => ⟨fun _ => ?_, fun b7 e7 => (by cases e7)⟩) (fun ot => ⟨fun _ => ?_, fun b7 e7 => (by cases e7)⟩))
  · cases e7; cases e9
    have h1 := okN_lt os (by omega)
    have ht := okN_lt ot (by omega)
    obtain ⟨a1, a2, a3, a4, a5, a6, a7, a8⟩ := h.2.2.2.2.2.2.2.2.2.1 _ ht
    rw [if_pos os, if_pos ot, if_pos iso, if_pos hn, a6]
    refine ⟨a2, fun ne => ⟨fun eq => ⟨2001, ?_⟩, fun nq => ?_⟩, fun e => ?_⟩
    · rw [if_neg ne, if_pos eq]
      exact c_lay_lp ht (i := i) (n := n) (Post := fun r S' => r = (laF (ix s) (ix t) i n 2001 0 σ).1 ∧ ∃ ad', CR ad' x S' (laF (ix s) (ix t) i n 2001 0 σ).2) 2001 0 S σ h hi h1 (by omega) (fun S' h' => ⟨rfl, ad, h'⟩)
    · rw [if_neg ne, if_neg nq]; exact ⟨rfl, ad, h⟩
    · rw [if_pos e]; exact ⟨rfl, ad, h⟩
  · rw [if_pos os, if_pos ot, if_pos iso, if_neg hn]; exact ⟨rfl, ad, h⟩
  · rw [if_pos os, if_pos ot, if_neg iso]; exact ⟨rfl, ad, h⟩
  · rw [if_pos os, if_neg ot]; exact ⟨rfl, ad, h⟩
  · rw [if_neg os]; exact ⟨rfl, ad, h⟩
  · rw [if_neg os]; exact ⟨rfl, ad, h⟩
theorem v_laF {s t : Nat} {i n : Int32} : ∀ (f : Nat) (w : Int32) (σ : Sg), Inv σ → s < cN σ 1 → Inv (laF s t i n f w σ).2 := by
  intro f
  induction f with
  | zero => intro w σ hi _; exact hi
  | succ f ih =>
    intro w σ hi h1
    unfold laF
    split
    · exact hi
    · split
      · split
        · split
          · exact hi
          · rename_i iv ne
            have := (lg_eq hi h1).2
            exact ih _ _ (v_ap1 hi h1 (by omega) (bet_of iv (by decide) (by decide))) h1
        · exact hi
      · exact hi
theorem v_lay {σ : Sg} (hi : Inv σ) (s t so i n : Int32) : Inv (st_lay σ s t so i n).2 := by
  unfold st_lay
  split
  · split
    · split
      · split
        · split
          · exact hi
          · split
            · rename_i os _ _ _ _ _
              exact v_laF _ _ _ hi (okN_lt os (by have := hi.1.2.1; omega))
            · exact hi
        · exact hi
      · exact hi
    · exact hi
  · exact hi
/-! cell -/
def cellV (k v : Int32) : Int32 := if k = 0 then v.toInt8.toInt32 else if k = 1 then v.toInt16.toInt32 else v
def st_cell (σ : Sg) (t i v : Int32) : Int32 × Sg := if okN t 4 then if dD σ 1339 (ix t) = -1 then (-11, σ) else if okN i (shN σ (ix t)) then (1, sD σ 1341 (40 * ix t + ix i) (cellV (dD σ 1339 (ix t)) v)) else (-12, σ) else (-2, σ)
theorem r_cell {g : Nat → Nat} {m : Nat} {S : HSt} {σ : Sg} (h : MR g m S σ) (hi : Inv σ) (t i v : Int32) : wp_X12_cell g m t i v S (fun r S' => r = (st_cell σ t i v).1 ∧ MR g m S' (st_cell σ t i v).2) := by
  unfold wp_X12_cell st_cell
  refine r_isSheet (fun ot => br1 ⟨okN_in ot (Nat.le_refl _) (by decide), ?_⟩) (fun ot => br0 ?_)
  · have hin := okN_in ot (Nat.le_refl _) (show 4 < 2 ^ 31 by decide)
    have ht := okN_lt ot (by omega)
    rw [if_pos ot, show gA S 239 (g 1339) t.toNatClampNeg = dD σ 1339 (ix t) from h.a 1339 239 _, show gA S 240 (g 1340) t.toNatClampNeg = nI (shN σ (ix t)) from (h.a 1340 240 _).trans (sh_eq hi ht).1]
    refine ⟨fun ne => ⟨hin, r_cnt0 (by have := (sh_eq hi ht).2; omega) (fun ow => br1 ⟨hin, ?_⟩) (fun nw => br0 ?_)⟩, fun e => ?_⟩
    · obtain ⟨q1, q2, q3⟩ := in_sh hi ot ow
      rw [show gA S 239 (g 1339) t.toNatClampNeg = dD σ 1339 (ix t) from h.a 1339 239 _, if_neg ne, if_pos ow, q1, nI_clamp (by omega)]
      have hv := vp_in_nI q2 (show 160 < 2 ^ 31 by decide)
      unfold cellV
      refine ⟨fun n0 => ⟨hin, fun n1 => ⟨hv, fun S17 e17 => ?_⟩, fun e1 => ⟨hv, fun S21 e21 => ?_⟩⟩, fun e0 => ⟨hv, fun S25 e25 => ?_⟩⟩
      · subst e17; rw [if_neg n0, if_neg n1]; exact ⟨rfl, h.pA 1341 241 _ _⟩
      · subst e21; rw [if_neg n0, if_pos e1]; exact ⟨rfl, h.pA 1341 241 _ _⟩
      · subst e25; rw [if_pos e0]; exact ⟨rfl, h.pA 1341 241 _ _⟩
    · rw [if_neg ne, if_neg nw]; exact ⟨rfl, h⟩
    · rw [if_pos e]; exact ⟨rfl, h⟩
  · rw [if_neg ot]; exact ⟨rfl, h⟩
theorem CR.cellAt {ad : AD} {x : Nat} {S : HSt} {σ : Sg} (h : CR ad x S σ) {t i : Nat} (ht : t < 4) (hi : i < 40) (v : Int32) : CR ad x (uA S 252 (ad 9 t) i v) (sD σ 1341 (40 * t + i) v) := by
  obtain ⟨hF, hC, hP, hS, hO, hR, hT, hX, hH, hE⟩ := h
  refine ⟨hF.ks (Ks_uA rfl) (fun _ _ => rfl), hC, hP, hS, hO, hR, hT, hX, hH, fun k hk => ?_, hE.2⟩
  obtain ⟨a1, a2, a3, a4, a5, a6, a7, a8⟩ := hE.1 k hk
  refine ⟨a1, a2, a3, a4, a5, a6, a7, fun q hq => ?_⟩
  rw [gA_uA, dD_same]
  by_cases hki : k = t
  · subst hki
    rw [if_pos ⟨rfl, rfl⟩]
    by_cases hqj : q = i
    · subst hqj; rw [if_pos rfl]; simp [upd]
    · rw [if_neg (by omega)]; simp [upd, hqj]; exact a8 q hq
  · rw [if_neg (fun z => hki (hE.2.2 k t hk ht z.2)), if_neg (by omega)]
    exact a8 q hq
theorem c_cell {ad : AD} {x : Nat} {S : HSt} {σ : Sg} (h : CR ad x S σ) (hi : Inv σ) (t i v : Int32) : wp_X11_cell x t i v S (fun r S' => r = (st_cell σ t i v).1 ∧ ∃ ad', CR ad' x S' (st_cell σ t i v).2) := by
  unfold wp_X11_cell st_cell
  refine c_sheetAt h (fun ot => ⟨fun z => (by cases z), fun b4 e4 => ?_⟩) (fun ot => ⟨fun _ => ?_, fun b4 e4 => (by cases e4)⟩)
  · cases e4
    have ht := okN_lt ot (by omega)
    obtain ⟨a1, a2, a3, a4, a5, a6, a7, a8⟩ := h.2.2.2.2.2.2.2.2.2.1 _ ht
    obtain ⟨l1, l2⟩ := sh_eq hi ht
    rw [if_pos ot, a6]
    refine ⟨a2, fun ne => c_has h hi ht i (fun ow => br1 (c_has h hi ht i (fun _ => bs1 ⟨_, a3, ?_⟩) (fun z => absurd ow z))) (fun nw => br0 ?_), fun e => ?_⟩
    · have hv : vp_in i (gN S (ad 9 (ix t))) := by rw [a5]; exact okN_in ow l2 (by decide)
      have hlt := okN_lt ow (by omega)
      rw [if_neg ne, if_pos ow, a6]
      unfold cellV
      refine ⟨fun n0 => ⟨fun n1 => ⟨a4, hv, fun S17 e17 => ?_⟩, fun e1 => ⟨a4, hv, fun S21 e21 => ?_⟩⟩, fun e0 => ⟨a4, hv, fun S25 e25 => ?_⟩⟩
      · subst e17; rw [if_neg n0, if_neg n1]; exact ⟨rfl, ad, h.cellAt ht (show ix i < 40 by omega) v⟩
      · subst e21; rw [if_neg n0, if_pos e1]; exact ⟨rfl, ad, h.cellAt ht (show ix i < 40 by omega) _⟩
      · subst e25; rw [if_pos e0]; exact ⟨rfl, ad, h.cellAt ht (show ix i < 40 by omega) _⟩
    · rw [if_neg ne, if_neg nw]; exact ⟨rfl, ad, h⟩
    · rw [if_pos e]; exact ⟨rfl, ad, h⟩
  · rw [if_neg ot]; exact ⟨rfl, ad, h⟩
theorem v_cell {σ : Sg} (hi : Inv σ) (t i v : Int32) : Inv (st_cell σ t i v).2 := by
  unfold st_cell
  split
  · split
    · exact hi
    · split
      · exact hi
      · exact hi
  · exact hi
