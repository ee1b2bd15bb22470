theorem okN_mono {q : Int32} {n n' : Nat} (h : okN q n) (hl : n ≤ n') (hn : n' < 2 ^ 31) : okN q n' := by
  obtain ⟨h1, h2⟩ := (okN_iff (by omega)).mp h
  exact (okN_iff (by omega)).mpr ⟨by omega, h2⟩
theorem ix_0 : ix 0 = 0 := by decide
/-! ship -/
def ad_ship (σ : Sg) (p d b a : Int32) : Sg := sN (sD (sD (sD (sD (sD σ 1305 (cN σ 1) p) 1307 (cN σ 1) d) 1308 (cN σ 1) b) 1309 (cN σ 1) a) 1310 (cN σ 1) 10) 1 (cN σ 1 + 1)
def st_ship (σ : Sg) (p d b a : Int32) : Int32 × Sg := if okN p (cN σ 0) then if 100 ≤ d ∧ d ≤ 9999 then if 10 ≤ b ∧ b ≤ 999 then if 1 ≤ a ∧ a ≤ 50 then if cN σ 1 = 5 then (-4, σ) else (nI (cN σ 1), ad_ship σ p d b a) else (-2, σ) else (-2, σ) else (-2, σ) else (-2, σ)
theorem r_ship {g : Nat → Nat} {m : Nat} {S : HSt} {σ : Sg} (h : MR g m S σ) (hi : Inv σ) (p d b a : Int32) : wp_X12_ship g m p d b a S (fun r S' => r = (st_ship σ p d b a).1 ∧ MR g m S' (st_ship σ p d b a).2) := by
  have hn := hi.1.2.1
  have h0 := hi.1.1
  have hc := h.c 1304 1
  unfold wp_X12_ship st_ship
  refine r_isPort h (by omega) (fun op => bs1 (r_in (fun id => bs1 (r_in (fun ib => bs1 (r_in (fun ia => br1 ⟨fun ne => ?_, fun e => ?_⟩) (fun ia => br0 ?_))) (fun ib => bs0 ?_))) (fun id => bs0 ?_))) (fun op => bs0 ?_)
  · have ne' : ¬ cN σ 1 = 5 := fun z => ne (by rw [hc, z]; rfl)
    rw [if_pos op, if_pos id, if_pos ib, if_pos ia, if_neg ne']
    have hin : vp_in (gI S 1304 m) 5 := by rw [hc]; exact vp_in_nI (by omega) (by decide)
    have hx : (gI S 1304 m).toNatClampNeg = cN σ 1 := by rw [hc]; exact nI_clamp (by omega)
    refine ⟨hin, fun S11 e11 => ?_⟩
    subst e11
    refine ⟨hin, fun S15 e15 => ?_⟩
    subst e15
    refine ⟨hin, fun S16 e16 => ?_⟩
    subst e16
    refine ⟨hin, fun S17 e17 => ?_⟩
    subst e17
    refine ⟨hin, fun S18 e18 => ?_⟩
    subst e18
    intro S19 e19
    subst e19
    refine ⟨?_, ?_⟩
    · rw [gI_same, if_pos rfl]
      show gI S 1304 m + 1 - 1 = _
      rw [hc]; exact nI_sub1 _
    · have := (((((h.pA 1305 205 (gI S 1304 m).toNatClampNeg p).pA 1307 207 (gI S 1304 m).toNatClampNeg d).pA 1308 208 (gI S 1304 m).toNatClampNeg b).pA 1309 209 (gI S 1304 m).toNatClampNeg a).pA 1310 210 (gI S 1304 m).toNatClampNeg 10).pI 1304 1 ((gI S 1304 m).toNatClampNeg + 1) (gI S 1304 m + 1) (by rw [hx, hc]; exact nI_1 _)
      show MR g m _ (ad_ship σ p d b a)
      unfold ad_ship; rw [← hx]; exact this
  · rw [if_pos op, if_pos id, if_pos ib, if_pos ia, if_pos ((cnt_eq (N := 5) (by omega)).mp (hc ▸ e))]; exact ⟨rfl, h⟩
  · rw [if_pos op, if_pos id, if_pos ib, if_neg ia]; exact ⟨rfl, h⟩
  · rw [if_pos op, if_pos id, if_neg ib]; exact ⟨rfl, h⟩
  · rw [if_pos op, if_neg id]; exact ⟨rfl, h⟩
  · rw [if_neg op]; exact ⟨rfl, h⟩
theorem CR.addShip {ad : AD} {x : Nat} {S : HSt} {σ : Sg} (h : CR ad x S σ) (hi : Inv σ) {q b : Nat} {p d u a : Int32} (hlt : cN σ 1 < 5) (ha : ad 2 (cN σ 1) = q) (hb : ad 3 (cN σ 1) = b) (f1 : gK S q = 9) (f2 : gR S 908 q = some b) (f3 : gK S b = 150) (f4 : gN S b = 2000) (f5 : gI S 900 q = nI (cN σ 1)) (f6 : gI S 901 q = d) (f7 : gI S 902 q = u) (f8 : gI S 903 q = a) (f9 : gR S 904 q = some (ad 0 (ix p))) (g1 : gI S 905 q = 0) (g2 : gI S 906 q = 10) (g3 : gI S 907 q = 0) (g4 : ∀ i, i < cN σ 1 → ad 3 i ≠ b) : CR ad x (uI (uB S 800 (ad 10 1) (cN σ 1) (some q)) 1208 x (nI (cN σ 1 + 1))) (ad_ship σ p d u a) := by
  obtain ⟨hF, hC, hP, hS, hO, hR, hT, hX, hH, hE⟩ := h
  have hrow : ∀ j, j ≠ cN σ 1 → gB (uB S 800 (ad 10 1) (cN σ 1) (some q)) 800 (ad 10 1) j = gB S 800 (ad 10 1) j := fun j hj => gB_uBn (fun z => hj z.2.2)
  refine ⟨hF.ks (Ks.trans (Ks_uB rfl) (Ks_uI rfl)) (fun i hi => gB_uBn (S := S) (k := 800) (fun z => absurd z.1 (by decide))), ?_, hP, ⟨fun i hi' => ?_, fun i j h1 h2 => ?_⟩, hO, hR, hT, hX, hH, hE⟩
  · obtain ⟨c0, c1, c2, c3, c4, c5, c6⟩ := hC
    refine ⟨c0, ?_, c2, c3, c4, c5, c6⟩
    rw [gI_same, if_pos rfl]; rfl
  · have hi' : i < cN σ 1 + 1 := hi'
    by_cases e : i = cN σ 1
    · subst e
      obtain ⟨z1, z2⟩ := hi.2.2.2.2.1 _ (Nat.le_refl _) hlt
      refine ⟨?_, by rw [ha]; exact f1, by rw [ha, hb]; exact f2, by rw [hb]; exact f3, by rw [hb]; exact f4, by rw [ha]; exact f5, ?_, ?_, ?_, ?_, ?_, ?_, ?_, fun j hj => ?_⟩
      · rw [ha]; exact gB_uBs
      · rw [ha]; refine Eq.trans (show _ = gI S 901 q from rfl) (f6.trans ?_)
        simp [ad_ship, dD_sN, dD_sD]
      · rw [ha]; refine Eq.trans (show _ = gI S 902 q from rfl) (f7.trans ?_)
        simp [ad_ship, dD_sN, dD_sD]
      · rw [ha]; refine Eq.trans (show _ = gI S 903 q from rfl) (f8.trans ?_)
        simp [ad_ship, dD_sN, dD_sD]
      · rw [ha]; refine Eq.trans (show _ = gR S 904 q from rfl) (f9.trans ?_)
        simp [ad_ship, dD_sN, dD_sD]
      · rw [ha]; refine Eq.trans (show _ = gI S 905 q from rfl) (g1.trans ?_)
        simp [ad_ship, dD_sN, dD_sD, z1]
      · rw [ha]; refine Eq.trans (show _ = gI S 906 q from rfl) (g2.trans ?_)
        simp [ad_ship, dD_sN, dD_sD]
      · rw [ha]; refine Eq.trans (show _ = gI S 907 q from rfl) (g3.trans ?_)
        simp [ad_ship, dD_sN, dD_sD, z2]
      · have : ix (dD (ad_ship σ p d u a) 1311 (cN σ 1)) = 0 := by simp [ad_ship, dD_sN, dD_sD, z2]
        omega
    · have hlt' : i < cN σ 1 := by omega
      obtain ⟨a1, a2, a3, a4, a5, a6, a7, a8, a9, b1, b2, b3, b4, b5⟩ := hS.1 i hlt'
      refine ⟨(hrow i e).trans a1, a2, a3, a4, a5, a6, a7.trans ?_, a8.trans ?_, a9.trans ?_, b1.trans ?_, b2, b3.trans ?_, b4, b5⟩
      · simp [ad_ship, dD_sN, dD_sD, e]
      · simp [ad_ship, dD_sN, dD_sD, e]
      · simp [ad_ship, dD_sN, dD_sD, e]
      · simp [ad_ship, dD_sN, dD_sD, e]
      · simp [ad_ship, dD_sN, dD_sD, e]
  · have h1 : i < cN σ 1 + 1 := h1
    have h2 : j < cN σ 1 + 1 := h2
    intro e
    by_cases e1 : i = cN σ 1
    · by_cases e2 : j = cN σ 1
      · omega
      · subst e1; rw [hb] at e; exact absurd e.symm (g4 j (by omega))
    · by_cases e2 : j = cN σ 1
      · subst e2; rw [hb] at e; exact absurd e (g4 i (by omega))
      · exact hS.2 i j (by omega) (by omega) e
theorem c_ship {ad : AD} {x : Nat} {S : HSt} {σ : Sg} (h : CR ad x S σ) (hi : Inv σ) (p d u w : Int32) : wp_X11_ship x p d u w S (fun r S' => r = (st_ship σ p d u w).1 ∧ ∃ ad', CR ad' x S' (st_ship σ p d u w).2) := by
  have hn := hi.1.2.1
  have h0 := hi.1.1
  have hc := h.2.1.2.1
  unfold wp_X11_ship st_ship
  refine c_portAt h hi (fun op => ⟨fun z => (by cases z), fun b4 e4 => c_within (fun id => bs1 (c_within (fun ib => bs1 (c_within (fun ia => br1 ⟨fun lt => ?_, fun nl => ?_⟩) (fun ia => br0 ?_))) (fun ib => bs0 ?_))) (fun id => bs0 ?_)⟩) (fun op => ⟨fun _ => ?_, fun b4 e4 => (by cases e4)⟩)
  · cases e4
    rw [hc] at lt
    have lt' : cN σ 1 < 5 := (nI_ltI (b := 5) (by omega) (by decide)).mp lt
    rw [if_pos op, if_pos id, if_pos ib, if_pos ia, if_neg (by omega)]
    obtain ⟨q1, q2, q3⟩ := h.1.f 1201 1 800 5
    have hpk := (h.2.2.1.1 _ (okN_lt op (by omega))).2.1
    refine ⟨_, q1, fun a ha S14 e14 => ?_⟩
    subst e14
    refine ⟨((Ex_nO Ex.rf ha).k (k0 hpk)).trans hpk, fun S1 e1 b hb S3 e3 => ?_⟩
    subst e1 e3
    have hab : a ≠ b := fun z => by subst z; simp [gK, nO, uI, va_up] at hb
    have hb0 : gK S b = 0 := by simpa [gK, nO, uI, va_up, Ne.symm hab] using hb
    have hba : b ≠ a := Ne.symm hab
    refine ⟨by simp [gR, nA, nO, uI, cl2], fun S7 e7 S10 e10 S13 e13 S16 e16 S19 e19 S22 e22 => ?_⟩
    subst e7 e10 e13 e16 e19 e22
    have eX : Ex S (uI (uI (uI (uR (uI (uR (nA (uI (nO S 9 a) 906 a 10) 150 b 2000) 908 a (some b)) 900 a (gI (nO S 9 a) 1208 x)) 904 a (some (ad 0 (ix p)))) 901 a d) 902 a u) 903 a w) := Ex_uI (Ex_uI (Ex_uI (Ex_uR (Ex_uI (Ex_uR (Ex_nA (Ex_uI (Ex_nO Ex.rf ha) ha) hb0) ha) ha) ha) ha) ha) ha
    have hx0 := k0 h.1.2.1
    have e0 : gI (nO S 9 a) 1208 x = nI (cN σ 1) := ((Ex_nO Ex.rf ha).i hx0 _).trans hc
    rw [e0] at eX ⊢
    generalize hS : (uI (uI (uI (uR (uI (uR (nA (uI (nO S 9 a) 906 a 10) 150 b 2000) 908 a (some b)) 900 a (nI (cN σ 1))) 904 a (some (ad 0 (ix p)))) 901 a d) 902 a u) 903 a w) = S18 at eX ⊢
    have f1 : gK S18 a = 9 := by subst hS; simp [gK, uI, uR, nA, nO, va_up, hab]
    have f2 : gR S18 908 a = some b := by subst hS; simp [gR, uI, uR, up2]
    have f3 : gK S18 b = 150 := by subst hS; simp [gK, uI, uR, nA, nO, va_up]
    have f4 : gN S18 b = 2000 := by subst hS; simp [gN, uI, uR, nA, nO, va_up]
    have f5 : gI S18 900 a = nI (cN σ 1) := by subst hS; simp [gI, uI, uR, nA, nO, up2]
    have f6 : gI S18 901 a = d := by subst hS; simp [gI, uI, uR, nA, nO, up2]
    have f7 : gI S18 902 a = u := by subst hS; simp [gI, uI, uR, nA, nO, up2]
    have f8 : gI S18 903 a = w := by subst hS; simp [gI, uI, uR, nA, nO, up2]
    have f9 : gR S18 904 a = some (ad 0 (ix p)) := by subst hS; simp [gR, uI, uR, nA, nO, up2]
    have g1 : gI S18 905 a = 0 := by subst hS; simp [gI, uI, uR, nA, nO, up2, cl2]
    have g2 : gI S18 906 a = 10 := by subst hS; simp [gI, uI, uR, nA, nO, up2, cl2]
    have g3 : gI S18 907 a = 0 := by subst hS; simp [gI, uI, uR, nA, nO, up2, cl2]
    have h2 : CR ad x S18 σ := h.ext eX
    have h3 : CR (up2 (up2 ad 2 (cN σ 1) a) 3 (cN σ 1) b) x S18 σ := h2.ad hi (fun r i hl => by
      rw [up2_n (fun z => ?_), up2_n (fun z => ?_)]
      · have := hl.2.1 (Or.inl z.1); omega
      · have := hl.2.1 (Or.inr z.1); omega)
    have q2' : gK S18 (ad 10 1) = 800 := (eX.k (k0 q2)).trans q2
    have q3' : gN S18 (ad 10 1) = 5 := (eX.n (k0 q2)).trans q3
    refine ⟨q2', by rw [q3', hc]; exact vp_in_nI lt' (by decide), fun S22 e22 S25 e25 => ?_⟩
    have hc' : gI S18 1208 x = nI (cN σ 1) := h2.2.1.2.1
    rw [hc, nI_clamp (by omega)] at e22
    subst e22 e25
    refine ⟨?_, up2 (up2 ad 2 (cN σ 1) a) 3 (cN σ 1) b, ?_⟩
    · rw [gI_same, if_pos rfl]
      show gI S18 1208 x + 1 - 1 = _
      rw [hc']; exact nI_sub1 _
    · have := h3.addShip hi (q := a) (b := b) (p := p) (d := d) (u := u) (a := w) lt' (by simp [up2]) (by simp [up2]) f1 f2 f3 f4 f5 f6 f7 f8 (by rw [f9]; simp [up2]) g1 g2 g3 (fun i hl z => by
        have z' : ad 3 i = b := by rw [up2_n (by omega), up2_n (by omega)] at z; exact z
        have := (h.2.2.2.1.1 i hl).2.2.2.1
        rw [z', hb0] at this; exact absurd this (by decide))
      show CR _ x (uI (uB S18 800 (ad 10 1) (cN σ 1) (some a)) 1208 x (gI S18 1208 x + 1)) (ad_ship σ p d u w)
      rw [hc', nI_1]
      exact this
  · rw [hc] at nl
    have e : cN σ 1 = 5 := by
      have : ¬ cN σ 1 < 5 := fun z => nl ((nI_ltI (b := 5) (by omega) (by decide)).mpr z)
      omega
    rw [if_pos op, if_pos id, if_pos ib, if_pos ia, if_pos e]; exact ⟨rfl, ad, h⟩
  · rw [if_pos op, if_pos id, if_pos ib, if_neg ia]; exact ⟨rfl, ad, h⟩
  · rw [if_pos op, if_pos id, if_neg ib]; exact ⟨rfl, ad, h⟩
  · rw [if_pos op, if_neg id]; exact ⟨rfl, ad, h⟩
  · rw [if_neg op]; exact ⟨rfl, ad, h⟩
theorem v_ship {σ : Sg} (hi : Inv σ) (p d u w : Int32) : Inv (st_ship σ p d u w).2 := by
  unfold st_ship
  split
  · split
    · split
      · split
        · split
          · exact hi
          · rename_i op id ib ia ne
            obtain ⟨i0, i1, i2, i3, i4, i5, i6, i7, i8, i9⟩ := hi
            have hn : cN σ 1 + 1 ≤ 5 := by have := i0.2.1; omega
            refine ⟨⟨i0.1, hn, i0.2.2⟩, i1, i2, fun i hi' => ?_, fun i h1 h2 => ?_, i5, i6, i7, fun i h => ⟨(i8 i h).1, okN_mono (i8 i h).2.1 (Nat.le_succ _) (show cN σ 1 + 1 < 2 ^ 31 by omega), (i8 i h).2.2⟩, i9⟩
            · have hi' : i < cN σ 1 + 1 := hi'
              by_cases e : i = cN σ 1
              · subst e
                obtain ⟨z1, z2⟩ := i4 _ (Nat.le_refl _) (by omega)
                refine ⟨?_, ?_, ?_, ?_, ?_, ?_, ?_, fun j hj => ?_⟩
                · simpa [ad_ship, dD_sN, dD_sD, cN_sN, cN_sD] using op
                · simp [ad_ship, dD_sN, dD_sD, z1]; exact ⟨by decide, by decide⟩
                · simpa [ad_ship, dD_sN, dD_sD] using bet_of id (by decide) (by decide)
                · simpa [ad_ship, dD_sN, dD_sD] using bet_of ib (by decide) (by decide)
                · simpa [ad_ship, dD_sN, dD_sD] using bet_of ia (by decide) (by decide)
                · simp [ad_ship, dD_sN, dD_sD]; exact ⟨by decide, by decide⟩
                · simp [ad_ship, dD_sN, dD_sD, z2]; exact ⟨by decide, by decide⟩
                · have hj : j < ix (dD (ad_ship σ p d u w) 1311 (cN σ 1)) := hj
                  rw [show ix (dD (ad_ship σ p d u w) 1311 (cN σ 1)) = 0 by simp [ad_ship, dD_sN, dD_sD, z2]] at hj
                  exact absurd hj (Nat.not_lt_zero j)
              · obtain ⟨a1, a2, a3, a4, a5, a6, a7, a8⟩ := i3 i (by omega)
                refine ⟨?_, a2, ?_, ?_, ?_, ?_, a7, a8⟩
                · simpa [ad_ship, dD_sN, dD_sD, cN_sN, cN_sD, e] using a1
                · simpa [ad_ship, dD_sN, dD_sD, e] using a3
                · simpa [ad_ship, dD_sN, dD_sD, e] using a4
                · simpa [ad_ship, dD_sN, dD_sD, e] using a5
                · simpa [ad_ship, dD_sN, dD_sD, e] using a6
            · exact i4 i (by have h1 : cN σ 1 + 1 ≤ i := h1; omega) h2
        · exact hi
      · exact hi
    · exact hi
  · exact hi
