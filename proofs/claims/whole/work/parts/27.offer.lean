/-! offer -/
def ad_offer (σ : Sg) (a b t r o c : Int32) : Sg := sN (sD (sD (sD (sD (sD (sD σ 1314 (cN σ 2) a) 1315 (cN σ 2) b) 1316 (cN σ 2) t) 1317 (cN σ 2) r) 1318 (cN σ 2) o) 1319 (cN σ 2) c) 2 (cN σ 2 + 1)
def st_offer (σ : Sg) (a b t r o c : Int32) : Int32 × Sg := if okN a (cN σ 0) then if okN b (cN σ 0) then if a = b then (-2, σ) else if 1 ≤ t ∧ t ≤ 9999 then if 0 ≤ r ∧ r ≤ 9999 then if 0 ≤ o ∧ o ≤ 9999 then if 0 ≤ c ∧ c ≤ 9999 then if o ≤ c then if cN σ 2 = 10 then (-4, σ) else (nI (cN σ 2), ad_offer σ a b t r o c) else (-2, σ) else (-2, σ) else (-2, σ) else (-2, σ) else (-2, σ) else (-2, σ) else (-2, σ)
theorem r_offer {g : Nat → Nat} {m : Nat} {S : HSt} {σ : Sg} (h : MR g m S σ) (hi : Inv σ) (a b t r o c : Int32) : wp_X12_offer g m a b t r o c S (fun v S' => v = (st_offer σ a b t r o c).1 ∧ MR g m S' (st_offer σ a b t r o c).2) := by
  have hn := hi.1.2.2.1
  have h0 := hi.1.1
  have hc := h.c 1313 2
  unfold wp_X12_offer st_offer
  refine r_isPort h (by omega) (fun oa => bs1 (r_isPort h (by omega) (fun ob => bs1 ⟨fun eq => ?_, fun nq => r_in (fun it => bs1 (r_in (fun ir => bs1 (r_isHour (fun io => bs1 (r_isHour (fun ic => bs1 ⟨fun le => ⟨fun ne => ?_, fun e => ?_⟩, fun nl => ?_⟩) (fun ic => bs0 ?_))) (fun io => bs0 ?_))) (fun ir => bs0 ?_))) (fun it => bs0 ?_)⟩) (fun ob => bs0 ?_))) (fun oa => bs0 ?_)
  · rw [if_pos oa, if_pos ob, if_pos eq]; exact ⟨rfl, h⟩
  · have ne' : ¬ cN σ 2 = 10 := fun z => ne (by rw [hc, z]; rfl)
    rw [if_pos oa, if_pos ob, if_neg nq, if_pos it, if_pos ir, if_pos io, if_pos ic, if_pos le, if_neg ne']
    have hin : vp_in (gI S 1313 m) 10 := by rw [hc]; exact vp_in_nI (by omega) (by decide)
    have hx : (gI S 1313 m).toNatClampNeg = cN σ 2 := by rw [hc]; exact nI_clamp (by omega)
    refine ⟨hin, fun S11 e11 => ?_⟩
    subst e11
    refine ⟨hin, fun S15 e15 => ?_⟩
    subst e15
    refine ⟨hin, fun S16 e16 => ?_⟩
    subst e16
    refine ⟨hin, fun S17 e17 => ?_⟩
    subst e17
    refine ⟨hin, fun S18 e18 => ?_⟩
    subst e18
    refine ⟨hin, fun S18 e18 => ?_⟩
    subst e18
    intro S19 e19
    subst e19
    refine ⟨?_, ?_⟩
    · rw [gI_same, if_pos rfl]
      show gI S 1313 m + 1 - 1 = _
      rw [hc]; exact nI_sub1 _
    · have := ((((((h.pA 1314 214 (gI S 1313 m).toNatClampNeg a).pA 1315 215 (gI S 1313 m).toNatClampNeg b).pA 1316 216 (gI S 1313 m).toNatClampNeg t).pA 1317 217 (gI S 1313 m).toNatClampNeg r).pA 1318 218 (gI S 1313 m).toNatClampNeg o).pA 1319 219 (gI S 1313 m).toNatClampNeg c).pI 1313 2 ((gI S 1313 m).toNatClampNeg + 1) (gI S 1313 m + 1) (by rw [hx, hc]; exact nI_1 _)
      show MR g m _ (ad_offer σ a b t r o c)
      unfold ad_offer; rw [← hx]; exact this
  · rw [if_pos oa, if_pos ob, if_neg nq, if_pos it, if_pos ir, if_pos io, if_pos ic, if_pos le, if_pos ((cnt_eq (N := 10) (by omega)).mp (hc ▸ e))]; exact ⟨rfl, h⟩
  · rw [if_pos oa, if_pos ob, if_neg nq, if_pos it, if_pos ir, if_pos io, if_pos ic, if_neg nl]; exact ⟨rfl, h⟩
  · rw [if_pos oa, if_pos ob, if_neg nq, if_pos it, if_pos ir, if_pos io, if_neg ic]; exact ⟨rfl, h⟩
  · rw [if_pos oa, if_pos ob, if_neg nq, if_pos it, if_pos ir, if_neg io]; exact ⟨rfl, h⟩
  · rw [if_pos oa, if_pos ob, if_neg nq, if_pos it, if_neg ir]; exact ⟨rfl, h⟩
  · rw [if_pos oa, if_pos ob, if_neg nq, if_neg it]; exact ⟨rfl, h⟩
  · rw [if_pos oa, if_neg ob]; exact ⟨rfl, h⟩
  · rw [if_neg oa]; exact ⟨rfl, h⟩
theorem CR.addOffer {ad : AD} {x : Nat} {S : HSt} {σ : Sg} (h : CR ad x S σ) (hi : Inv σ) {q : Nat} {a b t r o c : Int32} (hlt : cN σ 2 < 10) (ha : ad 4 (cN σ 2) = q) (f1 : gK S q = 3) (f2 : gR S 300 q = some (ad 0 (ix a))) (f3 : gR S 301 q = some (ad 0 (ix b))) (f4 : gI S 302 q = t) (f5 : gI S 303 q = r) (f6 : gI S 304 q = o) (f7 : gI S 305 q = c) (f8 : gI S 306 q = 0) (g4 : ∀ i, i < cN σ 2 → ad 4 i ≠ q) : CR ad x (uI (uB S 500 (ad 10 2) (cN σ 2) (some q)) 1209 x (nI (cN σ 2 + 1))) (ad_offer σ a b t r o c) := by
  obtain ⟨hF, hC, hP, hS, hO, hR, hT, hX, hH, hE⟩ := h
  have hrow : ∀ j, j ≠ cN σ 2 → gB (uB S 500 (ad 10 2) (cN σ 2) (some q)) 500 (ad 10 2) j = gB S 500 (ad 10 2) j := fun j hj => gB_uBn (fun z => hj z.2.2)
  refine ⟨hF.ks (Ks.trans (Ks_uB rfl) (Ks_uI rfl)) (fun i hi => gB_uBn (S := S) (k := 500) (fun z => absurd z.1 (by decide))), ?_, hP, hS, ⟨fun i hi' => ?_, fun i j h1 h2 => ?_⟩, hR, hT, hX, hH, hE⟩
  · obtain ⟨c0, c1, c2, c3, c4, c5, c6⟩ := hC
    refine ⟨c0, c1, ?_, c3, c4, c5, c6⟩
    rw [gI_same, if_pos rfl]; rfl
  · have hi' : i < cN σ 2 + 1 := hi'
    by_cases e : i = cN σ 2
    · subst e
      have z1 := hi.2.2.2.2.2.2.1 _ (Nat.le_refl _) hlt
      refine ⟨?_, by rw [ha]; exact f1, ?_, ?_, ?_, ?_, ?_, ?_, ?_⟩
      · rw [ha]; exact gB_uBs
      · rw [ha]; refine Eq.trans (show _ = gR S 300 q from rfl) (f2.trans ?_)
        simp [ad_offer, dD_sN, dD_sD]
      · rw [ha]; refine Eq.trans (show _ = gR S 301 q from rfl) (f3.trans ?_)
        simp [ad_offer, dD_sN, dD_sD]
      · rw [ha]; refine Eq.trans (show _ = gI S 302 q from rfl) (f4.trans ?_)
        simp [ad_offer, dD_sN, dD_sD]
      · rw [ha]; refine Eq.trans (show _ = gI S 303 q from rfl) (f5.trans ?_)
        simp [ad_offer, dD_sN, dD_sD]
      · rw [ha]; refine Eq.trans (show _ = gI S 304 q from rfl) (f6.trans ?_)
        simp [ad_offer, dD_sN, dD_sD]
      · rw [ha]; refine Eq.trans (show _ = gI S 305 q from rfl) (f7.trans ?_)
        simp [ad_offer, dD_sN, dD_sD]
      · rw [ha]; refine Eq.trans (show _ = gI S 306 q from rfl) (f8.trans ?_)
        simp [ad_offer, dD_sN, dD_sD, z1]
    · have hlt' : i < cN σ 2 := by omega
      obtain ⟨a1, a2, a3, a4, a5, a6, a7, a8, a9⟩ := hO.1 i hlt'
      refine ⟨(hrow i e).trans a1, a2, a3.trans ?_, a4.trans ?_, a5.trans ?_, a6.trans ?_, a7.trans ?_, a8.trans ?_, a9⟩
      · simp [ad_offer, dD_sN, dD_sD, e]
      · simp [ad_offer, dD_sN, dD_sD, e]
      · simp [ad_offer, dD_sN, dD_sD, e]
      · simp [ad_offer, dD_sN, dD_sD, e]
      · simp [ad_offer, dD_sN, dD_sD, e]
      · simp [ad_offer, dD_sN, dD_sD, e]
  · have h1 : i < cN σ 2 + 1 := h1
    have h2 : j < cN σ 2 + 1 := h2
    intro e
    by_cases e1 : i = cN σ 2
    · by_cases e2 : j = cN σ 2
      · omega
      · subst e1; rw [ha] at e; exact absurd e.symm (g4 j (by omega))
    · by_cases e2 : j = cN σ 2
      · subst e2; rw [ha] at e; exact absurd e (g4 i (by omega))
      · exact hO.2 i j (by omega) (by omega) e
theorem c_offer {ad : AD} {x : Nat} {S : HSt} {σ : Sg} (h : CR ad x S σ) (hi : Inv σ) (p b t r o c : Int32) : wp_X11_offer x p b t r o c S (fun v S' => v = (st_offer σ p b t r o c).1 ∧ ∃ ad', CR ad' x S' (st_offer σ p b t r o c).2) := by
  have hn := hi.1.2.2.1
  have h0 := hi.1.1
  have hc := h.2.1.2.2.1
  unfold wp_X11_offer st_offer
  refine c_portAt h hi (fun op => c_portAt h hi (fun ob => ⟨fun z => (by cases z), fun b4 e4 => ⟨fun z => (by cases z), fun b5 e5 => ⟨fun eq => ?_, fun nq => c_within (fun it => bs1 (c_within (fun ir => br1 (c_isHour (fun io => bs1 (c_isHour (fun ic => bs1 ⟨fun le => ⟨fun lt => ?_, fun nl => ?_⟩, fun nle => ?_⟩) (fun ic => bs0 ?_))) (fun io => bs0 ?_))) (fun ir => br0 ?_))) (fun it => bs0 ?_)⟩⟩⟩) (fun ob => ⟨fun z => (by cases z), fun b7 e7 => ⟨fun _ => ?_, fun b9 e9 => (by cases e9)⟩⟩)) (fun op => c_portAt h hi (fun ob => ⟨fun _ => ?_, fun b7 e7 => (by cases e7)⟩) (fun ob => ⟨fun _ => ?_, fun b7 e7 => (by cases e7)⟩))
  · rw [if_pos op, if_pos ob, if_pos eq]; exact ⟨rfl, ad, h⟩
  · cases e4; cases e5
    rw [hc] at lt
    have lt' : cN σ 2 < 10 := (nI_ltI (b := 10) (by omega) (by decide)).mp lt
    rw [if_pos op, if_pos ob, if_neg nq, if_pos it, if_pos ir, if_pos io, if_pos ic, if_pos le, if_neg (by omega)]
    obtain ⟨q1, q2, q3⟩ := h.1.f 1202 2 500 10
    have hpk := (h.2.2.1.1 _ (okN_lt op (by omega))).2.1
    have hpk2 := (h.2.2.1.1 _ (okN_lt ob (by omega))).2.1
    refine ⟨_, q1, fun a ha S14 e14 => ?_⟩
    subst e14
    refine ⟨((Ex_nO Ex.rf ha).k (k0 hpk)).trans hpk, ((Ex_nO Ex.rf ha).k (k0 hpk2)).trans hpk2, ?_, fun S1 e1 => ⟨?_, fun S3 e3 S7 e7 S10 e10 S13 e13 S16 e16 => ?_⟩⟩
    · simp [gR, nO, cl2]
    · subst e1; simp [gR, nO, uR, cl2, up2]
    subst e1 e3 e7 e10 e13 e16
    have eX : Ex S (uI (uI (uI (uI (uR (uR (nO S 3 a) 300 a (some (ad 0 (ix p)))) 301 a (some (ad 0 (ix b)))) 302 a t) 303 a r) 304 a o) 305 a c) := Ex_uI (Ex_uI (Ex_uI (Ex_uI (Ex_uR (Ex_uR (Ex_nO Ex.rf ha) ha) ha) ha) ha) ha) ha
    generalize hS : (uI (uI (uI (uI (uR (uR (nO S 3 a) 300 a (some (ad 0 (ix p)))) 301 a (some (ad 0 (ix b)))) 302 a t) 303 a r) 304 a o) 305 a c) = S18 at eX ⊢
    have f1 : gK S18 a = 3 := by subst hS; simp [gK, uI, uR, nO, va_up]
    have f2 : gR S18 300 a = some (ad 0 (ix p)) := by subst hS; simp [gR, uI, uR, nO, up2]
    have f3 : gR S18 301 a = some (ad 0 (ix b)) := by subst hS; simp [gR, uI, uR, nO, up2]
    have f4 : gI S18 302 a = t := by subst hS; simp [gI, uI, uR, nO, up2]
    have f5 : gI S18 303 a = r := by subst hS; simp [gI, uI, uR, nO, up2]
    have f6 : gI S18 304 a = o := by subst hS; simp [gI, uI, uR, nO, up2]
    have f7 : gI S18 305 a = c := by subst hS; simp [gI, uI, uR, nO, up2]
    have f8 : gI S18 306 a = 0 := by subst hS; simp [gI, uI, uR, nO, up2, cl2]
    have h2 : CR ad x S18 σ := h.ext eX
    have h3 : CR (up2 ad 4 (cN σ 2) a) x S18 σ := h2.ad hi (fun r i hl => by
      rw [up2_n (fun z => ?_)]
      have := hl.2.2.1 z.1; omega)
    have q2' : gK S18 (ad 10 2) = 500 := (eX.k (k0 q2)).trans q2
    have q3' : gN S18 (ad 10 2) = 10 := (eX.n (k0 q2)).trans q3
    refine ⟨q2', by rw [q3', hc]; exact vp_in_nI lt' (by decide), fun S22 e22 S25 e25 => ?_⟩
    have hc' : gI S18 1209 x = nI (cN σ 2) := h2.2.1.2.2.1
    rw [hc, nI_clamp (by omega)] at e22
    subst e22 e25
    refine ⟨?_, up2 ad 4 (cN σ 2) a, ?_⟩
    · rw [gI_same, if_pos rfl]
      show gI S18 1209 x + 1 - 1 = _
      rw [hc']; exact nI_sub1 _
    · have := h3.addOffer hi (q := a) (a := p) (b := b) (t := t) (r := r) (o := o) (c := c) lt' (by simp [up2]) f1 (by rw [f2]; simp [up2]) (by rw [f3]; simp [up2]) f4 f5 f6 f7 f8 (fun i hl z => by
        have z' : ad 4 i = a := by rw [up2_n (by omega)] at z; exact z
        have := (h.2.2.2.2.1.1 i hl).2.1
        rw [z', ha] at this; exact absurd this (by decide))
      show CR _ x (uI (uB S18 500 (ad 10 2) (cN σ 2) (some a)) 1209 x (gI S18 1209 x + 1)) (ad_offer σ p b t r o c)
      rw [hc', nI_1]
      exact this
  · rw [hc] at nl
    have e : cN σ 2 = 10 := by
      have : ¬ cN σ 2 < 10 := fun z => nl ((nI_ltI (b := 10) (by omega) (by decide)).mpr z)
      omega
    rw [if_pos op, if_pos ob, if_neg nq, if_pos it, if_pos ir, if_pos io, if_pos ic, if_pos le, if_pos e]; exact ⟨rfl, ad, h⟩
  · rw [if_pos op, if_pos ob, if_neg nq, if_pos it, if_pos ir, if_pos io, if_pos ic, if_neg nle]; exact ⟨rfl, ad, h⟩
  · rw [if_pos op, if_pos ob, if_neg nq, if_pos it, if_pos ir, if_pos io, if_neg ic]; exact ⟨rfl, ad, h⟩
  · rw [if_pos op, if_pos ob, if_neg nq, if_pos it, if_pos ir, if_neg io]; exact ⟨rfl, ad, h⟩
  · rw [if_pos op, if_pos ob, if_neg nq, if_pos it, if_neg ir]; exact ⟨rfl, ad, h⟩
  · rw [if_pos op, if_pos ob, if_neg nq, if_neg it]; exact ⟨rfl, ad, h⟩
  · rw [if_pos op, if_neg ob]; exact ⟨rfl, ad, h⟩
  · rw [if_neg op]; exact ⟨rfl, ad, h⟩
  · rw [if_neg op]; exact ⟨rfl, ad, h⟩
theorem v_offer {σ : Sg} (hi : Inv σ) (a b t r o c : Int32) : Inv (st_offer σ a b t r o c).2 := by
  unfold st_offer
  split
  · split
    · split
      · exact hi
      · split
        · split
          · split
            · split
              · split
                · split
                  · exact hi
                  · rename_i oa ob nq it ir io ic le ne
                    obtain ⟨i0, i1, i2, i3, i4, i5, i6, i7, i8⟩ := hi
                    have hn : cN σ 2 + 1 ≤ 10 := by have := i0.2.2.1; omega
                    refine ⟨⟨i0.1, i0.2.1, hn, i0.2.2.2⟩, i1, i2, i3, i4, fun i hi' => ?_, fun i h1 h2 => i6 i (by have h1 : cN σ 2 + 1 ≤ i := h1; omega) h2, i7, i8⟩
                    have hi' : i < cN σ 2 + 1 := hi'
                    by_cases e : i = cN σ 2
                    · subst e
                      have z1 := i6 _ (Nat.le_refl _) (by omega)
                      refine ⟨?_, ?_, ?_, ?_, ?_, ?_, ?_⟩
                      · simpa [ad_offer, dD_sN, dD_sD, cN_sN, cN_sD] using oa
                      · simpa [ad_offer, dD_sN, dD_sD, cN_sN, cN_sD] using ob
                      · simpa [ad_offer, dD_sN, dD_sD] using bet_of it (by decide) (by decide)
                      · simpa [ad_offer, dD_sN, dD_sD] using bet_of ir (by decide) (by decide)
                      · simpa [ad_offer, dD_sN, dD_sD] using bet_of io (by decide) (by decide)
                      · simpa [ad_offer, dD_sN, dD_sD] using bet_of ic (by decide) (by decide)
                      · exact Or.inl (by simp [ad_offer, dD_sN, dD_sD, z1])
                    · obtain ⟨a1, a2, a3, a4, a5, a6, a7⟩ := i5 i (by omega)
                      refine ⟨?_, ?_, ?_, ?_, ?_, ?_, ?_⟩
                      · simpa [ad_offer, dD_sN, dD_sD, cN_sN, cN_sD, e] using a1
                      · simpa [ad_offer, dD_sN, dD_sD, cN_sN, cN_sD, e] using a2
                      · simpa [ad_offer, dD_sN, dD_sD, e] using a3
                      · simpa [ad_offer, dD_sN, dD_sD, e] using a4
                      · simpa [ad_offer, dD_sN, dD_sD, e] using a5
                      · simpa [ad_offer, dD_sN, dD_sD, e] using a6
                      · simpa [ad_offer, dD_sN, dD_sD, e] using a7
                · exact hi
              · exact hi
            · exact hi
          · exact hi
        · exact hi
    · exact hi
  · exact hi
