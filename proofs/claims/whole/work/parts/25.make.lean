theorem cnt_eq {n N : Nat} (hn : n < 2 ^ 31) (hN : N < 2 ^ 31 := by decide) : nI n = nI N ↔ n = N := nI_eq hn hN
theorem nI_sub1 (n : Nat) : nI n + 1 - 1 = nI n := by rw [nI_1]; exact nI_pred n
/-! shipTold -/
def st_shipTold (σ : Sg) (s w : Int32) : Int32 := if okN s (cN σ 1) then if w = 0 then dD σ 1305 (ix s) else if w = 1 then dD σ 1306 (ix s) else if w = 2 then dD σ 1307 (ix s) else if w = 3 then dD σ 1308 (ix s) else if w = 4 then dD σ 1309 (ix s) else if w = 5 then dD σ 1310 (ix s) else if w = 6 then dD σ 1311 (ix s) else -2 else -2
theorem r_shipTold {g : Nat → Nat} {m : Nat} {S : HSt} {σ : Sg} (h : MR g m S σ) (hi : Inv σ) (s w : Int32) : wp_X12_shipTold g m s w S (fun r S' => r = st_shipTold σ s w ∧ S' = S) := by
  have hs := hi.1.2.1
  unfold wp_X12_shipTold st_shipTold
  refine r_isShip h (by omega) (fun os => br1 ?_) (fun os => br0 ?_)
  · have hin := okN_in os hs (by decide)
    rw [if_pos os]
    refine ⟨fun e => ⟨hin, ?_⟩, fun n0 => ⟨fun e => ⟨hin, ?_⟩, fun n1 => ⟨fun e => ⟨hin, ?_⟩, fun n2 => ⟨fun e => ⟨hin, ?_⟩, fun n3 => ⟨fun e => ⟨hin, ?_⟩, fun n4 => ⟨fun e => ⟨hin, ?_⟩, fun n5 => ⟨fun e => ⟨hin, ?_⟩, fun n6 => ?_⟩⟩⟩⟩⟩⟩⟩
    · rw [if_pos e]; exact ⟨h.a 1305 205 _, rfl⟩
    · rw [if_neg n0, if_pos e]; exact ⟨h.a 1306 206 _, rfl⟩
    · rw [if_neg n0, if_neg n1, if_pos e]; exact ⟨h.a 1307 207 _, rfl⟩
    · rw [if_neg n0, if_neg n1, if_neg n2, if_pos e]; exact ⟨h.a 1308 208 _, rfl⟩
    · rw [if_neg n0, if_neg n1, if_neg n2, if_neg n3, if_pos e]; exact ⟨h.a 1309 209 _, rfl⟩
    · rw [if_neg n0, if_neg n1, if_neg n2, if_neg n3, if_neg n4, if_pos e]; exact ⟨h.a 1310 210 _, rfl⟩
    · rw [if_neg n0, if_neg n1, if_neg n2, if_neg n3, if_neg n4, if_neg n5, if_pos e]; exact ⟨h.a 1311 211 _, rfl⟩
    · rw [if_neg n0, if_neg n1, if_neg n2, if_neg n3, if_neg n4, if_neg n5, if_neg n6]; exact ⟨rfl, rfl⟩
  · rw [if_neg os]; exact ⟨rfl, rfl⟩
theorem c_shipTold {ad : AD} {x : Nat} {S : HSt} {σ : Sg} (h : CR ad x S σ) (hi : Inv σ) (s w : Int32) : wp_X11_shipTold x s w S (fun r S' => r = st_shipTold σ s w ∧ S' = S) := by
  have hs := hi.1.2.1
  unfold wp_X11_shipTold st_shipTold
  refine c_shipAt h hi (fun os => ⟨fun z => (by cases z), fun b4 e4 => ?_⟩) (fun os => ⟨fun _ => ?_, fun b4 e4 => (by cases e4)⟩)
  · cases e4
    have hp := okN_lt os (by omega)
    obtain ⟨a1, a2, a3, a4, a5, a6, a7, a8, a9, b1, b2, b3, b4, b5⟩ := h.2.2.2.1.1 _ hp
    have hpo := (hi.2.2.2.1 _ hp).1
    have hpl := okN_lt hpo (by have := hi.1.1; omega)
    obtain ⟨p1, p2, p3, p4, p5, p6, p7⟩ := h.2.2.1.1 _ hpl
    rw [if_pos os]
    refine ⟨fun e => ⟨a2, _, b1, p2, ?_⟩, fun n0 => ⟨fun e => ⟨a2, ?_⟩, fun n1 => ⟨fun e => ⟨a2, ?_⟩, fun n2 => ⟨fun e => ⟨a2, ?_⟩, fun n3 => ⟨fun e => ⟨a2, ?_⟩, fun n4 => ⟨fun e => ⟨a2, ?_⟩, fun n5 => ⟨fun e => ⟨a2, ?_⟩, fun n6 => ?_⟩⟩⟩⟩⟩⟩⟩
    · rw [if_pos e]; exact ⟨p6.trans (okN_eq hpo (by have := hi.1.1; omega)).symm, rfl⟩
    · rw [if_neg n0, if_pos e]; exact ⟨b2, rfl⟩
    · rw [if_neg n0, if_neg n1, if_pos e]; exact ⟨a7, rfl⟩
    · rw [if_neg n0, if_neg n1, if_neg n2, if_pos e]; exact ⟨a8, rfl⟩
    · rw [if_neg n0, if_neg n1, if_neg n2, if_neg n3, if_pos e]; exact ⟨a9, rfl⟩
    · rw [if_neg n0, if_neg n1, if_neg n2, if_neg n3, if_neg n4, if_pos e]; exact ⟨b3, rfl⟩
    · rw [if_neg n0, if_neg n1, if_neg n2, if_neg n3, if_neg n4, if_neg n5, if_pos e]; exact ⟨b4, rfl⟩
    · rw [if_neg n0, if_neg n1, if_neg n2, if_neg n3, if_neg n4, if_neg n5, if_neg n6]; exact ⟨rfl, rfl⟩
  · rw [if_neg os]; exact ⟨rfl, rfl⟩
/-! port -/
def ad_port (σ : Sg) (g p : Int32) : Sg := sN (sD (sD σ 1301 (cN σ 0) g) 1302 (cN σ 0) p) 0 (cN σ 0 + 1)
def st_port (σ : Sg) (g p : Int32) : Int32 × Sg := if 10 ≤ g ∧ g ≤ 999 then if 0 ≤ p ∧ p ≤ 99 then if cN σ 0 = 8 then (-4, σ) else (nI (cN σ 0), ad_port σ g p) else (-2, σ) else (-2, σ)
theorem r_port {g : Nat → Nat} {m : Nat} {S : HSt} {σ : Sg} (h : MR g m S σ) (hi : Inv σ) (a p : Int32) : wp_X12_port g m a p S (fun r S' => r = (st_port σ a p).1 ∧ MR g m S' (st_port σ a p).2) := by
  have hn := hi.1.1
  have hc := h.c 1300 0
  unfold wp_X12_port st_port
  refine r_in (fun ia => bs1 (r_in (fun ip => br1 ⟨fun ne => ?_, fun e => ?_⟩) (fun ip => br0 ?_))) (fun ia => bs0 ?_)
  · have ne' : ¬ cN σ 0 = 8 := fun z => ne (by rw [hc, z]; rfl)
    rw [if_pos ia, if_pos ip, if_neg ne']
    have hin : vp_in (gI S 1300 m) 8 := by rw [hc]; exact vp_in_nI (by omega) (by decide)
    have hx : (gI S 1300 m).toNatClampNeg = cN σ 0 := by rw [hc]; exact nI_clamp (by omega)
    refine ⟨hin, fun S11 e11 => ?_⟩
    subst e11
    refine ⟨hin, fun S15 e15 => ?_⟩
    subst e15
    intro S18 e18
    subst e18
    refine ⟨?_, ?_⟩
    · rw [gI_same, if_pos rfl]
      show gI S 1300 m + 1 - 1 = _
      rw [hc]; exact nI_sub1 _
    · have := ((h.pA 1301 201 (gI S 1300 m).toNatClampNeg a).pA 1302 202 (gI S 1300 m).toNatClampNeg p).pI 1300 0 ((gI S 1300 m).toNatClampNeg + 1) (gI S 1300 m + 1) (by rw [hx, hc]; exact nI_1 _)
      show MR g m _ (ad_port σ a p)
      unfold ad_port; rw [← hx]; exact this
  · rw [if_pos ia, if_pos ip, if_pos ((cnt_eq (N := 8) (by omega)).mp (hc ▸ e))]; exact ⟨rfl, h⟩
  · rw [if_pos ia, if_neg ip]; exact ⟨rfl, h⟩
  · rw [if_neg ia]; exact ⟨rfl, h⟩
theorem CR.addPort {ad : AD} {x : Nat} {S : HSt} {σ : Sg} (h : CR ad x S σ) (hi : Inv σ) {a b : Nat} {g p : Int32} (hlt : cN σ 0 < 8) (ha : ad 0 (cN σ 0) = a) (hb : ad 1 (cN σ 0) = b) (f1 : gK S a = 4) (f2 : gR S 403 a = some b) (f3 : gK S b = 250) (f4 : gN S b = 8) (f5 : gI S 400 a = nI (cN σ 0)) (f6 : gI S 401 a = g) (f7 : gI S 402 a = p) (f8 : ∀ j, gA S 250 b j = 0) (f9 : ∀ i, i < cN σ 0 → ad 1 i ≠ b) : CR ad x (uI (uB S 600 (ad 10 0) (cN σ 0) (some a)) 1207 x (nI (cN σ 0 + 1))) (ad_port σ g p) := by
  obtain ⟨hF, hC, hP, hS, hO, hR, hT, hX, hH, hE⟩ := h
  have hrow : ∀ j, j ≠ cN σ 0 → gB (uB S 600 (ad 10 0) (cN σ 0) (some a)) 600 (ad 10 0) j = gB S 600 (ad 10 0) j := fun j hj => gB_uBn (fun z => hj z.2.2)
  refine ⟨hF.ks (Ks.trans (Ks_uB rfl) (Ks_uI rfl)) (fun i hi => gB_uBn (S := S) (k := 600) (fun z => absurd z.1 (by decide))), ?_, ⟨fun i hi' => ?_, fun i j h1 h2 => ?_⟩, hS, hO, hR, hT, hX, hH, hE⟩
  · obtain ⟨c0, c1, c2, c3, c4, c5, c6⟩ := hC
    refine ⟨?_, c1, c2, c3, c4, c5, c6⟩
    rw [gI_same, if_pos rfl]; rfl
  · have hi' : i < cN σ 0 + 1 := hi'
    by_cases e : i = cN σ 0
    · subst e
      refine ⟨?_, by rw [ha]; exact f1, by rw [ha, hb]; exact f2, by rw [hb]; exact f3, by rw [hb]; exact f4, by rw [ha]; exact f5, ?_, ?_, fun j hj => ?_⟩
      · rw [ha]; exact gB_uBs
      · rw [ha]; refine Eq.trans (show _ = gI S 401 a from rfl) (f6.trans ?_)
        simp [ad_port, dD_sN, dD_sD]
      · rw [ha]; refine Eq.trans (show _ = gI S 402 a from rfl) (f7.trans ?_)
        simp [ad_port, dD_sN, dD_sD]
      · rw [hb]; exact (f8 j).trans (((hi.2.2.1 (cN σ 0) j hlt hj).2 (Or.inl (Nat.le_refl _))).symm)
    · have hlt' : i < cN σ 0 := by omega
      obtain ⟨a1, a2, a3, a4, a5, a6, a7, a8, a9⟩ := hP.1 i hlt'
      refine ⟨(hrow i e).trans a1, a2, a3, a4, a5, a6, a7.trans ?_, a8.trans ?_, a9⟩
      · simp [ad_port, dD_sN, dD_sD, e]
      · simp [ad_port, dD_sN, dD_sD, e]
  · have h1 : i < cN σ 0 + 1 := h1
    have h2 : j < cN σ 0 + 1 := h2
    intro e
    by_cases e1 : i = cN σ 0
    · by_cases e2 : j = cN σ 0
      · omega
      · subst e1; rw [hb] at e; exact absurd e.symm (f9 j (by omega))
    · by_cases e2 : j = cN σ 0
      · subst e2; rw [hb] at e; exact absurd e (f9 i (by omega))
      · exact hP.2 i j (by omega) (by omega) e
theorem v_port {σ : Sg} (hi : Inv σ) (a p : Int32) : Inv (st_port σ a p).2 := by
  unfold st_port
  split
  · split
    · split
      · exact hi
      · rename_i ia ip ne
        obtain ⟨i0, i1, i2, i3, i4, i5, i6, i7, i8⟩ := hi
        have hn : cN σ 0 + 1 ≤ 8 := by have := i0.1; omega
        have mono : ∀ q : Int32, okN q (cN σ 0) → okN q (cN σ 0 + 1) := fun q hq => by
          obtain ⟨h1, h2⟩ := (okN_iff (by omega)).mp hq
          exact (okN_iff (by omega)).mpr ⟨by omega, h2⟩
        refine ⟨⟨hn, i0.2⟩, fun i hi' => ?_, fun i j h1 h2 => ⟨(i2 i j h1 h2).1, fun z => (i2 i j h1 h2).2 ?_⟩, fun i h => ⟨mono _ (i3 i h).1, (i3 i h).2⟩, i4, fun i h => ⟨mono _ (i5 i h).1, mono _ (i5 i h).2.1, (i5 i h).2.2⟩, i6, fun k h => mono _ (i7 k h), i8⟩
        · have hi' : i < cN σ 0 + 1 := hi'
          have e1 : dD (ad_port σ a p) 1301 i = if i = cN σ 0 then a else dD σ 1301 i := by simp [ad_port, dD_sN, dD_sD]
          have e2 : dD (ad_port σ a p) 1302 i = if i = cN σ 0 then p else dD σ 1302 i := by simp [ad_port, dD_sN, dD_sD]
          rw [e1, e2]
          split
          · exact ⟨bet_of ia (by decide) (by decide), bet_of ip (by decide) (by decide)⟩
          · exact i1 i (by omega)
        · rcases z with z | z | z
          · exact Or.inl (by have z : cN σ 0 + 1 ≤ i := z; omega)
          · exact Or.inr (Or.inl (by have z : cN σ 0 + 1 ≤ j := z; omega))
          · exact Or.inr (Or.inr z)
    · exact hi
  · exact hi
theorem c_port {ad : AD} {x : Nat} {S : HSt} {σ : Sg} (h : CR ad x S σ) (hi : Inv σ) (g p : Int32) : wp_X11_port x g p S (fun r S' => r = (st_port σ g p).1 ∧ ∃ ad', CR ad' x S' (st_port σ g p).2) := by
  have hn := hi.1.1
  have hc := h.2.1.1
  unfold wp_X11_port st_port
  refine c_within (fun ia => bs1 (c_within (fun ip => br1 ⟨fun lt => ?_, fun nl => ?_⟩) (fun ip => br0 ?_))) (fun ia => bs0 ?_)
  · rw [hc] at lt
    have lt' : cN σ 0 < 8 := (nI_ltI (b := 8) (by omega) (by decide)).mp lt
    rw [if_pos ia, if_pos ip, if_neg (by omega)]
    obtain ⟨q1, q2, q3⟩ := h.1.f 1200 0 600 8
    refine ⟨_, q1, fun a ha S14 e14 b hb S3 e3 => ?_⟩
    subst e14 e3
    have hab : a ≠ b := fun z => by subst z; simp [gK, nO, va_up] at hb
    have hb0 : gK S b = 0 := by simpa [gK, nO, va_up, Ne.symm hab] using hb
    have hba : b ≠ a := Ne.symm hab
    refine ⟨by simp [gR, nA, nO, cl2], fun S7 e7 S10 e10 S13 e13 S16 e16 => ?_⟩
    subst e7 e10 e13 e16
    have eX : Ex S (uI (uI (uI (uR (nA (nO S 4 a) 250 b 8) 403 a (some b)) 400 a (gI (nO S 4 a) 1207 x)) 401 a g) 402 a p) := Ex_uI (Ex_uI (Ex_uI (Ex_uR (Ex_nA (Ex_nO Ex.rf ha) hb0) ha) ha) ha) ha
    have hx0 := k0 h.1.2.1
    have e0 : gI (nO S 4 a) 1207 x = nI (cN σ 0) := ((Ex_nO Ex.rf ha).i hx0 _).trans hc
    rw [e0] at eX ⊢
    generalize hS : (uI (uI (uI (uR (nA (nO S 4 a) 250 b 8) 403 a (some b)) 400 a (nI (cN σ 0))) 401 a g) 402 a p) = S18 at eX ⊢
    have f1 : gK S18 a = 4 := by subst hS; simp [gK, uI, uR, nA, nO, va_up, hab]
    have f2 : gR S18 403 a = some b := by subst hS; simp [gR, uI, uR, up2]
    have f3 : gK S18 b = 250 := by subst hS; simp [gK, uI, uR, nA, nO, va_up]
    have f4 : gN S18 b = 8 := by subst hS; simp [gN, uI, uR, nA, nO, va_up]
    have f5 : gI S18 400 a = nI (cN σ 0) := by subst hS; simp [gI, uI, uR, nA, nO, up2]
    have f6 : gI S18 401 a = g := by subst hS; simp [gI, uI, uR, nA, nO, up2]
    have f7 : gI S18 402 a = p := by subst hS; simp [gI, uI, uR, nA, nO, up2]
    have f8 : ∀ j, gA S18 250 b j = 0 := fun j => by subst hS; simp [gA, uI, uR, nA, nO, up2, cl2]
    have h2 : CR ad x S18 σ := h.ext eX
    have h3 : CR (up2 (up2 ad 0 (cN σ 0) a) 1 (cN σ 0) b) x S18 σ := h2.ad hi (fun r i hl => by
      rw [up2_n (fun z => ?_), up2_n (fun z => ?_)]
      · have := hl.1 (Or.inl z.1); omega
      · have := hl.1 (Or.inr z.1); omega)
    have q2' : gK S18 (ad 10 0) = 600 := (eX.k (k0 q2)).trans q2
    have q3' : gN S18 (ad 10 0) = 8 := (eX.n (k0 q2)).trans q3
    refine ⟨q2', by rw [q3', hc]; exact vp_in_nI lt' (by decide), fun S22 e22 S25 e25 => ?_⟩
    have hc' : gI S18 1207 x = nI (cN σ 0) := h2.2.1.1
    rw [hc, nI_clamp (by omega)] at e22
    subst e22 e25
    refine ⟨?_, up2 (up2 ad 0 (cN σ 0) a) 1 (cN σ 0) b, ?_⟩
    · rw [gI_same, if_pos rfl]
      show gI S18 1207 x + 1 - 1 = _
      rw [hc']; exact nI_sub1 _
    · have := h3.addPort hi (a := a) (b := b) (g := g) (p := p) lt' (by simp [up2]) (by simp [up2]) f1 f2 f3 f4 f5 f6 f7 f8 (fun i hl z => by
        have z' : ad 1 i = b := by rw [up2_n (by omega), up2_n (by omega)] at z; exact z
        have := (h.2.2.1.1 i hl).2.2.2.1
        rw [z', hb0] at this; exact absurd this (by decide))
      show CR _ x (uI (uB S18 600 (ad 10 0) (cN σ 0) (some a)) 1207 x (gI S18 1207 x + 1)) (ad_port σ g p)
      rw [hc', nI_1]
      exact this
  · rw [hc] at nl
    have e : cN σ 0 = 8 := by
      have : ¬ cN σ 0 < 8 := fun z => nl ((nI_ltI (b := 8) (by omega) (by decide)).mpr z)
      omega
    rw [if_pos ia, if_pos ip, if_pos e]; exact ⟨rfl, ad, h⟩
  · rw [if_pos ia, if_neg ip]; exact ⟨rfl, ad, h⟩
  · rw [if_neg ia]; exact ⟨rfl, ad, h⟩
