theorem CR.tape0 {ad : AD} {x : Nat} {S : HSt} {σ : Sg} (h : CR ad x S σ) : CR ad x (uI S 600 (ad 10 10) 0) (sN σ 5 0) := by
  obtain ⟨hF, hC, hP, hS, hO, hR, hT, hX, hH, hE⟩ := h
  obtain ⟨c0, c1, c2, c3, c4, c5, c6⟩ := hC
  refine ⟨hF.ks (Ks_uI rfl) (fun _ _ => rfl), ⟨c0, c1, c2, c3, c4, ?_, c6⟩, hP, hS, hO, hR, fun k hk => absurd hk (Nat.not_lt_zero k), hX, hH, hE⟩
  rw [gI_same, if_pos rfl]; exact nI_0.symm
def adT (ad : AD) (t a b : Nat) : AD := fun r i => if r = 5 ∧ i = t then ad 12 0 else if r = 6 ∧ i = t then ad 12 1 else if r = 12 ∧ i = 0 then a else if r = 12 ∧ i = 1 then b else ad r i
theorem adT_5 (ad : AD) (t a b i : Nat) : adT ad t a b 5 i = if i = t then ad 12 0 else ad 5 i := by
  unfold adT
  by_cases h : i = t
  · rw [if_pos ⟨rfl, h⟩, if_pos h]
  · rw [if_neg (fun z => h z.2), if_neg (fun z => absurd z.1 (by decide)), if_neg (fun z => absurd z.1 (by decide)), if_neg (fun z => absurd z.1 (by decide)), if_neg h]
theorem adT_6 (ad : AD) (t a b i : Nat) : adT ad t a b 6 i = if i = t then ad 12 1 else ad 6 i := by
  unfold adT
  by_cases h : i = t
  · rw [if_neg (fun z => absurd z.1 (by decide)), if_pos ⟨rfl, h⟩, if_pos h]
  · rw [if_neg (fun z => absurd z.1 (by decide)), if_neg (fun z => h z.2), if_neg (fun z => absurd z.1 (by decide)), if_neg (fun z => absurd z.1 (by decide)), if_neg h]
/-- the text that was read is taken, a new one is made -/
theorem CR.addText {ad : AD} {x : Nat} {S S' : HSt} {σ : Sg} (h : CR ad x S σ) (h3 : cN σ 3 < 6) (hch : ∀ i, i < cN σ 4 → okN (dD σ 1334 i) (cN σ 3)) (hp2 : ∀ i, i < cN σ 3 → ix (dD σ 1328 (3 * i + 2)) ≤ 160) {op vl : Nat → Int32} {L : List (Int32 × Int32)} {p1 : Nat} (hL : L.length ≤ 160) (hf : fitL L op vl) (l1 : gI S 1101 (ad 12 0) = nI p1) (l2 : gI S 1102 (ad 12 0) = nI L.length) (l3 : ∀ j, j < L.length → gA S 251 (ad 12 1) j = encO (gtL L j).1 (gtL L j).2) {a b : Nat} (ha : gK S a = 0) (hb : gK S b = 0) (e : Ey S S') (t0 : gI S 600 (ad 10 10) = 0) (g3 : gI S' 1210 x = nI (cN σ 3 + 1)) (gb : ∀ j, gB S' 900 (ad 10 3) j = if j = cN σ 3 then some (ad 12 0) else gB S 900 (ad 10 3) j) (s1 : gR S' 1217 x = some a) (s2 : gK S' a = 11) (s3 : gR S' 1103 a = some b) (s4 : gK S' b = 251) (s5 : gN S' b = 160) (s6 : gI S' 1100 a = nI (cN σ 3 + 1)) : CR (adT ad (cN σ 3) a b) x S' (stT σ op vl p1 L.length) := by
  obtain ⟨yF, yP, yS, yO, yR, yT, yH, yE⟩ := h.ey e
  obtain ⟨hF, hC, hP, hS, hO, hR, hT, hX, hH, hE⟩ := h
  have hx := k0 hF.2.1
  have r3 := k0 (hF.f 1203 3 900 6).2.1
  have r10 := k0 (hF.o 1216 10 6).2
  obtain ⟨x1, x2, x3, x4, x5, x6⟩ := hX.2.1
  refine ⟨yF, ?_, yP, yS, yO, yR, fun k hk => absurd hk (Nat.not_lt_zero k), ⟨fun i hi => ?_, ⟨s1, s2, s3, s4, s5, s6⟩, fun i hi => ?_⟩, ⟨fun i hi => ?_, yH.2⟩, yE⟩
  · obtain ⟨c0, c1, c2, c3, c4, c5, c6⟩ := hC
    exact ⟨(e.i hx _).trans c0, (e.i hx _).trans c1, (e.i hx _).trans c2, g3, (e.i hx _).trans c4, (e.i r10 _).trans t0, (e.i hx _).trans c6⟩
  · have hi : i < cN σ 3 + 1 := hi
    rw [adT_5, adT_6, st_1328, st_1328]
    show gB S' 900 (ad 10 3) i = _ ∧ _
    rw [gb]
    by_cases q : i = cN σ 3
    · subst q
      rw [if_pos rfl, if_pos rfl, if_pos rfl, if_neg (by omega), if_pos rfl, if_neg (by omega), if_neg (by omega), if_pos rfl]
      refine ⟨rfl, (e.k (k0 x2)).trans x2, (e.r (k0 x2) _).trans x3, (e.k (k0 x4)).trans x4, (e.n (k0 x4)).trans x5, (e.i (k0 x2) _).trans x6, (e.i (k0 x2) _).trans l1, (e.i (k0 x2) _).trans l2, fun j hj => ?_⟩
      have hj : j < L.length := by
        have e2 : ix (nI L.length) = L.length := ix_nI (by omega)
        rw [e2] at hj; exact hj
      rw [st_1326, st_1327, if_pos (by omega), if_pos (by omega), show 160 * cN σ 3 + j - 160 * cN σ 3 = j by omega, (hf j hj).1, (hf j hj).2]
      exact (e.a (k0 x4) _ _).trans (l3 j hj)
    · have hlt : i < cN σ 3 := by omega
      rw [if_neg q, if_neg q, if_neg q, if_neg (by omega), if_neg (by omega), if_neg (by omega), if_neg (by omega), if_neg (by omega), if_neg (by omega)]
      obtain ⟨a1, a2, a3, a4, a5, a6, a7, a8, a9⟩ := hX.1 i hlt
      have u := k0 a2; have v := k0 a4
      refine ⟨a1, (e.k u).trans a2, (e.r u _).trans a3, (e.k v).trans a4, (e.n v).trans a5, (e.i u _).trans a6, (e.i u _).trans a7, (e.i u _).trans a8, fun j hj => ?_⟩
      rw [st_1326, st_1327]
      have := hp2 i hlt
      rw [if_neg (by omega), if_neg (by omega)]; exact (e.a v _ _).trans (a9 j hj)
  · have hi : i < cN σ 3 + 1 := hi
    rw [adT_6]
    show _ ≠ b
    intro z
    by_cases q : i = cN σ 3
    · rw [if_pos q] at z
      rw [z] at x4; rw [x4] at hb; exact absurd hb (by decide)
    · rw [if_neg q] at z
      have a4 := (hX.1 i (by omega)).2.2.2.1
      rw [z] at a4; rw [a4] at hb; exact absurd hb (by decide)
  · have hi : i < cN σ 4 := hi
    have ok := hch i hi
    have := okN_lt ok (by omega)
    obtain ⟨a1, a2, a3, a4, a5, a6, a7, a8⟩ := yH.1 i hi
    have e5 : adT ad (cN σ 3) a b 5 (ix (dD σ 1334 i)) = ad 5 (ix (dD σ 1334 i)) := by rw [adT_5, if_neg (by omega)]
    exact ⟨a1, a2, a3, a4, a5, a6, by show _ = some (adT ad (cN σ 3) a b 5 (ix (dD σ 1334 i))); rw [e5]; exact a7, a8⟩
theorem c_textP {ad : AD} {x : Nat} {S : HSt} {σ : Sg} (h : CR ad x S σ) (h3 : cN σ 3 ≤ 6) (h5 : cN σ 5 ≤ 160) (hch : ∀ i, i < cN σ 4 → okN (dD σ 1334 i) (cN σ 3)) (hp2 : ∀ i, i < cN σ 3 → ix (dD σ 1328 (3 * i + 2)) ≤ 160) {Post : Int32 → HSt → Prop} (hP : ∀ r S', ((cN σ 3 = 6 → r = -4 ∧ ∃ ad', CR ad' x S' σ) ∧ (cN σ 3 < 6 → ¬ okTx σ → r = -100 - nI (PS σ (cN σ 5) (rd2 (tT σ)).1) ∧ ∃ ad', CR ad' x S' (sN σ 5 0)) ∧ (cN σ 3 < 6 → okTx σ → r = nI (cN σ 3) ∧ ∀ op vl, fitL (rd2 (tT σ)).2.1 op vl → ∃ ad', CR ad' x S' (stT σ op vl (rd1 (tT σ)).2.1.length (rd2 (tT σ)).2.1.length))) → Post r S') : wp_X11_text x S Post := by
  have hc : gI S 1210 x = nI (cN σ 3) := h.2.1.2.2.2.1
  obtain ⟨N, hN⟩ := NT_ex (dD σ 1323) (cN σ 5)
  have H : HC σ N := ⟨h5, h3, hN⟩
  have hPl : PS σ (cN σ 5) (rd2 (tT σ)).1 ≤ cN σ 5 := plN_le _
  unfold wp_X11_text
  rw [hc]
  have hlt := nI_ltI (a := cN σ 3) (b := 6) (by omega) (by decide)
  refine ⟨fun lt => ?_, fun nl => hP _ _ ⟨fun _ => ⟨rfl, ad, h⟩, fun z => absurd (hlt.mpr z) nl, fun z => absurd (hlt.mpr z) nl⟩⟩
  have lt' := hlt.mp lt
  obtain ⟨y1, y2⟩ := h.1.o 1216 10 6
  obtain ⟨x1, x2, x3, x4, x5, x6⟩ := h.2.2.2.2.2.2.2.1.2.1
  refine ⟨_, y1, _, x1, y2, x2, c_read H h (fun S9 c9 w9 => ⟨_, (c9.1.o 1216 10 6).1, (c9.1.o 1216 10 6).2, fun S15 e15 => ?_⟩)⟩
  have c15 : CR ad x S15 (sN σ 5 0) := by rw [e15]; exact c9.tape0
  by_cases ok : okTx σ
  · rw [if_pos ok]
    obtain ⟨L1, L2, q1, q2, q3, q4, q5, q6⟩ := rd_s h5 ok
    rw [← q2] at q6
    obtain ⟨w1, w2, w3⟩ := w9 ok
    obtain ⟨t1, t2, t3⟩ := c15.1.f 1203 3 900 6
    obtain ⟨z1, z2, z3, z4, z5, z6⟩ := c15.2.2.2.2.2.2.2.1.2.1
    have g15 : gI S15 1210 x = nI (cN σ 3) := c15.2.1.2.2.2.1
    refine ⟨fun _ => ⟨_, t1, _, z1, t2, by rw [g15, t3]; exact vp_in_nI lt' (by decide), z2, fun S25 e25 S28 e28 a ha S33 e33 b hb S3 e3 => ⟨?_, fun S7 e7 S10 e10 S39 e39 => ?_⟩⟩, fun z => absurd rfl z⟩
    · rw [e3, e33]
      simp [gR, nA, nO, cl2]
    rw [g15, nI_clamp (by omega)] at e25
    have g25 : gI S25 1210 x = nI (cN σ 3) := by rw [e25]; exact g15
    rw [g25, nI_1] at e28
    have ha15 : gK S15 a = 0 := by rw [e28, e25] at ha; exact ha
    have hab : b ≠ a := by
      intro z
      rw [z, e33] at hb
      have : gK (nO S28 11 a) a = 11 := gK_nO rfl
      rw [this] at hb; exact absurd hb (by decide)
    have hb28 : gK S28 b = 0 := by
      rw [e33] at hb
      have : gK (nO S28 11 a) b = gK S28 b := by simp only [gK, nO, va_up, if_neg hab]
      rw [this] at hb; exact hb
    have hb15 : gK S15 b = 0 := by rw [e28, e25] at hb28; exact hb28
    have kx : gK S15 x ≠ 0 := k0 c15.1.2.1
    have hxa : x ≠ a := fun z => kx (z ▸ ha15)
    have hxb : x ≠ b := fun z => kx (z ▸ hb15)
    have g33 : gI S33 1210 x = nI (cN σ 3 + 1) := by
      rw [e33]
      have : gI (nO S28 11 a) 1210 x = gI S28 1210 x := by simp only [gI, nO, cl2, if_neg hxa]
      rw [this, e28, gI_same, if_pos rfl]
    rw [g33] at e10
    have p39 : ∀ f c, gI S39 f c = if f = 1100 ∧ c = a then nI (cN σ 3 + 1) else gI S33 f c := by
      intro f c
      rw [e39]; show gI S10 f c = _; rw [e10, gI_uI, e7, e3]; rfl
    have p33 : ∀ f c, c ≠ a → gI S33 f c = gI S28 f c := by
      intro f c hca
      rw [e33]; simp only [gI, nO, cl2, if_neg hca]
    have p28 : ∀ f c, f ≠ 1210 → gI S28 f c = gI S15 f c := by
      intro f c hf
      rw [e28, gI_uI, if_neg (fun z => hf z.1), e25]; rfl
    have r39 : ∀ f c, gR S39 f c = if f = 1217 ∧ c = x then some a else if f = 1103 ∧ c = a then some b else gR S33 f c := by
      intro f c
      rw [e39, gR_uR]
      by_cases z : f = 1217 ∧ c = x
      · rw [if_pos z, if_pos z]
      · rw [if_neg z, if_neg z, e10]
        show gR S7 f c = _
        rw [e7, gR_uR, e3]; rfl
    have r33 : ∀ f c, c ≠ a → gR S33 f c = gR S15 f c := by
      intro f c hca
      rw [e33]
      have : gR (nO S28 11 a) f c = gR S28 f c := by simp only [gR, nO, cl2, if_neg hca]
      rw [this, e28, e25]; rfl
    have k39 : ∀ c, gK S39 c = if c = b then 251 else if c = a then 11 else gK S15 c := by
      intro c
      rw [e39, e10, e7, e3]
      show va_up (gK S33) b 251 c = _
      by_cases z : c = b
      · rw [z, va_up_self, if_pos rfl]
      · rw [va_up_ne _ _ z, if_neg z, e33]
        show va_up (gK S28) a 11 c = _
        by_cases w : c = a
        · rw [w, va_up_self, if_pos rfl]
        · rw [va_up_ne _ _ w, if_neg w, e28, e25]; rfl
    have n39 : ∀ c, gN S39 c = if c = b then 160 else gN S15 c := by
      intro c
      rw [e39, e10, e7, e3]
      show va_up (gN S33) b 160 c = _
      by_cases z : c = b
      · rw [z, va_up_self, if_pos rfl]
      · rw [va_up_ne _ _ z, if_neg z, e33, e28, e25]; rfl
    have a39 : ∀ k c, c ≠ b → gA S39 k c = gA S15 k c := by
      intro k c hcb
      rw [e39, e10, e7, e3]
      have : gA (nA S33 251 b 160) k c = gA S33 k c := by simp only [gA, nA, cl2, if_neg hcb]
      show gA (nA S33 251 b 160) k c = _
      rw [this, e33, e28, e25]; rfl
    have b39 : ∀ k c, c ≠ b → gB S39 k c = gB S25 k c := by
      intro k c hcb
      rw [e39, e10, e7, e3]
      have : gB (nA S33 251 b 160) k c = gB S33 k c := by simp only [gB, nA, cl2, if_neg hcb]
      show gB (nA S33 251 b 160) k c = _
      rw [this, e33, e28]; rfl
    have ey : Ey S15 S39 := by
      intro c hc
      have hca : c ≠ a := fun z => hc (z ▸ ha15)
      have hcb : c ≠ b := fun z => hc (z ▸ hb15)
      refine ⟨by rw [k39, if_neg hcb, if_neg hca], by rw [n39, if_neg hcb], fun f hf => ?_, fun f hf => ?_, fun k => a39 k c hcb, fun k hk => ?_⟩
      · rw [p39, if_neg (fun z => hca z.2), p33 f c hca, p28 f c hf]
      · rw [r39, if_neg (fun z => hf z.1), if_neg (fun z => hca z.2), r33 f c hca]
      · rw [b39 k c hcb, e25]
        funext j
        exact gB_uBn (fun z => hk z.1)
    have ka3 : gK S15 (ad 10 3) ≠ 0 := k0 t2
    refine hP _ _ ⟨fun z => absurd z (by omega), fun _ nk => absurd ok nk, fun _ _ => ⟨?_, fun op vl hf => ⟨adT ad (cN σ 3) a b, ?_⟩⟩⟩
    · rw [p39, if_neg (fun z => hxa z.2), g33]; exact nI_pred _
    · have w1' : gI S15 1101 (ad 12 0) = nI (rd1 (tT σ)).2.1.length := by rw [e15]; exact w1
      have w2' : gI S15 1102 (ad 12 0) = nI (rd2 (tT σ)).2.1.length := by rw [e15]; exact w2
      have w3' : ∀ j, j < (rd2 (tT σ)).2.1.length → gA S15 251 (ad 12 1) j = encO (gtL (rd2 (tT σ)).2.1 j).1 (gtL (rd2 (tT σ)).2.1 j).2 := by rw [e15]; exact w3
      have key := CR.addText (op := op) (vl := vl) c15 lt' hch hp2 q6 hf w1' w2' w3' ha15 hb15 ey (by rw [e15, gI_same, if_pos rfl]) (by rw [p39, if_neg (fun z => hxa z.2), g33]; rfl) (fun j => ?_) (by rw [r39, if_pos ⟨rfl, rfl⟩]) (by rw [k39, if_neg (fun z => hab z.symm), if_pos rfl]) (by rw [r39, if_neg (fun z => absurd z.1 (by decide)), if_pos ⟨rfl, rfl⟩]) (by rw [k39, if_pos rfl]) (by rw [n39, if_pos rfl]) (by rw [p39, if_pos ⟨rfl, rfl⟩]; rfl)
      · exact key
      · rw [b39 900 (ad 10 3) (fun z => ka3 (by rw [z]; exact hb15)), e25, gB_uB, if_pos ⟨rfl, rfl⟩]; rfl
  · rw [if_neg ok]
    have ne : ¬ nI (PS σ (cN σ 5) (rd2 (tT σ)).1) = -1 := by
      intro q
      have e9 := nI_toInt (n := PS σ (cN σ 5) (rd2 (tT σ)).1) (by omega)
      rw [q] at e9
      have e1 : (-1 : Int32).toInt = -1 := by decide
      omega
    exact ⟨fun q => absurd q ne, fun _ => hP _ _ ⟨fun z => absurd z (by omega), fun _ _ => ⟨rfl, ad, c15⟩, fun _ k => absurd k ok⟩⟩
theorem c_text {ad : AD} {x : Nat} {S : HSt} {σ : Sg} (h : CR ad x S σ) (h3 : cN σ 3 ≤ 6) (h5 : cN σ 5 ≤ 160) (hch : ∀ i, i < cN σ 4 → okN (dD σ 1334 i) (cN σ 3)) (hp2 : ∀ i, i < cN σ 3 → ix (dD σ 1328 (3 * i + 2)) ≤ 160) : wp_X11_text x S (fun r S' => (cN σ 3 = 6 → r = -4 ∧ ∃ ad', CR ad' x S' σ) ∧ (cN σ 3 < 6 → ¬ okTx σ → r = -100 - nI (PS σ (cN σ 5) (rd2 (tT σ)).1) ∧ ∃ ad', CR ad' x S' (sN σ 5 0)) ∧ (cN σ 3 < 6 → okTx σ → r = nI (cN σ 3) ∧ ∀ op vl, fitL (rd2 (tT σ)).2.1 op vl → ∃ ad', CR ad' x S' (stT σ op vl (rd1 (tT σ)).2.1.length (rd2 (tT σ)).2.1.length))) := c_textP h h3 h5 hch hp2 (fun _ _ q => q)
