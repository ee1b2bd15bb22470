/-! the class's side of the search -/
def CB (ad : AD) (σ : Sg) (dep : Nat) (S : HSt) (B : BB) : Prop := gI S 700 (ad 10 8) = B.1 ∧ (gJ S 701 (ad 10 8) = B.2.1 ∧ gI S 702 (ad 10 8) = B.2.2.1) ∧ (∀ i, i < ix B.1 → gA S 256 (ad 10 13) i = B.2.2.2 i) ∧ (∃ b, b ≤ 3 ∧ B.1 = nI b) ∧ gI S 706 (ad 10 8) = nI (cN σ 2) ∧ gI S 707 (ad 10 8) = nI dep
def CTr (ad : AD) (S : HSt) (n : Nat) (tr : Nat → Int32) : Prop := ∀ i, i < n → gA S 257 (ad 10 14) i = tr i
theorem CB.rk {ad : AD} {σ : Sg} {dep : Nat} {S : HSt} {B : BB} (h : CB ad σ dep S B) (r s o p : Nat) (t : Int32) (hne : ad 10 8 ≠ r) : CB ad σ dep (rkS σ S r s o p t) B := by
  obtain ⟨b1, ⟨b2, b2'⟩, b3, b4, b5, b6⟩ := h
  refine ⟨b1, ⟨?_, b2'⟩, b3, b4, b5, b6⟩
  refine Eq.trans ?_ b2
  simp [rkS, gJ, uI, uJ, up2]
theorem c_tried {ad : AD} {x : Nat} {S : HSt} {σ : Sg} (h : CR ad x S σ) {n k : Nat} (hn : n ≤ 3) {tr : Nat → Int32} (hT : CTr ad S n tr) {Post : Int32 → HSt → Prop} (h1 : tri tr n k → Post 1 S) (h0 : ¬ tri tr n k → Post 0 S) : wp_X6_isTried (ad 10 8) (nI k) (nI n) S Post := by
  obtain ⟨q1, q2, q3⟩ := h.1.g 704 8 14 257 3
  refine ⟨n + 1, ?_⟩
  have key : ∀ (r j : Nat), j + r = n → (∀ i, i < j → tr i ≠ nI k) → lp_X6_isTried_2a (nI n) (ad 10 8) (nI k) (fun _ S13 => Post 0 S13) (fun _ S15 => Post 1 S15) (r + 1) (nI j) S := by
    intro r
    induction r with
    | zero =>
      intro j hj hv0
      have : j = n := by omega
      subst this
      exact ⟨fun _ => h0 (fun ⟨i, i1, i2⟩ => hv0 i i1 i2), fun z => absurd (Int32.le_refl _) z⟩
    | succ r ih =>
      intro j hj hv0
      refine ⟨fun z => absurd z (nI_ge (by omega) (by omega)), fun _ => ⟨_, q1, q2, by rw [q3]; exact vp_in_nI (by omega) (by decide), fun ne v11 e11 => ?_, fun eq => ?_⟩⟩
      · rw [nI_1] at e11
        subst e11
        rw [nI_clamp (by omega), hT j (by omega)] at ne
        refine ih (j + 1) (by omega) (fun i hi => ?_)
        by_cases e : i = j
        · subst e; exact ne
        · exact hv0 i (by omega)
      · rw [nI_clamp (by omega), hT j (by omega)] at eq
        exact h1 ⟨j, by omega, eq⟩
  exact key n 0 (by omega) (fun i hi => absurd hi (Nat.not_lt_zero i))
theorem c_keep {ad : AD} {x : Nat} {S : HSt} {σ : Sg} (h : CR ad x S σ) {dep n : Nat} (hn : n ≤ 3) {B : BB} (hB : CB ad σ dep S B) {tr : Nat → Int32} (hT : CTr ad S n tr) {sum : Int64} {t : Int32} {Post : Unit → HSt → Prop} (hP : ∀ S', CR ad x S' σ → CB ad σ dep S' (kp B tr (nI n) sum t) → CTr ad S' n tr → Post () S') : wp_X6_keepIfBetter (ad 10 8) (nI n) sum t S Post := by
  obtain ⟨b1, ⟨b2, b2'⟩, b3, ⟨b, b4, b4'⟩, b5, b6⟩ := hB
  obtain ⟨p1, p2, p3⟩ := h.1.g 703 8 13 256 3
  obtain ⟨q1, q2, q3⟩ := h.1.g 704 8 14 257 3
  have keep : kpC B (nI n) sum t → ∀ S4, S4 = uI S 700 (ad 10 8) (nI n) → ∀ S7, S7 = uJ S4 701 (ad 10 8) sum → ∀ S10, S10 = uI S7 702 (ad 10 8) t → ∃ b13 : Nat, gR S10 704 (ad 10 8) = some b13 ∧ ∃ b15 : Nat, gR S10 703 (ad 10 8) = some b15 ∧ gK S10 b15 = 256 ∧ gK S10 b13 = 257 ∧ (¬ (0 : Int32) < 0 ∧ ¬ (0 : Int32) < 0 ∧ ¬ (nI n) < 0 ∧ ((0 : Int32)).toNatClampNeg + (nI n).toNatClampNeg ≤ gN S10 b13 ∧ ((0 : Int32)).toNatClampNeg + (nI n).toNatClampNeg ≤ gN S10 b15) ∧ ∀ S20 : HSt, S20 = sA S10 256 b15 (va_cpy (gA S10 257 b13) (gA S10 256 b15) ((0 : Int32)).toNatClampNeg ((0 : Int32)).toNatClampNeg (nI n).toNatClampNeg) → Post () S20 := by
    intro hc S4 e4 S7 e7 S10 e10
    subst e4 e7 e10
    have z0 : ((0 : Int32)).toNatClampNeg = 0 := by decide
    refine ⟨_, q1, _, p1, p2, q2, ⟨by decide, by decide, nI_pos (by omega), ?_, ?_⟩, fun S20 e20 => ?_⟩
    · rw [z0, nI_clamp (by omega)]; show 0 + n ≤ gN S (ad 10 14); rw [q3]; omega
    · rw [z0, nI_clamp (by omega)]; show 0 + n ≤ gN S (ad 10 13); rw [p3]; omega
    rw [z0, nI_clamp (by omega)] at e20
    subst e20
    refine hP _ ⟨h.1.ks (Ks.trans (Ks.trans (Ks.trans (Ks_uI rfl) (Ks_uJ rfl)) (Ks_uI rfl)) (Ks_sA rfl)) (fun _ _ => rfl), h.2⟩ ?_ (fun i hi => by rw [gA_sA, if_neg (fun z => absurd z.1 (by decide))]; exact hT i hi)
    unfold kp
    rw [if_pos hc]
    refine ⟨?_, ⟨?_, ?_⟩, fun i hi => ?_, ⟨n, hn, rfl⟩, b5, b6⟩
    · show gI (uI (uJ (uI S 700 (ad 10 8) (nI n)) 701 (ad 10 8) sum) 702 (ad 10 8) t) 700 (ad 10 8) = nI n
      simp [gI_uI, gI_uJ]
    · simp [gJ, uI, uJ, up2, sA]
    · show gI (uI (uJ (uI S 700 (ad 10 8) (nI n)) 701 (ad 10 8) sum) 702 (ad 10 8) t) 702 (ad 10 8) = t
      simp [gI_uI, gI_uJ]
    · have hi' : i < n := by rw [show ix (nI n, sum, t, tr).1 = n from ix_nI (by omega)] at hi; exact hi
      rw [gA_sA, if_pos ⟨rfl, rfl⟩, pk_cpy_in (Nat.zero_le i) (by omega)]
      show gA S 257 (ad 10 14) (0 + (i - 0)) = tr i
      rw [Nat.zero_add, Nat.sub_zero]; exact hT i hi'
  have pass : ¬ kpC B (nI n) sum t → Post () S := fun hc => hP S h (by unfold kp; rw [if_neg hc]; exact ⟨b1, ⟨b2, b2'⟩, b3, ⟨b, b4, b4'⟩, b5, b6⟩) hT
  intro v1 e1
  have hg : v1 = gainB B sum t := by rw [e1, b2, b2']; rfl
  rw [b1, hg]
  refine ⟨fun z => keep (Or.inl z), fun nz => ⟨fun gp => keep (Or.inr (Or.inl gp)), fun ng => ⟨fun ne => pass (fun q => q.elim nz (fun q => q.elim ng (fun q => ne q.1))), fun eq => ⟨fun le => pass (fun q => q.elim nz (fun q => q.elim ng (fun q => absurd q.2 (Int32.not_lt.mpr le)))), fun nl => keep (Or.inr (Or.inr ⟨eq, Int32.not_le.mp nl⟩))⟩⟩⟩⟩
def RecC (ad : AD) (x : Nat) (σ : Sg) (s dep d : Nat) : Prop := ∀ (n p : Nat) (h : Int32) (sum : Int64) (S : HSt) (B : BB) (tr : Nat → Int32) (Post : Unit → HSt → Prop), n ≤ dep → dep < n + d → CR ad x S σ → CB ad σ dep S B → CTr ad S n tr → p < cN σ 0 → bet h 0 9999 → (∀ S', CR ad x S' σ → CB ad σ dep S' (exd σ s dep d n p h sum tr B) → CTr ad S' n tr → Post () S') → wp_G2 d (ad 10 8) (ad 2 s) (ad 10 2) (ad 0 p) h sum (nI n) S Post
theorem exL_t {σ : Sg} {s : Nat} {rec : Nat → Nat → Int32 → Int64 → (Nat → Int32) → BB → BB} {n p : Nat} {h : Int32} {sum : Int64} {tr : Nat → Int32} {r k : Nat} {B : BB} (ht : tri tr n k) : exL σ s rec n p h sum tr (r + 1) k B = exL σ s rec n p h sum tr r (k + 1) B := if_pos ht
theorem exL_n {σ : Sg} {s : Nat} {rec : Nat → Nat → Int32 → Int64 → (Nat → Int32) → BB → BB} {n p : Nat} {h : Int32} {sum : Int64} {tr : Nat → Int32} {r k : Nat} {B : BB} (ht : ¬ tri tr n k) (hc : ¬ hiI σ s k p h = 0) : exL σ s rec n p h sum tr (r + 1) k B = exL σ s rec n p h sum tr r (k + 1) B := (if_neg ht).trans (if_neg hc)
theorem c_loop {ad : AD} {x : Nat} {σ : Sg} (hi : Inv σ) {s : Nat} (hs : s < cN σ 1) {dep d n : Nat} (hdep : dep ≤ 3) (hn : n < dep) (hd : dep < n + (d + 1)) (ih : RecC ad x σ s dep d) {p : Nat} {h : Int32} (hp : p < cN σ 0) (hh : bet h 0 9999) {sum : Int64} {tr : Nat → Int32} {K : Int32 → HSt → Prop} : ∀ (r k : Nat) (S : HSt) (B : BB), k + r = cN σ 2 → CR ad x S σ → CB ad σ dep S B → CTr ad S n tr → (∀ w S', CR ad x S' σ → CB ad σ dep S' (exL σ s (exd σ s dep d) n p h sum tr r k B) → CTr ad S' n tr → K w S') → lp_X6_extend_18a (wp_G2 d) (ad 10 8) (ad 10 2) (nI n) (ad 2 s) (ad 0 p) h sum K (r + 1) (nI k) S := by
  have h2 := hi.1.2.2.1
  have h0 := hi.1.1
  intro r
  induction r with
  | zero =>
    intro k S B hk hM hB hT hK
    have : k = cN σ 2 := by omega
    subst this
    have hc := hB.2.2.2.2.1
    exact ⟨fun _ => hK _ S hM hB hT, fun z => absurd (hc ▸ Int32.le_refl _) z⟩
  | succ r ihr =>
    intro k S B hk hM hB hT hK
    have hc := hB.2.2.2.2.1
    have hkl : k < cN σ 2 := by omega
    obtain ⟨q1, q2, q3⟩ := hM.1.f 1202 2 500 10
    obtain ⟨a1, a2, a3, a4, a5, a6, a7, a8, a9⟩ := hM.2.2.2.2.1.1 k hkl
    refine ⟨fun z => ?_, fun _ => ⟨by rw [q3]; exact vp_in_nI (by omega) (by decide), fun v9 e9 => ?_⟩⟩
    · rw [hc] at z; exact absurd z (nI_ge hkl (by omega))
    · rw [nI_clamp (by omega), a1] at e9
      subst e9
      refine ⟨fun z => (by cases z), fun b11 e11 => ?_⟩
      cases e11
      have skip : exL σ s (exd σ s dep d) n p h sum tr (r + 1) k B = exL σ s (exd σ s dep d) n p h sum tr r (k + 1) B → ∀ S', CR ad x S' σ → CB ad σ dep S' B → CTr ad S' n tr → ∀ v13 : Int32, v13 = nI k + 1 → lp_X6_extend_18a (wp_G2 d) (ad 10 8) (ad 10 2) (nI n) (ad 2 s) (ad 0 p) h sum K (r + 1) v13 S' := fun he S' z1 z2 z3 v13 e13 => by
        rw [nI_1] at e13
        subst e13
        rw [he] at hK
        exact ihr (k + 1) S' B (by omega) z1 z2 z3 hK
      refine c_tried hM (by omega) hT (fun ht => ⟨fun z => absurd z (by decide), fun _ => skip (exL_t ht) S hM hB hT⟩) (fun ht => ⟨fun _ => ?_, fun z => absurd rfl z⟩)
      obtain ⟨o1, o2⟩ := hM.1.2.2.2.1 (705, 8, 12, 5) (by decide)
      have hne : ad 10 8 ≠ ad 10 12 := fun z => by
        have k8 := (hM.1.o 1214 8 7).2
        rw [z, show gK S (ad 10 12) = 5 from o2] at k8
        exact absurd k8 (by decide)
      refine ⟨_, o1, o2, a2, c_reckon hM hi hs hkl hp ?_⟩
      have hM2 := hM.rk (ad 10 12) s k p h
      have hB2 := hB.rk (ad 10 12) s k p h hne
      have hT2 : CTr ad (rkS σ S (ad 10 12) s k p h) n tr := hT
      obtain ⟨u1, u2⟩ := hM2.1.2.2.2.1 (705, 8, 12, 5) (by decide)
      have v500 : gI (rkS σ S (ad 10 12) s k p h) 500 (ad 10 12) = hiI σ s k p h := by unfold rkS; rw [gI_same, if_pos rfl]
      have v502 : gI (rkS σ S (ad 10 12) s k p h) 502 (ad 10 12) = enI σ s k p h := by simp [rkS, gI_uI, gI_uJ]
      have v504 : gJ (rkS σ S (ad 10 12) s k p h) 504 (ad 10 12) = eaI σ s k p := by simp [rkS, gJ, uI, uJ, up2]
      have a4' := (hM2.2.2.2.2.1.1 k hkl).2.2.2.1
      have s905 : gI (rkS σ S (ad 10 12) s k p h) 905 (ad 2 s) = dD σ 1306 s := (hM2.2.2.2.1.1 s hs).2.2.2.2.2.2.2.2.2.2.1
      generalize rkS σ S (ad 10 12) s k p h = S24 at hM2 hB2 hT2 u1 u2 v500 v502 v504 a4' s905
      refine ⟨_, u1, u2, fun c => ⟨_, u1, u2, fun v33 e33 => ⟨_, u1, u2, fun v38 e38 => ?_⟩⟩, fun c => ?_⟩
      · rw [show gI S24 500 (ad 10 (705, 8, 12, 5).2.2.1) = hiI σ s k p h from v500] at c
        rw [show gI S24 502 (ad 10 (705, 8, 12, 5).2.2.1) = enI σ s k p h from v502] at e33
        rw [show gJ S24 504 (ad 10 (705, 8, 12, 5).2.2.1) = eaI σ s k p from v504] at e38
        obtain ⟨t1, t2, t3⟩ := hM2.1.g 704 8 14 257 3
        refine ⟨_, t1, t2, by rw [t3]; exact vp_in_nI (by omega) (by decide), fun S44 e44 => ?_⟩
        rw [nI_clamp (by omega)] at e44
        have hM3 : CR ad x S44 σ := by rw [e44]; exact ⟨hM2.1.ks (Ks_uA rfl) (fun _ _ => rfl), hM2.2⟩
        have hB3 : CB ad σ dep S44 B := by
          rw [e44]
          obtain ⟨b1, b2, b3, b4⟩ := hB2
          exact ⟨b1, b2, fun i hi => by rw [gA_uA, if_neg (fun z => absurd z.1 (by decide))]; exact b3 i hi, b4⟩
        have hT3 : CTr ad S44 (n + 1) (upd tr n (nI k)) := fun i hi' => by
          rw [e44, gA_uA, if_pos ⟨rfl, rfl⟩]
          by_cases e : i = n
          · subst e; simp [upd]
          · simp [upd, e]; exact hT2 i (by omega)
        have s905' : gI S44 905 (ad 2 s) = dD σ 1306 s := by rw [e44]; exact s905
        rw [s905', nI_1]
        subst e33 e38
        refine c_keep hM3 (by omega) hB3 hT3 (fun S48 hM4 hB4 hT4 => ?_)
        have a4q := (hM4.2.2.2.2.1.1 k hkl).2.2.2.1
        obtain ⟨f1, f2, -⟩ := hi.2.2.2.2.2.1 k hkl
        have f2' : toN σ k < cN σ 0 := okN_lt f2 (by omega)
        have hen := hi0_bet hi hs hkl (show p < 8 by omega) hh c
        refine ⟨_, a4q, (hM4.2.2.1.1 _ f2').2.1, ih (n + 1) (toN σ k) _ _ S48 _ (upd tr n (nI k)) _ (by omega) (by omega) hM4 hB4 hT4 f2' hen (fun S' z1 z2 z3 v56 e56 => ?_)⟩
        rw [nI_1] at e56
        subst e56
        unfold exL at hK
        rw [if_neg ht, if_pos c] at hK
        exact ihr (k + 1) S' _ (by omega) z1 z2 (fun i hi' => (z3 i (by omega)).trans (by simp [upd, Nat.ne_of_lt hi'])) hK
      · rw [show gI S24 500 (ad 10 (705, 8, 12, 5).2.2.1) = hiI σ s k p h from v500] at c
        exact skip (exL_n ht c) S24 hM2 hB2 hT2
theorem c_extend {ad : AD} {x : Nat} {σ : Sg} (hi : Inv σ) {s : Nat} (hs : s < cN σ 1) {dep : Nat} (hdep : dep ≤ 3) : ∀ d, RecC ad x σ s dep d := by
  intro d
  induction d with
  | zero => intro n p h sum S B tr Post hn hd; omega
  | succ d ih =>
    intro n p h sum S B tr Post hn hd hM hB hT hp hh hP
    have h7 := hB.2.2.2.2.2
    refine ⟨fun z => absurd z (nI_pos (by omega)), fun _ => ⟨fun lt => ?_, fun nl => ?_⟩⟩
    · rw [h7] at lt
      have hlt : n < dep := (nI_ltI (by omega) (by omega)).mp lt
      unfold exd at hP
      rw [if_pos hlt] at hP
      exact ⟨cN σ 2 + 1, c_loop hi hs hdep hlt hd ih hp hh (cN σ 2) 0 S B (by omega) hM hB hT (fun w S' z1 z2 z3 => hP S' z1 z2 z3)⟩
    · rw [h7] at nl
      have hlt : ¬ n < dep := fun z => nl ((nI_ltI (by omega) (by omega)).mpr z)
      unfold exd at hP
      rw [if_neg hlt] at hP
      exact hP S hM hB hT
theorem c_run {ad : AD} {x : Nat} {S : HSt} {σ : Sg} (h : CR ad x S σ) (hi : Inv σ) {s : Nat} (hs : s < cN σ 1) {dep : Nat} (hdep : dep ≤ 3) {Post : Unit → HSt → Prop} (hP : ∀ S', CR ad x S' σ → CB ad σ dep S' (skB σ s dep) → Post () S') : wp_X6_run (ad 10 8) (ad 2 s) (ad 10 2) (nI (cN σ 2)) (nI dep) S Post := by
  have h2 := hi.1.2.2.1
  intro S1 e1 S4 e4 S7 e7 S10 e10 S13 e13
  obtain ⟨q1, q2, q3⟩ := h.1.f 1202 2 500 10
  rw [q3, if_neg (show ¬ nI 10 < nI (cN σ 2) from fun z => by have := (nI_ltI (by decide) (by omega)).mp z; omega)] at e1
  rw [if_neg (show ¬ (3 : Int32) < nI dep from fun z => by have := (nI_ltI (a := 3) (by decide) (by omega)).mp z; omega)] at e4
  have hM : CR ad x S13 σ := by
    rw [e13, e10, e7, e4, e1]
    exact ⟨h.1.ks (Ks.trans (Ks.trans (Ks.trans (Ks.trans (Ks_uI rfl) (Ks_uI rfl)) (Ks_uI rfl)) (Ks_uJ rfl)) (Ks_uI rfl)) (fun _ _ => rfl), h.2⟩
  have hB : CB ad σ dep S13 B0 := by
    rw [e13, e10, e7, e4, e1]
    refine ⟨by simp [gI_uI, gI_uJ, B0], ⟨by simp [gJ, uI, uJ, up2, B0], by simp [gI_uI, gI_uJ, B0]⟩, fun i hi => absurd hi (by decide +revert), ⟨0, by decide, by decide⟩, by simp [gI_uI, gI_uJ], by simp [gI_uI, gI_uJ]⟩
  obtain ⟨a1, a2, a3, a4, a5, a6, a7, a8, a9, b1, b2, -⟩ := hM.2.2.2.1.1 s hs
  obtain ⟨i1, i2, -⟩ := hi.2.2.2.1 s hs
  have hpl : poN σ s < cN σ 0 := okN_lt i1 (by have := hi.1.1; omega)
  refine ⟨_, b1, (hM.2.2.1.1 _ hpl).2.1, ?_⟩
  rw [b2]
  exact c_extend hi hs hdep 5 0 (poN σ s) _ 0 S13 B0 (fun _ => 0) _ (by omega) (by omega) hM hB (fun i hi => absurd hi (Nat.not_lt_zero i)) hpl i2 (fun S' z1 z2 z3 => hP S' z1 z2)
/-! best, chain -/
noncomputable def st_best (σ : Sg) (s d w : Int32) : Int64 := if okN s (cN σ 1) then if 1 ≤ d ∧ d ≤ 3 then if (skB σ (ix s) (ix d)).1 = 0 then NOv else if w = 0 then (skB σ (ix s) (ix d)).2.1 else if w = 1 then (skB σ (ix s) (ix d)).2.2.1.toInt64 else if w = 2 then (skB σ (ix s) (ix d)).1.toInt64 else NOv else NOv else NOv
noncomputable def st_chain (σ : Sg) (s d i : Int32) : Int32 := if okN s (cN σ 1) then if 1 ≤ d ∧ d ≤ 3 then if okN i (ix (skB σ (ix s) (ix d)).1) then (skB σ (ix s) (ix d)).2.2.2 (ix i) else -1 else -2 else -2
theorem in02 {w : Int32} (h : 0 ≤ w ∧ w ≤ 2) (n0 : w ≠ 0) (n1 : w ≠ 1) : w = 2 := by
  obtain ⟨j, hj, rfl⟩ := nI_of2 (M := 2) (n := 2) (by decide) (Int32.not_lt.mpr h.1) h.2
  have : j = 0 ∨ j = 1 ∨ j = 2 := by omega
  rcases this with rfl | rfl | rfl
  · exact absurd rfl n0
  · exact absurd rfl n1
  · rfl
theorem r_best {g : Nat → Nat} {m : Nat} {S : HSt} {σ : Sg} (h : MR g m S σ) (hi : Inv σ) (s d w : Int32) : wp_X12_best g m s d w S (fun r S' => r = st_best σ s d w ∧ MR g m S' σ) := by
  have hs := hi.1.2.1
  unfold wp_X12_best st_best
  refine r_isShip h (by omega) (fun os => bs1 (r_in (fun id => bs1 (r_in (fun iw => br1 ?_) (fun iw => br0 ?_))) (fun id => bs0 ?_))) (fun os => bs0 ?_)
  · obtain ⟨D, hD1, hD2, rfl⟩ := n_of (b := 3) (by decide) id
    rw [if_pos os, if_pos id, ix_nI (by omega)]
    refine r_seeks h hi os hD2 (fun S' h1 hB => ?_)
    obtain ⟨b1, b2, b3, b4⟩ := hB
    rw [b1]
    refine ⟨fun nz => ⟨fun n0 => ⟨fun n1 => ⟨?_, h1⟩, fun e1 => ⟨?_, h1⟩⟩, fun e0 => ⟨?_, h1⟩⟩, fun z => ⟨?_, h1⟩⟩
    · rw [if_neg nz, if_neg n0, if_neg n1, if_pos (in02 iw n0 n1)]
    · rw [if_neg nz, if_neg n0, if_pos e1, (b2 nz).2]
    · rw [if_neg nz, if_pos e0, (b2 nz).1]
    · rw [if_pos z]; rfl
  · rw [if_pos os, if_pos id]
    refine ⟨?_, h⟩
    split
    · rfl
    · rw [if_neg, if_neg, if_neg]
      · rfl
      · intro z; exact iw (by rw [z]; decide)
      · intro z; exact iw (by rw [z]; decide)
      · intro z; exact iw (by rw [z]; decide)
  · rw [if_pos os, if_neg id]; exact ⟨rfl, h⟩
  · rw [if_neg os]; exact ⟨rfl, h⟩
theorem r_chain {g : Nat → Nat} {m : Nat} {S : HSt} {σ : Sg} (h : MR g m S σ) (hi : Inv σ) (s d i : Int32) : wp_X12_chain g m s d i S (fun r S' => r = st_chain σ s d i ∧ MR g m S' σ) := by
  have hs := hi.1.2.1
  unfold wp_X12_chain st_chain
  refine r_isShip h (by omega) (fun os => bs1 (r_in (fun id => br1 ?_) (fun id => br0 ?_))) (fun os => bs0 ?_)
  · obtain ⟨D, hD1, hD2, rfl⟩ := n_of (b := 3) (by decide) id
    rw [if_pos os, if_pos id, ix_nI (by omega)]
    refine r_seeks h hi os hD2 (fun S' h1 hB => ?_)
    obtain ⟨b1, b2, b3, b, b4, b5⟩ := hB
    have hb : ix (skB σ (ix s) D).1 = b := by rw [b5]; exact ix_nI (by omega)
    rw [hb] at b3
    rw [b1, b5, ix_nI (by omega)]
    refine r_cnt0 (by omega) (fun oi => bs1 ⟨okN_in oi b4 (by decide), ?_, h1⟩) (fun ni => bs0 ⟨?_, h1⟩)
    · rw [if_pos oi]; exact b3 _ (okN_lt oi (by omega))
    · rw [if_neg ni]
  · rw [if_pos os, if_neg id]; exact ⟨rfl, h⟩
  · rw [if_neg os]; exact ⟨rfl, h⟩
theorem c_best {ad : AD} {x : Nat} {S : HSt} {σ : Sg} (h : CR ad x S σ) (hi : Inv σ) (s d w : Int32) : wp_X11_best x s d w S (fun r S' => r = st_best σ s d w ∧ ∃ ad', CR ad' x S' σ) := by
  have hs := hi.1.2.1
  unfold wp_X11_best st_best
  refine c_shipAt h hi (fun os => ⟨fun z => (by cases z), fun b4 e4 => c_within (fun id => br1 ?_) (fun id => br0 ?_)⟩) (fun os => ⟨fun _ => ?_, fun b4 e4 => (by cases e4)⟩)
  · cases e4
    obtain ⟨D, hD1, hD2, rfl⟩ := n_of (b := 3) (by decide) id
    have hsl := okN_lt os (by omega)
    rw [if_pos os, if_pos id, ix_nI (by omega)]
    obtain ⟨q1, q2⟩ := h.1.o 1214 8 7
    obtain ⟨p1, p2, p3⟩ := h.1.f 1202 2 500 10
    refine ⟨_, q1, _, p1, q2, (h.2.2.2.1.1 _ hsl).2.1, p2, ?_⟩
    rw [h.2.1.2.2.1]
    refine c_run h hi hsl hD2 (fun S' h1 hB => ?_)
    obtain ⟨b1, ⟨b2, b2'⟩, b3, b4⟩ := hB
    obtain ⟨t1, t2⟩ := h1.1.o 1214 8 7
    refine ⟨_, t1, t2, ?_⟩
    rw [b1]
    refine ⟨fun nz => ⟨fun e0 => ⟨_, t1, t2, ?_, ad, h1⟩, fun n0 => ⟨fun e1 => ⟨_, t1, t2, ?_, ad, h1⟩, fun n1 => ⟨fun e2 => ⟨_, t1, t2, ?_, ad, h1⟩, fun n2 => ⟨?_, ad, h1⟩⟩⟩⟩, fun z => ⟨?_, ad, h1⟩⟩
    · rw [if_neg nz, if_pos e0]; exact b2
    · rw [if_neg nz, if_neg n0, if_pos e1, b2']
    · rw [if_neg nz, if_neg n0, if_neg n1, if_pos e2, b1]
    · rw [if_neg nz, if_neg n0, if_neg n1, if_neg n2]; rfl
    · rw [if_pos z]; rfl
  · rw [if_pos os, if_neg id]; exact ⟨rfl, ad, h⟩
  · rw [if_neg os]; exact ⟨rfl, ad, h⟩
theorem c_chain {ad : AD} {x : Nat} {S : HSt} {σ : Sg} (h : CR ad x S σ) (hi : Inv σ) (s d i : Int32) : wp_X11_chain x s d i S (fun r S' => r = st_chain σ s d i ∧ ∃ ad', CR ad' x S' σ) := by
  have hs := hi.1.2.1
  unfold wp_X11_chain st_chain
  refine c_shipAt h hi (fun os => ⟨fun z => (by cases z), fun b4 e4 => c_within (fun id => br1 ?_) (fun id => br0 ?_)⟩) (fun os => ⟨fun _ => ?_, fun b4 e4 => (by cases e4)⟩)
  · cases e4
    obtain ⟨D, hD1, hD2, rfl⟩ := n_of (b := 3) (by decide) id
    have hsl := okN_lt os (by omega)
    rw [if_pos os, if_pos id, ix_nI (by omega)]
    obtain ⟨q1, q2⟩ := h.1.o 1214 8 7
    obtain ⟨p1, p2, p3⟩ := h.1.f 1202 2 500 10
    refine ⟨_, q1, _, p1, q2, (h.2.2.2.1.1 _ hsl).2.1, p2, ?_⟩
    rw [h.2.1.2.2.1]
    refine c_run h hi hsl hD2 (fun S' h1 hB => ?_)
    obtain ⟨b1, ⟨b2, b2'⟩, b3, ⟨b, b4, b4'⟩, b5⟩ := hB
    have hb : ix (skB σ (ix s) D).1 = b := by rw [b4']; exact ix_nI (by omega)
    rw [hb] at b3
    obtain ⟨t1, t2⟩ := h1.1.o 1214 8 7
    obtain ⟨r1, r2, r3⟩ := h1.1.g 703 8 13 256 3
    refine ⟨_, t1, t2, ?_⟩
    unfold wp_X6_link
    rw [b1, b4', ix_nI (by omega)]
    refine ⟨fun z => ⟨?_, ad, h1⟩, fun nz => ⟨fun le => ⟨?_, ad, h1⟩, fun nl => ⟨_, r1, r2, ?_, ?_, ad, h1⟩⟩⟩
    · rw [if_neg (fun q => q.1 z)]
    · rw [if_neg (fun q => absurd q.2 ((i_nlt _ _).mpr le))]
    · rw [r3]; exact okN_in (n := b) ⟨nz, (i_nle _ _).mp nl⟩ b4 (by decide)
    · have oi : okN i b := ⟨nz, (i_nle _ _).mp nl⟩
      rw [if_pos oi]; exact b3 _ (okN_lt oi (by omega))
  · rw [if_pos os, if_neg id]; exact ⟨rfl, ad, h⟩
  · rw [if_neg os]; exact ⟨rfl, ad, h⟩
