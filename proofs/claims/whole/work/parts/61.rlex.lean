/-! the reference reads tokens -/
def RP (g : Nat → Nat) (m : Nat) (σ : Sg) (z : Nat) (S : HSt) : Prop := (MR g m S σ ∧ ∀ i, gA S 228 (g 1328) i = dD σ 1328 i) ∧ gI S 1350 m = nI z ∧ gI S 1351 m = nI (cN σ 3)
def Fx (m : Nat) (S S' : HSt) : Prop := gA S' = gA S ∧ ∀ f, f ≠ 1352 → f ≠ 1353 → f ≠ 1354 → f ≠ 1355 → gI S' f m = gI S f m
theorem Fx.rf {m : Nat} {S : HSt} : Fx m S S := ⟨rfl, fun _ _ _ _ _ => rfl⟩
theorem Fx.tr {m : Nat} {S1 S2 S3 : HSt} (h1 : Fx m S1 S2) (h2 : Fx m S2 S3) : Fx m S1 S3 := ⟨h2.1.trans h1.1, fun f a b c d => (h2.2 f a b c d).trans (h1.2 f a b c d)⟩
theorem Fx.u {m : Nat} {S S1 : HSt} (h : Fx m S S1) (f : Nat) (v : Int32) (hf : f = 1352 ∨ f = 1353 ∨ f = 1354 ∨ f = 1355) : Fx m S (uI S1 f m v) := ⟨h.1, fun k a b c d => by
  rw [gI_uI, if_neg]
  · exact h.2 k a b c d
  · intro q
    rcases hf with r | r | r | r <;> omega⟩
theorem RP.u {g : Nat → Nat} {m : Nat} {σ : Sg} {z : Nat} {S : HSt} (h : RP g m σ z S) (f : Nat) (v : Int32) (hf : f ≠ 1350) (hg : f ≠ 1351) (hc : ∀ q ∈ mcnt, q.1 ≠ f := by decide) : RP g m σ z (uI S f m v) := ⟨⟨h.1.1.pI0 f v hc, h.1.2⟩, by rw [gI_uI, if_neg (fun q => hf q.1.symm)]; exact h.2.1, by rw [gI_uI, if_neg (fun q => hg q.1.symm)]; exact h.2.2⟩
theorem r_byteAt {g : Nat → Nat} {m : Nat} {σ : Sg} {z : Nat} {S : HSt} (h : RP g m σ z S) (hz : z ≤ 160) {i : Nat} (hi : i < 2 ^ 31) {Post : Int32 → HSt → Prop} (hp : Post (bA (dD σ 1323) z i) S) : wp_X12_byteAt g m (nI i) S Post := by
  unfold wp_X12_byteAt
  rw [h.2.1]
  refine ⟨fun le => ?_, fun nl => ?_⟩
  · rw [nI_leI (by omega) hi] at le
    rw [bA_ge le] at hp; exact hp
  · rw [nI_leI (by omega) hi] at nl
    refine ⟨vp_in_nI (by omega) (by decide), ?_⟩
    rw [nI_clamp hi, h.1.1.a 1323 223]
    rw [bA_lt (by omega)] at hp; exact hp
theorem r_isLetter {b : Int32} {S : HSt} {Post : Int32 → HSt → Prop} (h1 : kdB b = 1 → Post 1 S) (h0 : ¬ kdB b = 1 → Post 0 S) : wp_X12_isLetter b S Post :=
  ⟨fun h => h0 (fun z => absurd (kd_1.mp z).1 ((i_nle _ _).mpr h)), fun h => ⟨fun h' => h0 (fun z => absurd (kd_1.mp z).2 ((i_nle _ _).mpr h')), fun h' => h1 (kd_1.mpr ⟨(i_nlt _ _).mp h, (i_nlt _ _).mp h'⟩)⟩⟩
theorem r_isDigit {b : Int32} {S : HSt} {Post : Int32 → HSt → Prop} (h1 : kdB b = 2 → Post 1 S) (h0 : ¬ kdB b = 2 → Post 0 S) : wp_X12_isDigit b S Post :=
  ⟨fun h => h0 (fun z => absurd (kd_2.mp z).1 ((i_nle _ _).mpr h)), fun h => ⟨fun h' => h0 (fun z => absurd (kd_2.mp z).2 ((i_nle _ _).mpr h')), fun h' => h1 (kd_2.mpr ⟨(i_nlt _ _).mp h, (i_nlt _ _).mp h'⟩)⟩⟩
theorem r_skip {g : Nat → Nat} {m : Nat} {σ : Sg} {z : Nat} (hz : z ≤ 160) {K : HSt → Prop} : ∀ (n p : Nat) (S : HSt), p + n = z → RP g m σ z S → gI S 1352 m = nI p → (∀ S', RP g m σ z S' → Fx m S S' → gI S' 1352 m = nI (sk (dD σ 1323) z p) → K S') → lp_X12_next_0a g m K (n + 1) S := by
  intro n
  induction n with
  | zero =>
    intro p S e hR he hK
    unfold lp_X12_next_0a
    rw [he]
    have hb : bA (dD σ 1323) z p = -1 := bA_ge (by omega)
    have ex : K S := hK S hR Fx.rf (by rw [he]; unfold sk; rw [Rn_z (by omega)])
    refine r_byteAt hR hz (by omega) ⟨fun q => ?_, fun _ => ?_⟩
    · rw [hb] at q; exact absurd q (by decide)
    · rw [he]
      refine r_byteAt hR hz (by omega) ⟨fun _ => ex, fun q => ?_⟩
      rw [hb] at q; exact absurd q (by decide)
  | succ n ih =>
    intro p S e hR he hK
    have step : kdB (bA (dD σ 1323) z p) = 3 → ∀ S8 : HSt, S8 = uI S 1352 m (nI p + 1) → lp_X12_next_0a g m K (n + 1) S8 := by
      intro h3 S8 e8
      have h8 : RP g m σ z S8 := by rw [e8]; exact hR.u 1352 _ (by decide) (by decide)
      have f8 : Fx m S S8 := by rw [e8]; exact Fx.rf.u 1352 _ (Or.inl rfl)
      refine ih (p + 1) S8 (by omega) h8 (by rw [e8, gI_same, if_pos rfl, nI_1]) (fun S' k1 k2 k3 => hK S' k1 (f8.tr k2) ?_)
      rw [k3]; unfold sk; rw [Rn_y (i := p) (by omega) h3]
    unfold lp_X12_next_0a
    rw [he]
    refine r_byteAt hR hz (by omega) ⟨fun q S8 e8 => step (kd_3.mpr (Or.inl q)) S8 (by rw [e8, he]), fun n32 => ?_⟩
    rw [he]
    refine r_byteAt hR hz (by omega) ⟨fun n10 => ?_, fun q S8 e8 => step (kd_3.mpr (Or.inr q)) S8 (by rw [e8, he])⟩
    refine hK S hR Fx.rf ?_
    rw [he]; unfold sk
    rw [Rn_n (fun q => (kd_3.mp q).elim n32 n10)]
/-- what is read behind p -/
def RD (B : Nat → Int32) (z p m : Nat) (S : HSt) : Prop := gI S 1353 m = nI (sk B z p) ∧ gI S 1352 m = nI (nxS B z p) ∧ gI S 1354 m = rtk (if sk B z p < z then tkO B z (sk B z p) (eO B z (sk B z p)) else -26) ∧ (isV (if sk B z p < z then tkO B z (sk B z p) (eO B z (sk B z p)) else -26) → gI S 1355 m = tld (if sk B z p < z then tkO B z (sk B z p) (eO B z (sk B z p)) else -26))
theorem r_number {g : Nat → Nat} {m : Nat} {σ : Sg} {z : Nat} (hz : z ≤ 160) {b : Nat} {K : HSt → Prop} : ∀ (n q : Nat) (S : HSt), q + n = z → b ≤ q → RP g m σ z S → gI S 1352 m = nI q → gI S 1353 m = nI b → gI S 1355 m = numF (dD σ 1323) z (min (q - b) 4) b 0 → (∀ S', RP g m σ z S' → Fx m S S' → gI S' 1352 m = nI (Rn (dD σ 1323) z 2 q) → gI S' 1353 m = nI b → gI S' 1355 m = numF (dD σ 1323) z (min (Rn (dD σ 1323) z 2 q - b) 4) b 0 → K S') → lp_X12_number_5a g m K (n + 1) S := by
  intro n
  induction n with
  | zero =>
    intro q S e hb hR h2 h3 h5 hK
    unfold lp_X12_number_5a
    rw [h2]
    refine r_byteAt hR hz (by omega) (r_isDigit (fun k => ?_) (fun k => bs0 (hK S hR Fx.rf ?_ h3 ?_)))
    · rw [bA_ge (by omega), kd_m1] at k; exact absurd k (by decide)
    · rw [Rn_z (by omega)]; exact h2
    · rw [Rn_z (by omega)]; exact h5
  | succ n ih =>
    intro q S e hb hR h2 h3 h5 hK
    unfold lp_X12_number_5a
    rw [h2]
    refine r_byteAt hR hz (by omega) (r_isDigit (fun k => bs1 ?_) (fun k => bs0 (hK S hR Fx.rf ?_ h3 ?_)))
    · rw [h2, h3, nI_sub hb]
      refine ⟨fun ge S15 e15 S18 e18 => ?_, fun ng => ?_⟩
      · rw [show (4 : Int32) = nI 4 from rfl, nI_leI (by decide) (by omega)] at ge
        have x2 : gI S18 1352 m = nI (q + 1) := by
          rw [e18, gI_same, if_pos rfl, e15]
          show gI S 1352 m + 1 = _
          rw [h2, nI_1]
        have x3 : gI S18 1353 m = nI b := by rw [e18, e15]; exact h3
        have x5 : gI S18 1355 m = gI S 1355 m := by
          rw [e18, e15]
          show gI (uI S 1355 m (gI S 1355 m)) 1355 m = _
          rw [gI_same, if_pos rfl]
        have hR' : RP g m σ z S18 := by rw [e18, e15]; exact (hR.u 1355 _ (by decide) (by decide)).u 1352 _ (by decide) (by decide)
        have hF : Fx m S S18 := by rw [e18, e15]; exact (Fx.rf.u 1355 _ (by decide)).u 1352 _ (by decide)
        refine ih (q + 1) S18 (by omega) (by omega) hR' x2 x3 ?_ (fun S' k1 k2 k3 k4 k5 => hK S' k1 (hF.tr k2) ?_ k4 ?_)
        · rw [x5, h5]; congr 1; omega
        · rw [Rn_y (i := q) (by omega) k]; exact k3
        · rw [Rn_y (i := q) (by omega) k]; exact k5
      · rw [show (4 : Int32) = nI 4 from rfl, nI_leI (by decide) (by omega)] at ng
        refine r_byteAt hR hz (by omega) (fun S24 e24 S27 e27 => ?_)
        have x2 : gI S27 1352 m = nI (q + 1) := by
          rw [e27, gI_same, if_pos rfl, e24]
          show gI S 1352 m + 1 = _
          rw [h2, nI_1]
        have x3 : gI S27 1353 m = nI b := by rw [e27, e24]; exact h3
        have x5 : gI S27 1355 m = 10 * gI S 1355 m + bA (dD σ 1323) z q - 48 := by
          rw [e27, e24]
          show gI (uI S 1355 m _) 1355 m = _
          rw [gI_same, if_pos rfl]
        have hR' : RP g m σ z S27 := by rw [e27, e24]; exact (hR.u 1355 _ (by decide) (by decide)).u 1352 _ (by decide) (by decide)
        have hF : Fx m S S27 := by rw [e27, e24]; exact (Fx.rf.u 1355 _ (by decide)).u 1352 _ (by decide)
        refine ih (q + 1) S27 (by omega) (by omega) hR' x2 x3 ?_ (fun S' k1 k2 k3 k4 k5 => hK S' k1 (hF.tr k2) ?_ k4 ?_)
        · rw [x5, h5, show min (q + 1 - b) 4 = (q - b) + 1 by omega, show min (q - b) 4 = q - b by omega, numF_s, show b + (q - b) = q by omega]
        · rw [Rn_y (i := q) (by omega) k]; exact k3
        · rw [Rn_y (i := q) (by omega) k]; exact k5
    · rw [Rn_n k]; exact h2
    · rw [Rn_n k]; exact h5
theorem r_letters {g : Nat → Nat} {m : Nat} {σ : Sg} {z : Nat} (hz : z ≤ 160) {K : HSt → Prop} : ∀ (n q : Nat) (S : HSt), q + n = z → RP g m σ z S → gI S 1352 m = nI q → (∀ S', RP g m σ z S' → Fx m S S' → gI S' 1352 m = nI (Rn (dD σ 1323) z 1 q) → gI S' 1353 m = gI S 1353 m → K S') → lp_X12_spelled_0a g m K (n + 1) S := by
  intro n
  induction n with
  | zero =>
    intro q S e hR h2 hK
    unfold lp_X12_spelled_0a
    rw [h2]
    refine r_byteAt hR hz (by omega) (r_isLetter (fun k => ?_) (fun k => bs0 (hK S hR Fx.rf ?_ rfl)))
    · rw [bA_ge (by omega), kd_m1] at k; exact absurd k (by decide)
    · rw [Rn_z (by omega)]; exact h2
  | succ n ih =>
    intro q S e hR h2 hK
    unfold lp_X12_spelled_0a
    rw [h2]
    refine r_byteAt hR hz (by omega) (r_isLetter (fun k => bs1 (fun S11 e11 => ?_)) (fun k => bs0 (hK S hR Fx.rf ?_ rfl)))
    · have hR' : RP g m σ z S11 := by rw [e11]; exact hR.u 1352 _ (by decide) (by decide)
      have hF : Fx m S S11 := by rw [e11]; exact Fx.rf.u 1352 _ (by decide)
      refine ih (q + 1) S11 (by omega) hR' (by rw [e11, gI_same, if_pos rfl, h2, nI_1]) (fun S' k1 k2 k3 k4 => hK S' k1 (hF.tr k2) ?_ (k4.trans (by rw [e11]; rfl)))
      rw [Rn_y (i := q) (by omega) k]; exact k3
    · rw [Rn_n k]; exact h2
def KN : List Int32 := [115, 111, 114, 116, 0, 119, 101, 101, 107, 100, 97, 121, 0, 99, 108, 111, 99, 107, 0, 104, 111, 117, 114, 0, 111, 118, 101, 114, 0, 108, 97, 121, 0, 111, 102, 102, 0, 111, 114, 0, 97, 110, 100, 0, 110, 111, 116, 0]
theorem RP.kn {g : Nat → Nat} {m : Nat} {σ : Sg} {z : Nat} {S : HSt} (h : RP g m σ z S) {i : Nat} (hi : i < 48) : gA S 249 (g 1349) i = KN.getD i 0 := h.1.1.2.2.2.2.2 i hi
/-- a word is looked for -/
def wset (m : Nat) (f : Bool) (k : Nat) (S : HSt) : HSt := if f then uI (uI S 1354 m (if 5 ≤ k then (300 : Int32) + nI k - 5 else 3)) 1355 m (nI k) else S
theorem r_seg {g : Nat → Nat} {m : Nat} {σ : Sg} {z : Nat} (hz : z ≤ 160) {b e : Nat} (he : e ≤ z) (hbe : b ≤ e) {k : Nat} (hk : k < 10) {K : Int32 → Int32 → Int32 → Int32 → HSt → Prop} (n : Nat) : ∀ (M : List Int32) (x i : Nat) (f : Bool) (S : HSt), (∀ t, t < M.length → KN.getD (x + t) 0 = M.getD t 0 ∧ M.getD t 0 ≠ 0) → KN.getD (x + M.length) 0 = 0 → x + M.length < 48 → i ≤ x → RP g m σ z S → gI S 1352 m = nI e → gI S 1353 m = nI b → lp_X12_spelled_41a g m K n (nI (x + M.length + 1)) 1 0 (nI (k + 1)) (wset m (f && (mtW (dD σ 1323) z M (b + i) && (i + M.length == e - b))) k S) → lp_X12_spelled_41a g m K (n + M.length + 1) (nI x) (if f then 1 else 0) (nI i) (nI k) S := by
  intro M
  induction M with
  | nil =>
    intro x i f S hM h0 hx hi hR h2 h3 hK
    have h0 : KN.getD x 0 = 0 := h0
    have hx : x < 48 := hx
    unfold lp_X12_spelled_41a
    rw [nI_clamp (by omega), hR.kn hx, h0, h2, h3, nI_sub hbe]
    refine ⟨fun q => absurd q (nI_ge hx (by decide)), fun _ => ⟨vp_in_nI hx (by decide), fun q => absurd rfl q, fun _ => ?_⟩⟩
    rw [nI_1, nI_1]
    cases f with
    | false =>
      refine ⟨fun _ v53 e53 v55 e55 => ?_, fun q => absurd rfl q⟩
      subst e53 e55
      exact hK
    | true =>
      refine ⟨fun q => absurd q (by decide), fun _ => ⟨fun ne v58 e58 v60 e60 => ?_, fun eq => ?_⟩⟩
      · subst e58 e60
        have : (i + ([] : List Int32).length == e - b) = false := by
          rw [beq_eq_false_iff_ne]
          intro q
          exact ne (by rw [show e - b = i from q.symm])
        rw [this, Bool.and_false, Bool.and_false] at hK
        exact hK
      · have eq' : i = e - b := nI_inj (by omega) (by omega) eq
        have : (i + ([] : List Int32).length == e - b) = true := by
          rw [beq_iff_eq]; exact eq'
        rw [this, Bool.and_true] at hK
        have hK : lp_X12_spelled_41a g m K n (nI (x + 1)) 1 0 (nI (k + 1)) (uI (uI S 1354 m (if 5 ≤ k then (300 : Int32) + nI k - 5 else 3)) 1355 m (nI k)) := hK
        refine ⟨fun k5 S63 e63 S66 e66 v69 e69 v71 e71 => ?_, fun k5 S73 e73 S76 e76 v79 e79 v81 e81 => ?_⟩
        · subst e63 e66 e69 e71
          rw [show (5 : Int32) = nI 5 from rfl, nI_leI (by decide) (by omega)] at k5
          rw [if_pos k5] at hK
          exact hK
        · subst e73 e76 e79 e81
          rw [show (5 : Int32) = nI 5 from rfl, nI_leI (by decide) (by omega)] at k5
          rw [if_neg k5] at hK
          exact hK
  | cons c M ih =>
    intro x i f S hM h0 hx hi hR h2 h3 hK
    have hl : (c :: M).length = M.length + 1 := rfl
    rw [hl] at hx h0 hK
    obtain ⟨m1, m2⟩ := hM 0 (by rw [hl]; omega)
    have m1 : KN.getD x 0 = c := m1
    have m2 : c ≠ 0 := m2
    have hM' : ∀ t, t < M.length → KN.getD (x + 1 + t) 0 = M.getD t 0 ∧ M.getD t 0 ≠ 0 := fun t ht => by
      have := hM (t + 1) (by rw [hl]; omega)
      rw [show x + 1 + t = x + (t + 1) by omega]
      exact this
    have h0' : KN.getD (x + 1 + M.length) 0 = 0 := by rw [show x + 1 + M.length = x + (M.length + 1) by omega]; exact h0
    -- the way on with a flag f'
    have go : ∀ f' : Bool, (f' && (mtW (dD σ 1323) z M (b + (i + 1)) && (i + 1 + M.length == e - b))) = (f && (mtW (dD σ 1323) z (c :: M) (b + i) && (i + (M.length + 1) == e - b))) → lp_X12_spelled_41a g m K (n + M.length + 1) (nI (x + 1)) (if f' then 1 else 0) (nI (i + 1)) (nI k) S := by
      intro f' ef
      refine ih (x + 1) (i + 1) f' S hM' h0' (by omega) (by omega) hR h2 h3 ?_
      rw [ef, show x + 1 + M.length + 1 = x + (M.length + 1) + 1 by omega]
      exact hK
    rw [show n + (c :: M).length + 1 = (n + M.length + 1) + 1 by rw [hl]; omega]
    unfold lp_X12_spelled_41a
    rw [nI_clamp (by omega), hR.kn (by omega), m1, h2, h3, nI_sub hbe, nI_add, nI_1, nI_1, nI_1]
    refine ⟨fun q => absurd q (nI_ge (by omega) (by decide)), fun _ => ⟨vp_in_nI (by omega) (by decide), fun _ => ?_, fun q => absurd q m2⟩⟩
    cases f with
    | false =>
      refine ⟨fun _ v30 e30 v32 e32 => ?_, fun q => absurd rfl q⟩
      subst e30 e32
      exact go false rfl
    | true =>
      refine ⟨fun q => absurd q (by decide), fun _ => r_byteAt hR hz (by omega) ⟨vp_in_nI (by omega) (by decide), ?_⟩⟩
      rw [hR.kn (by omega), m1, h2, h3, nI_sub hbe]
      refine ⟨fun ne v39 e39 v41 e41 => ?_, fun eq => ⟨fun ge v44 e44 v46 e46 => ?_, fun lt v48 e48 v50 e50 => ?_⟩⟩
      · subst e39 e41
        refine go false ?_
        have : (bA (dD σ 1323) z (b + i) == c) = false := by rw [beq_eq_false_iff_ne]; exact ne
        show false = (true && (((bA (dD σ 1323) z (b + i) == c) && mtW (dD σ 1323) z M (b + i + 1)) && _))
        rw [this]; rfl
      · subst e44 e46
        refine go false ?_
        rw [nI_leI (by omega) (by omega)] at ge
        have : (i + (M.length + 1) == e - b) = false := by rw [beq_eq_false_iff_ne]; omega
        rw [this, Bool.and_false, Bool.and_false]; rfl
      · subst e48 e50
        refine go true ?_
        have : (bA (dD σ 1323) z (b + i) == c) = true := by rw [beq_iff_eq]; exact eq
        show (true && (mtW (dD σ 1323) z M (b + (i + 1)) && (i + 1 + M.length == e - b))) = (true && (((bA (dD σ 1323) z (b + i) == c) && mtW (dD σ 1323) z M (b + i + 1)) && (i + (M.length + 1) == e - b)))
        rw [this, show b + (i + 1) = b + i + 1 by omega, show i + 1 + M.length = i + (M.length + 1) by omega, Bool.true_and, Bool.true_and, Bool.true_and]
theorem wset_f (m k : Nat) (S : HSt) : wset m false k S = S := rfl
theorem wset_t (m k : Nat) (S : HSt) : wset m true k S = uI (uI S 1354 m (if 5 ≤ k then (300 : Int32) + nI k - 5 else 3)) 1355 m (nI k) := rfl
theorem RP.ws {g : Nat → Nat} {m : Nat} {σ : Sg} {z : Nat} {S : HSt} (h : RP g m σ z S) (f : Bool) (k : Nat) : RP g m σ z (wset m f k S) := by
  cases f with
  | false => exact h
  | true => exact (h.u 1354 _ (by decide) (by decide)).u 1355 _ (by decide) (by decide)
theorem Fx.ws {m : Nat} {S S1 : HSt} (h : Fx m S S1) (f : Bool) (k : Nat) : Fx m S (wset m f k S1) := by
  cases f with
  | false => exact h
  | true => exact (h.u 1354 _ (by decide)).u 1355 _ (by decide)
theorem ws_23 (m : Nat) (f : Bool) (k : Nat) (S : HSt) : gI (wset m f k S) 1352 m = gI S 1352 m ∧ gI (wset m f k S) 1353 m = gI S 1353 m := by
  cases f with
  | false => exact ⟨rfl, rfl⟩
  | true => exact ⟨rfl, rfl⟩
theorem r_word {g : Nat → Nat} {m : Nat} {σ : Sg} {z : Nat} (hz : z ≤ 160) {b e : Nat} (he : e ≤ z) (hbe : b ≤ e) {K : Int32 → Int32 → Int32 → Int32 → HSt → Prop} (k x n : Nat) (M : List Int32) (N y : Nat) (hk : k < 10) (hN : N = n + M.length + 1) (hy : y = x + M.length + 1) (S : HSt) (hM : ∀ t, t < M.length → KN.getD (x + t) 0 = M.getD t 0 ∧ M.getD t 0 ≠ 0) (h0 : KN.getD (x + M.length) 0 = 0) (hx : x + M.length < 48) (hR : RP g m σ z S) (h2 : gI S 1352 m = nI e) (h3 : gI S 1353 m = nI b) (hK : ∀ S', RP g m σ z S' → gI S' 1352 m = nI e → gI S' 1353 m = nI b → S' = wset m (isW (dD σ 1323) z M b e) k S → lp_X12_spelled_41a g m K n (nI y) 1 0 (nI (k + 1)) S') : lp_X12_spelled_41a g m K N (nI x) 1 0 (nI k) S := by
  subst hN hy
  refine r_seg hz he hbe hk n M x 0 true S hM h0 hx (Nat.zero_le _) hR h2 h3 ?_
  have : (true && (mtW (dD σ 1323) z M (b + 0) && (0 + M.length == e - b))) = isW (dD σ 1323) z M b e := by
    unfold isW
    rw [Bool.true_and, Nat.add_zero, Nat.zero_add, Bool.and_comm]
    congr 1
    rw [Bool.eq_iff_iff, beq_iff_eq, beq_iff_eq]; exact eq_comm
  rw [this]
  exact hK _ (hR.ws _ _) ((ws_23 _ _ _ _).1.trans h2) ((ws_23 _ _ _ _).2.trans h3) rfl
theorem mtW_un {B : Nat → Int32} {z : Nat} : ∀ (M M' : List Int32) (i : Nat), M.length = M'.length → mtW B z M i = true → mtW B z M' i = true → M = M' := by
  intro M
  induction M with
  | nil => intro M' i hl _ _; cases M' with
    | nil => rfl
    | cons _ _ => cases hl
  | cons c M ih =>
    intro M' i hl h1 h2
    cases M' with
    | nil => cases hl
    | cons c' M' =>
      have h1 : ((bA B z i == c) && mtW B z M (i + 1)) = true := h1
      have h2 : ((bA B z i == c') && mtW B z M' (i + 1)) = true := h2
      rw [Bool.and_eq_true, beq_iff_eq] at h1 h2
      rw [← h1.1, ← h2.1, ih M' (i + 1) (Nat.succ.inj hl) h1.2 h2.2]
theorem isW_un {B : Nat → Int32} {z b e : Nat} {M M' : List Int32} (h1 : isW B z M b e = true) (hne : M ≠ M') : isW B z M' b e = false := by
  cases h2 : isW B z M' b e with
  | false => rfl
  | true =>
    unfold isW at h1 h2
    rw [Bool.and_eq_true, beq_iff_eq] at h1 h2
    exact absurd (mtW_un M M' b (h1.1.symm.trans h2.1) h1.2 h2.2) hne
/-- the word that was found -/
theorem ws_res {σ : Sg} {z b e m : Nat} (S : HSt) (hS : gI S 1354 m = 2) : gI (wset m (isW (dD σ 1323) z (lit 5) b e) 9 (wset m (isW (dD σ 1323) z (lit 4) b e) 8 (wset m (isW (dD σ 1323) z (lit 3) b e) 7 (wset m (isW (dD σ 1323) z (lit 2) b e) 6 (wset m (isW (dD σ 1323) z (lit 1) b e) 5 (wset m (isW (dD σ 1323) z (lit 10) b e) 4 (wset m (isW (dD σ 1323) z (lit 9) b e) 3 (wset m (isW (dD σ 1323) z (lit 8) b e) 2 (wset m (isW (dD σ 1323) z (lit 7) b e) 1 (wset m (isW (dD σ 1323) z (lit 6) b e) 0 S)))))))))) 1354 m = rtk (wdT (dD σ 1323) z b e) ∧ (isV (wdT (dD σ 1323) z b e) → gI (wset m (isW (dD σ 1323) z (lit 5) b e) 9 (wset m (isW (dD σ 1323) z (lit 4) b e) 8 (wset m (isW (dD σ 1323) z (lit 3) b e) 7 (wset m (isW (dD σ 1323) z (lit 2) b e) 6 (wset m (isW (dD σ 1323) z (lit 1) b e) 5 (wset m (isW (dD σ 1323) z (lit 10) b e) 4 (wset m (isW (dD σ 1323) z (lit 9) b e) 3 (wset m (isW (dD σ 1323) z (lit 8) b e) 2 (wset m (isW (dD σ 1323) z (lit 7) b e) 1 (wset m (isW (dD σ 1323) z (lit 6) b e) 0 S)))))))))) 1355 m = tld (wdT (dD σ 1323) z b e)) := by
  by_cases h1 : isW (dD σ 1323) z (lit 1) b e = true
  · have wd : wdT (dD σ 1323) z b e = -21 := by unfold wdT; rw [if_pos h1]
    have q2 : isW (dD σ 1323) z (lit 2) b e = false := isW_un h1 (by decide)
    have q3 : isW (dD σ 1323) z (lit 3) b e = false := isW_un h1 (by decide)
    have q4 : isW (dD σ 1323) z (lit 4) b e = false := isW_un h1 (by decide)
    have q5 : isW (dD σ 1323) z (lit 5) b e = false := isW_un h1 (by decide)
    have q6 : isW (dD σ 1323) z (lit 6) b e = false := isW_un h1 (by decide)
    have q7 : isW (dD σ 1323) z (lit 7) b e = false := isW_un h1 (by decide)
    have q8 : isW (dD σ 1323) z (lit 8) b e = false := isW_un h1 (by decide)
    have q9 : isW (dD σ 1323) z (lit 9) b e = false := isW_un h1 (by decide)
    have q10 : isW (dD σ 1323) z (lit 10) b e = false := isW_un h1 (by decide)
    rw [wd]
    simp only [q2, q3, q4, q5, q6, q7, q8, q9, q10, h1, wset_f, wset_t]
    exact ⟨by rw [gI_uI, if_neg (by omega), gI_same, if_pos rfl]; decide, fun q => absurd q (by unfold isV; decide)⟩
  · have q1 : isW (dD σ 1323) z (lit 1) b e = false := Bool.eq_false_iff.mpr h1
    by_cases h2 : isW (dD σ 1323) z (lit 2) b e = true
    · have wd : wdT (dD σ 1323) z b e = -22 := by unfold wdT; rw [if_neg h1, if_pos h2]
      have q1 : isW (dD σ 1323) z (lit 1) b e = false := Bool.eq_false_iff.mpr h1
      have q3 : isW (dD σ 1323) z (lit 3) b e = false := isW_un h2 (by decide)
      have q4 : isW (dD σ 1323) z (lit 4) b e = false := isW_un h2 (by decide)
      have q5 : isW (dD σ 1323) z (lit 5) b e = false := isW_un h2 (by decide)
      have q6 : isW (dD σ 1323) z (lit 6) b e = false := isW_un h2 (by decide)
      have q7 : isW (dD σ 1323) z (lit 7) b e = false := isW_un h2 (by decide)
      have q8 : isW (dD σ 1323) z (lit 8) b e = false := isW_un h2 (by decide)
      have q9 : isW (dD σ 1323) z (lit 9) b e = false := isW_un h2 (by decide)
      have q10 : isW (dD σ 1323) z (lit 10) b e = false := isW_un h2 (by decide)
      rw [wd]
      simp only [q1, q3, q4, q5, q6, q7, q8, q9, q10, h2, wset_f, wset_t]
      exact ⟨by rw [gI_uI, if_neg (by omega), gI_same, if_pos rfl]; decide, fun q => absurd q (by unfold isV; decide)⟩
    · have q2 : isW (dD σ 1323) z (lit 2) b e = false := Bool.eq_false_iff.mpr h2
      by_cases h3 : isW (dD σ 1323) z (lit 3) b e = true
      · have wd : wdT (dD σ 1323) z b e = -1 := by unfold wdT; rw [if_neg h1, if_neg h2, if_pos h3]
        have q1 : isW (dD σ 1323) z (lit 1) b e = false := Bool.eq_false_iff.mpr h1
        have q2 : isW (dD σ 1323) z (lit 2) b e = false := Bool.eq_false_iff.mpr h2
        have q4 : isW (dD σ 1323) z (lit 4) b e = false := isW_un h3 (by decide)
        have q5 : isW (dD σ 1323) z (lit 5) b e = false := isW_un h3 (by decide)
        have q6 : isW (dD σ 1323) z (lit 6) b e = false := isW_un h3 (by decide)
        have q7 : isW (dD σ 1323) z (lit 7) b e = false := isW_un h3 (by decide)
        have q8 : isW (dD σ 1323) z (lit 8) b e = false := isW_un h3 (by decide)
        have q9 : isW (dD σ 1323) z (lit 9) b e = false := isW_un h3 (by decide)
        have q10 : isW (dD σ 1323) z (lit 10) b e = false := isW_un h3 (by decide)
        rw [wd]
        simp only [q1, q2, q4, q5, q6, q7, q8, q9, q10, h3, wset_f, wset_t]
        exact ⟨by rw [gI_uI, if_neg (by omega), gI_same, if_pos rfl]; decide, fun q => absurd q (by unfold isV; decide)⟩
      · have q3 : isW (dD σ 1323) z (lit 3) b e = false := Bool.eq_false_iff.mpr h3
        by_cases h4 : isW (dD σ 1323) z (lit 4) b e = true
        · have wd : wdT (dD σ 1323) z b e = -2 := by unfold wdT; rw [if_neg h1, if_neg h2, if_neg h3, if_pos h4]
          have q1 : isW (dD σ 1323) z (lit 1) b e = false := Bool.eq_false_iff.mpr h1
          have q2 : isW (dD σ 1323) z (lit 2) b e = false := Bool.eq_false_iff.mpr h2
          have q3 : isW (dD σ 1323) z (lit 3) b e = false := Bool.eq_false_iff.mpr h3
          have q5 : isW (dD σ 1323) z (lit 5) b e = false := isW_un h4 (by decide)
          have q6 : isW (dD σ 1323) z (lit 6) b e = false := isW_un h4 (by decide)
          have q7 : isW (dD σ 1323) z (lit 7) b e = false := isW_un h4 (by decide)
          have q8 : isW (dD σ 1323) z (lit 8) b e = false := isW_un h4 (by decide)
          have q9 : isW (dD σ 1323) z (lit 9) b e = false := isW_un h4 (by decide)
          have q10 : isW (dD σ 1323) z (lit 10) b e = false := isW_un h4 (by decide)
          rw [wd]
          simp only [q1, q2, q3, q5, q6, q7, q8, q9, q10, h4, wset_f, wset_t]
          exact ⟨by rw [gI_uI, if_neg (by omega), gI_same, if_pos rfl]; decide, fun q => absurd q (by unfold isV; decide)⟩
        · have q4 : isW (dD σ 1323) z (lit 4) b e = false := Bool.eq_false_iff.mpr h4
          by_cases h5 : isW (dD σ 1323) z (lit 5) b e = true
          · have wd : wdT (dD σ 1323) z b e = -3 := by unfold wdT; rw [if_neg h1, if_neg h2, if_neg h3, if_neg h4, if_pos h5]
            have q1 : isW (dD σ 1323) z (lit 1) b e = false := Bool.eq_false_iff.mpr h1
            have q2 : isW (dD σ 1323) z (lit 2) b e = false := Bool.eq_false_iff.mpr h2
            have q3 : isW (dD σ 1323) z (lit 3) b e = false := Bool.eq_false_iff.mpr h3
            have q4 : isW (dD σ 1323) z (lit 4) b e = false := Bool.eq_false_iff.mpr h4
            have q6 : isW (dD σ 1323) z (lit 6) b e = false := isW_un h5 (by decide)
            have q7 : isW (dD σ 1323) z (lit 7) b e = false := isW_un h5 (by decide)
            have q8 : isW (dD σ 1323) z (lit 8) b e = false := isW_un h5 (by decide)
            have q9 : isW (dD σ 1323) z (lit 9) b e = false := isW_un h5 (by decide)
            have q10 : isW (dD σ 1323) z (lit 10) b e = false := isW_un h5 (by decide)
            rw [wd]
            simp only [q1, q2, q3, q4, q6, q7, q8, q9, q10, h5, wset_f, wset_t]
            exact ⟨by rw [gI_uI, if_neg (by omega), gI_same, if_pos rfl]; decide, fun q => absurd q (by unfold isV; decide)⟩
          · have q5 : isW (dD σ 1323) z (lit 5) b e = false := Bool.eq_false_iff.mpr h5
            by_cases h6 : isW (dD σ 1323) z (lit 6) b e = true
            · have wd : wdT (dD σ 1323) z b e = -10 := by unfold wdT; rw [if_neg h1, if_neg h2, if_neg h3, if_neg h4, if_neg h5, if_pos h6]
              have q1 : isW (dD σ 1323) z (lit 1) b e = false := Bool.eq_false_iff.mpr h1
              have q2 : isW (dD σ 1323) z (lit 2) b e = false := Bool.eq_false_iff.mpr h2
              have q3 : isW (dD σ 1323) z (lit 3) b e = false := Bool.eq_false_iff.mpr h3
              have q4 : isW (dD σ 1323) z (lit 4) b e = false := Bool.eq_false_iff.mpr h4
              have q5 : isW (dD σ 1323) z (lit 5) b e = false := Bool.eq_false_iff.mpr h5
              have q7 : isW (dD σ 1323) z (lit 7) b e = false := isW_un h6 (by decide)
              have q8 : isW (dD σ 1323) z (lit 8) b e = false := isW_un h6 (by decide)
              have q9 : isW (dD σ 1323) z (lit 9) b e = false := isW_un h6 (by decide)
              have q10 : isW (dD σ 1323) z (lit 10) b e = false := isW_un h6 (by decide)
              rw [wd]
              simp only [q1, q2, q3, q4, q5, q7, q8, q9, q10, h6, wset_f, wset_t]
              exact ⟨by rw [gI_uI, if_neg (by omega), gI_same, if_pos rfl]; decide, fun _ => by rw [gI_same, if_pos rfl]; decide⟩
            · have q6 : isW (dD σ 1323) z (lit 6) b e = false := Bool.eq_false_iff.mpr h6
              by_cases h7 : isW (dD σ 1323) z (lit 7) b e = true
              · have wd : wdT (dD σ 1323) z b e = -11 := by unfold wdT; rw [if_neg h1, if_neg h2, if_neg h3, if_neg h4, if_neg h5, if_neg h6, if_pos h7]
                have q1 : isW (dD σ 1323) z (lit 1) b e = false := Bool.eq_false_iff.mpr h1
                have q2 : isW (dD σ 1323) z (lit 2) b e = false := Bool.eq_false_iff.mpr h2
                have q3 : isW (dD σ 1323) z (lit 3) b e = false := Bool.eq_false_iff.mpr h3
                have q4 : isW (dD σ 1323) z (lit 4) b e = false := Bool.eq_false_iff.mpr h4
                have q5 : isW (dD σ 1323) z (lit 5) b e = false := Bool.eq_false_iff.mpr h5
                have q6 : isW (dD σ 1323) z (lit 6) b e = false := Bool.eq_false_iff.mpr h6
                have q8 : isW (dD σ 1323) z (lit 8) b e = false := isW_un h7 (by decide)
                have q9 : isW (dD σ 1323) z (lit 9) b e = false := isW_un h7 (by decide)
                have q10 : isW (dD σ 1323) z (lit 10) b e = false := isW_un h7 (by decide)
                rw [wd]
                simp only [q1, q2, q3, q4, q5, q6, q8, q9, q10, h7, wset_f, wset_t]
                exact ⟨by rw [gI_uI, if_neg (by omega), gI_same, if_pos rfl]; decide, fun _ => by rw [gI_same, if_pos rfl]; decide⟩
              · have q7 : isW (dD σ 1323) z (lit 7) b e = false := Bool.eq_false_iff.mpr h7
                by_cases h8 : isW (dD σ 1323) z (lit 8) b e = true
                · have wd : wdT (dD σ 1323) z b e = -12 := by unfold wdT; rw [if_neg h1, if_neg h2, if_neg h3, if_neg h4, if_neg h5, if_neg h6, if_neg h7, if_pos h8]
                  have q1 : isW (dD σ 1323) z (lit 1) b e = false := Bool.eq_false_iff.mpr h1
                  have q2 : isW (dD σ 1323) z (lit 2) b e = false := Bool.eq_false_iff.mpr h2
                  have q3 : isW (dD σ 1323) z (lit 3) b e = false := Bool.eq_false_iff.mpr h3
                  have q4 : isW (dD σ 1323) z (lit 4) b e = false := Bool.eq_false_iff.mpr h4
                  have q5 : isW (dD σ 1323) z (lit 5) b e = false := Bool.eq_false_iff.mpr h5
                  have q6 : isW (dD σ 1323) z (lit 6) b e = false := Bool.eq_false_iff.mpr h6
                  have q7 : isW (dD σ 1323) z (lit 7) b e = false := Bool.eq_false_iff.mpr h7
                  have q9 : isW (dD σ 1323) z (lit 9) b e = false := isW_un h8 (by decide)
                  have q10 : isW (dD σ 1323) z (lit 10) b e = false := isW_un h8 (by decide)
                  rw [wd]
                  simp only [q1, q2, q3, q4, q5, q6, q7, q9, q10, h8, wset_f, wset_t]
                  exact ⟨by rw [gI_uI, if_neg (by omega), gI_same, if_pos rfl]; decide, fun _ => by rw [gI_same, if_pos rfl]; decide⟩
                · have q8 : isW (dD σ 1323) z (lit 8) b e = false := Bool.eq_false_iff.mpr h8
                  by_cases h9 : isW (dD σ 1323) z (lit 9) b e = true
                  · have wd : wdT (dD σ 1323) z b e = -13 := by unfold wdT; rw [if_neg h1, if_neg h2, if_neg h3, if_neg h4, if_neg h5, if_neg h6, if_neg h7, if_neg h8, if_pos h9]
                    have q1 : isW (dD σ 1323) z (lit 1) b e = false := Bool.eq_false_iff.mpr h1
                    have q2 : isW (dD σ 1323) z (lit 2) b e = false := Bool.eq_false_iff.mpr h2
                    have q3 : isW (dD σ 1323) z (lit 3) b e = false := Bool.eq_false_iff.mpr h3
                    have q4 : isW (dD σ 1323) z (lit 4) b e = false := Bool.eq_false_iff.mpr h4
                    have q5 : isW (dD σ 1323) z (lit 5) b e = false := Bool.eq_false_iff.mpr h5
                    have q6 : isW (dD σ 1323) z (lit 6) b e = false := Bool.eq_false_iff.mpr h6
                    have q7 : isW (dD σ 1323) z (lit 7) b e = false := Bool.eq_false_iff.mpr h7
                    have q8 : isW (dD σ 1323) z (lit 8) b e = false := Bool.eq_false_iff.mpr h8
                    have q10 : isW (dD σ 1323) z (lit 10) b e = false := isW_un h9 (by decide)
                    rw [wd]
                    simp only [q1, q2, q3, q4, q5, q6, q7, q8, q10, h9, wset_f, wset_t]
                    exact ⟨by rw [gI_uI, if_neg (by omega), gI_same, if_pos rfl]; decide, fun _ => by rw [gI_same, if_pos rfl]; decide⟩
                  · have q9 : isW (dD σ 1323) z (lit 9) b e = false := Bool.eq_false_iff.mpr h9
                    by_cases h10 : isW (dD σ 1323) z (lit 10) b e = true
                    · have wd : wdT (dD σ 1323) z b e = -14 := by unfold wdT; rw [if_neg h1, if_neg h2, if_neg h3, if_neg h4, if_neg h5, if_neg h6, if_neg h7, if_neg h8, if_neg h9, if_pos h10]
                      have q1 : isW (dD σ 1323) z (lit 1) b e = false := Bool.eq_false_iff.mpr h1
                      have q2 : isW (dD σ 1323) z (lit 2) b e = false := Bool.eq_false_iff.mpr h2
                      have q3 : isW (dD σ 1323) z (lit 3) b e = false := Bool.eq_false_iff.mpr h3
                      have q4 : isW (dD σ 1323) z (lit 4) b e = false := Bool.eq_false_iff.mpr h4
                      have q5 : isW (dD σ 1323) z (lit 5) b e = false := Bool.eq_false_iff.mpr h5
                      have q6 : isW (dD σ 1323) z (lit 6) b e = false := Bool.eq_false_iff.mpr h6
                      have q7 : isW (dD σ 1323) z (lit 7) b e = false := Bool.eq_false_iff.mpr h7
                      have q8 : isW (dD σ 1323) z (lit 8) b e = false := Bool.eq_false_iff.mpr h8
                      have q9 : isW (dD σ 1323) z (lit 9) b e = false := Bool.eq_false_iff.mpr h9
                      rw [wd]
                      simp only [q1, q2, q3, q4, q5, q6, q7, q8, q9, h10, wset_f, wset_t]
                      exact ⟨by rw [gI_uI, if_neg (by omega), gI_same, if_pos rfl]; decide, fun _ => by rw [gI_same, if_pos rfl]; decide⟩
                    · have q10 : isW (dD σ 1323) z (lit 10) b e = false := Bool.eq_false_iff.mpr h10
                      have wd : wdT (dD σ 1323) z b e = -27 := by unfold wdT; rw [if_neg h1, if_neg h2, if_neg h3, if_neg h4, if_neg h5, if_neg h6, if_neg h7, if_neg h8, if_neg h9, if_neg h10]
                      rw [wd]
                      simp only [q1, q2, q3, q4, q5, q6, q7, q8, q9, q10, wset_f]
                      exact ⟨by rw [hS]; decide, fun q => absurd q (by unfold isV; decide)⟩
theorem r_spelled {g : Nat → Nat} {m : Nat} {σ : Sg} {z : Nat} (hz : z ≤ 160) {b : Nat} (hb : b < z) (hk : kdB (bA (dD σ 1323) z b) = 1) {S : HSt} (hR : RP g m σ z S) (h2 : gI S 1352 m = nI b) (h3 : gI S 1353 m = nI b) {Post : Unit → HSt → Prop} (hP : ∀ S', RP g m σ z S' → Fx m S S' → gI S' 1353 m = nI b → gI S' 1352 m = nI (eO (dD σ 1323) z b) → gI S' 1354 m = rtk (wdT (dD σ 1323) z b (eO (dD σ 1323) z b)) → (isV (wdT (dD σ 1323) z b (eO (dD σ 1323) z b)) → gI S' 1355 m = tld (wdT (dD σ 1323) z b (eO (dD σ 1323) z b))) → Post () S') : wp_X12_spelled g m S Post := by
  have ee : eO (dD σ 1323) z b = Rn (dD σ 1323) z 1 b := by
    unfold eO
    rw [hk, if_neg (by decide), Rn_y hb hk]
  have el : eO (dD σ 1323) z b ≤ z := eO_le hb
  have eg : b ≤ eO (dD σ 1323) z b := Nat.le_of_lt (eO_gt b)
  generalize he : eO (dD σ 1323) z b = e at *
  refine ⟨z - b + 1, r_letters hz (z - b) b S (by omega) hR h2 (fun S14 k1 k2 k3 k4 S16 e16 => ⟨49, ?_⟩)⟩
  rw [← ee] at k3
  have hR0 : RP g m σ z S16 := by rw [e16]; exact k1.u 1354 _ (by decide) (by decide)
  have hF0 : Fx m S S16 := by rw [e16]; exact k2.u 1354 _ (by decide)
  have a2 : gI S16 1352 m = nI e := by rw [e16]; exact k3
  have a3 : gI S16 1353 m = nI b := by rw [e16]; exact k4.trans h3
  have a4 : gI S16 1354 m = 2 := by rw [e16, gI_same, if_pos rfl]
  refine r_word hz el eg 0 0 44 (lit 6) 49 5 (by decide) (by decide) (by decide) S16 (by decide) (by decide) (by decide) hR0 a2 a3 (fun T0 r0 p0 q0 w0 => ?_)
  refine r_word hz el eg 1 5 36 (lit 7) 44 13 (by decide) (by decide) (by decide) T0 (by decide) (by decide) (by decide) r0 p0 q0 (fun T1 r1 p1 q1 w1 => ?_)
  refine r_word hz el eg 2 13 30 (lit 8) 36 19 (by decide) (by decide) (by decide) T1 (by decide) (by decide) (by decide) r1 p1 q1 (fun T2 r2 p2 q2 w2 => ?_)
  refine r_word hz el eg 3 19 25 (lit 9) 30 24 (by decide) (by decide) (by decide) T2 (by decide) (by decide) (by decide) r2 p2 q2 (fun T3 r3 p3 q3 w3 => ?_)
  refine r_word hz el eg 4 24 20 (lit 10) 25 29 (by decide) (by decide) (by decide) T3 (by decide) (by decide) (by decide) r3 p3 q3 (fun T4 r4 p4 q4 w4 => ?_)
  refine r_word hz el eg 5 29 16 (lit 1) 20 33 (by decide) (by decide) (by decide) T4 (by decide) (by decide) (by decide) r4 p4 q4 (fun T5 r5 p5 q5 w5 => ?_)
  refine r_word hz el eg 6 33 12 (lit 2) 16 37 (by decide) (by decide) (by decide) T5 (by decide) (by decide) (by decide) r5 p5 q5 (fun T6 r6 p6 q6 w6 => ?_)
  refine r_word hz el eg 7 37 9 (lit 3) 12 40 (by decide) (by decide) (by decide) T6 (by decide) (by decide) (by decide) r6 p6 q6 (fun T7 r7 p7 q7 w7 => ?_)
  refine r_word hz el eg 8 40 5 (lit 4) 9 44 (by decide) (by decide) (by decide) T7 (by decide) (by decide) (by decide) r7 p7 q7 (fun T8 r8 p8 q8 w8 => ?_)
  refine r_word hz el eg 9 44 1 (lit 5) 5 48 (by decide) (by decide) (by decide) T8 (by decide) (by decide) (by decide) r8 p8 q8 (fun T9 r9 p9 q9 w9 => ?_)
  refine ⟨fun _ => ?_, fun q => absurd (Int32.le_refl _) q⟩
  have res := ws_res (σ := σ) (z := z) (b := b) (e := e) (m := m) S16 a4
  rw [← w0, ← w1, ← w2, ← w3, ← w4, ← w5, ← w6, ← w7, ← w8, ← w9] at res
  refine hP T9 r9 ?_ q9 p9 res.1 res.2
  rw [w9, w8, w7, w6, w5, w4, w3, w2, w1, w0]
  exact (((((((((hF0.ws _ _).ws _ _).ws _ _).ws _ _).ws _ _).ws _ _).ws _ _).ws _ _).ws _ _).ws _ _
theorem r_next {g : Nat → Nat} {m : Nat} {σ : Sg} {z : Nat} (hz : z ≤ 160) (hB : ∀ k, k < z → bet (dD σ 1323 k) 0 255) {p : Nat} (hp : p ≤ z) {S : HSt} (hR : RP g m σ z S) (h2 : gI S 1352 m = nI p) {Post : Unit → HSt → Prop} (hP : ∀ S', RP g m σ z S' → Fx m S S' → RD (dD σ 1323) z p m S' → Post () S') : wp_X12_next g m S Post := by
  refine ⟨z - p + 1, r_skip hz (z - p) p S (by omega) hR h2 (fun S18 k1 k2 k3 S20 e20 => ?_)⟩
  have hb : sk (dD σ 1323) z p ≤ z := sk_le hp
  have nb : ¬ kdB (bA (dD σ 1323) z (sk (dD σ 1323) z p)) = 3 := sk_nb hp
  have en : nxS (dD σ 1323) z p = if sk (dD σ 1323) z p < z then eO (dD σ 1323) z (sk (dD σ 1323) z p) else sk (dD σ 1323) z p := rfl
  unfold RD at hP
  rw [en] at hP
  generalize sk (dD σ 1323) z p = b at *
  have hR20 : RP g m σ z S20 := by rw [e20]; exact k1.u 1353 _ (by decide) (by decide)
  have hF20 : Fx m S S20 := by rw [e20]; exact k2.u 1353 _ (by decide)
  have a2 : gI S20 1352 m = nI b := by rw [e20]; exact k3
  have a3 : gI S20 1353 m = nI b := by rw [e20, gI_same, if_pos rfl]; exact k3
  rw [a2]
  refine r_byteAt hR20 hz (by omega) ⟨fun nm => ?_, fun em S112 e112 => ?_⟩
  · have hlt : b < z := by
      by_cases q : b < z
      · exact q
      · exact absurd (bA_ge (B := dD σ 1323) (z := z) (i := b) (by omega)) nm
    rw [if_pos hlt, if_pos hlt] at hP
    refine r_isLetter (fun k => bs1 ?_) (fun n1 => bs0 (r_isDigit (fun k => bs1 ?_) (fun n2 => bs0 ?_)))
    · refine r_spelled hz hlt k hR20 a2 a3 (fun S' x1 x2 x3 x4 x5 x6 => hP S' x1 (hF20.tr x2) ⟨x3, x4, ?_, ?_⟩)
      · unfold tkO; rw [if_pos k]; exact x5
      · unfold tkO; rw [if_pos k]; exact x6
    · have ee : eO (dD σ 1323) z b = Rn (dD σ 1323) z 2 b := by
        unfold eO
        rw [k, if_neg (by decide), Rn_y hlt k]
      have n1 : ¬ kdB (bA (dD σ 1323) z b) = 1 := by rw [k]; decide
      have el : eO (dD σ 1323) z b ≤ z := eO_le hlt
      have eg : b ≤ eO (dD σ 1323) z b := Nat.le_of_lt (eO_gt b)
      have eto : tkO (dD σ 1323) z b (eO (dD σ 1323) z b) = if eO (dD σ 1323) z b - b ≤ 4 then numF (dD σ 1323) z (eO (dD σ 1323) z b - b) b 0 else -27 := by
        unfold tkO; rw [if_neg n1, if_pos k]
      have tok := tk_ok (B := dD σ 1323) (z := z) (b := b)
      rw [eto] at hP tok
      generalize eO (dD σ 1323) z b = e at *
      intro S1 e1
      have hR1 : RP g m σ z S1 := by rw [e1]; exact hR20.u 1355 _ (by decide) (by decide)
      have hF1 : Fx m S S1 := by rw [e1]; exact hF20.u 1355 _ (by decide)
      refine ⟨z - b + 1, r_number hz (b := b) (z - b) b S1 (by omega) (Nat.le_refl b) hR1 (by rw [e1]; exact a2) (by rw [e1]; exact a3) ?_ (fun S30 x1 x2 x3 x4 x5 => ?_)⟩
      · rw [e1, gI_same, if_pos rfl, Nat.sub_self]; rfl
      · rw [← ee] at x3 x5
        rw [x3, x4, nI_sub eg, show (4 : Int32) = nI 4 from rfl, nI_leI (by omega) (by decide)]
        refine ⟨fun le S33 e33 => ?_, fun gt S36 e36 => ?_⟩
        · rw [if_pos le] at hP tok
          have t0 : 0 ≤ numF (dD σ 1323) z (e - b) b 0 := by
            rcases tok with q | q
            · exact q.1
            · obtain ⟨v, v1, v2⟩ := num_b (B := dD σ 1323) (z := z) (e - b) b b le (fun j j1 j2 => by
                rw [ee] at j2
                exact Rn_in (i := b) j1 (by omega))
              have : 10 ^ (e - b) ≤ 10 ^ 4 := Nat.pow_le_pow_right (by decide) le
              have e4 : (10 : Nat) ^ 4 = 10000 := by decide
              rw [v2]; exact nI_pos' (by omega)
          refine hP S33 (by rw [e33]; exact x1.u 1354 _ (by decide) (by decide)) ((hF1.tr x2).tr (by rw [e33]; exact Fx.rf.u 1354 _ (by decide))) ⟨by rw [e33]; exact x4, by rw [e33]; exact x3, by rw [e33, gI_same, if_pos rfl, rtk_pos t0], fun _ => ?_⟩
          rw [e33]
          show gI S30 1355 m = _
          rw [x5, show min (e - b) 4 = e - b by omega]
          unfold tld; rw [if_pos t0]
        · rw [if_neg gt] at hP
          refine hP S36 (by rw [e36]; exact x1.u 1354 _ (by decide) (by decide)) ((hF1.tr x2).tr (by rw [e36]; exact Fx.rf.u 1354 _ (by decide))) ⟨by rw [e36]; exact x4, by rw [e36]; exact x3, by rw [e36, gI_same, if_pos rfl]; decide, fun q => absurd q (by unfold isV; decide)⟩
    · have k0 := kd_0 n1 n2 nb
      have ee : eO (dD σ 1323) z b = b + 1 := by unfold eO; rw [if_pos k0]
      have eto : tkO (dD σ 1323) z b (eO (dD σ 1323) z b) = sgT (bA (dD σ 1323) z b) := by
        unfold tkO; rw [if_neg n1, if_neg n2]
      rw [eto, ee] at hP
      have fin : ∀ (c : Int32), rtk (sgT (bA (dD σ 1323) z b)) = c → ¬ isV (sgT (bA (dD σ 1323) z b)) → ∀ S37 : HSt, S37 = uI S20 1354 m c → ∀ S40 : HSt, S40 = uI S37 1352 m (gI S37 1352 m + 1) → Post () S40 := by
        intro c hc hv S37 e37 S40 e40
        refine hP S40 (by rw [e40, e37]; exact (hR20.u 1354 _ (by decide) (by decide)).u 1352 _ (by decide) (by decide)) (by rw [e40, e37]; exact (hF20.u 1354 _ (by decide)).u 1352 _ (by decide)) ⟨by rw [e40, e37]; exact a3, ?_, ?_, fun q => absurd q hv⟩
        · rw [e40, gI_same, if_pos rfl, e37]
          show gI S20 1352 m + 1 = _
          rw [a2, nI_1]
        · rw [e40, e37]
          show gI (uI S20 1354 m c) 1354 m = _
          rw [gI_same, if_pos rfl, hc]
      generalize bA (dD σ 1323) z b = c at *
      refine ⟨fun q => fin c (by rw [q]; decide) (by rw [q]; unfold isV; decide), fun n40 => ⟨fun q => fin c (by rw [q]; decide) (by rw [q]; unfold isV; decide), fun n41 => ⟨fun q => fin c (by rw [q]; decide) (by rw [q]; unfold isV; decide), fun n59 => ⟨fun q => fin c (by rw [q]; decide) (by rw [q]; unfold isV; decide), fun n43 => ⟨fun q => fin c (by rw [q]; decide) (by rw [q]; unfold isV; decide), fun n45 => ⟨fun q => fin c (by rw [q]; decide) (by rw [q]; unfold isV; decide), fun n42 => ⟨fun q => fin c (by rw [q]; decide) (by rw [q]; unfold isV; decide), fun n60 => ⟨fun n61 => fin 2 ?_ ?_, fun q => fin c (by rw [q]; decide) (by rw [q]; unfold isV; decide)⟩⟩⟩⟩⟩⟩⟩⟩
      · unfold sgT; rw [if_neg n40, if_neg n41, if_neg n42, if_neg n43, if_neg n45, if_neg n59, if_neg n60, if_neg n61]; decide
      · unfold sgT; rw [if_neg n40, if_neg n41, if_neg n42, if_neg n43, if_neg n45, if_neg n59, if_neg n60, if_neg n61]; unfold isV; decide
  · have hge : ¬ b < z := by
      intro q
      rw [bA_lt q] at em
      have := (hB b q).1
      rw [em] at this
      revert this; decide
    rw [if_neg hge, if_neg hge] at hP
    refine hP S112 (by rw [e112]; exact hR20.u 1354 _ (by decide) (by decide)) (by rw [e112]; exact hF20.u 1354 _ (by decide)) ⟨by rw [e112]; exact a3, by rw [e112]; exact a2, by rw [e112, gI_same, if_pos rfl]; decide, fun q => absurd q (by unfold isV; decide)⟩
