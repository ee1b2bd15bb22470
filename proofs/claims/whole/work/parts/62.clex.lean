/-! the class splits its tape into tokens -/
theorem CR.u602 {ad : AD} {x : Nat} {S : HSt} {σ : Sg} (h : CR ad x S σ) (a : Nat) (v : Int32) : CR ad x (uI S 602 a v) σ := ⟨h.1.ks (Ks_uI rfl) (fun _ _ => rfl), h.2⟩
theorem CR.u605 {ad : AD} {x : Nat} {S : HSt} {σ : Sg} (h : CR ad x S σ) (a : Nat) (v : Int32) : CR ad x (uI S 605 a v) σ := ⟨h.1.ks (Ks_uI rfl) (fun _ _ => rfl), h.2⟩
theorem CR.u606 {ad : AD} {x : Nat} {S : HSt} {σ : Sg} (h : CR ad x S σ) (a : Nat) (v : Int32) : CR ad x (uI S 606 a v) σ := ⟨h.1.ks (Ks_uI rfl) (fun _ _ => rfl), h.2⟩
theorem CR.u607 {ad : AD} {x : Nat} {S : HSt} {σ : Sg} (h : CR ad x S σ) (a : Nat) (v : Int32) : CR ad x (uI S 607 a v) σ := ⟨h.1.ks (Ks_uI rfl) (fun _ _ => rfl), h.2⟩
theorem CR.u254 {ad : AD} {x : Nat} {S : HSt} {σ : Sg} (h : CR ad x S σ) (a i : Nat) (v : Int32) : CR ad x (uA S 254 a i v) σ := ⟨h.1.ks (Ks_uA rfl) (fun _ _ => rfl), h.2⟩
theorem CR.u255 {ad : AD} {x : Nat} {S : HSt} {σ : Sg} (h : CR ad x S σ) (a i : Nat) (v : Int32) : CR ad x (uA S 255 a i v) σ := ⟨h.1.ks (Ks_uA rfl) (fun _ _ => rfl), h.2⟩
theorem CR.sz {ad : AD} {x : Nat} {S : HSt} {σ : Sg} (h : CR ad x S σ) : gI S 600 (ad 10 10) = nI (cN σ 5) := h.2.1.2.2.2.2.2.1
theorem cx_byteAt {ad : AD} {x : Nat} {S : HSt} {σ : Sg} (h : CR ad x S σ) (hz : cN σ 5 ≤ 160) {i : Nat} (hi : i < 2 ^ 31) {Post : Int32 → HSt → Prop} (hp : Post (bA (dD σ 1323) (cN σ 5) i) S) : wp_X5_byteAt (ad 10 10) (nI i) S Post := by
  obtain ⟨e1, e2, e3⟩ := h.1.g 601 10 20 253 160
  unfold wp_X5_byteAt
  rw [h.sz]
  refine ⟨fun q => absurd q (nI_pos hi), fun _ => ⟨fun le => ?_, fun nl => ⟨_, e1, e2, ?_, ?_⟩⟩⟩
  · rw [nI_leI (by omega) hi] at le
    rw [bA_ge le] at hp; exact hp
  · rw [nI_leI (by omega) hi] at nl
    rw [e3]; exact vp_in_nI (by omega) (by decide)
  · rw [nI_leI (by omega) hi] at nl
    rw [nI_clamp hi, h.2.2.2.2.2.2.1 i (by omega)]
    rw [bA_lt (by omega)] at hp; exact hp
theorem cx_kind {b : Int32} {S : HSt} {Post : Int32 → HSt → Prop} (hp : Post (kdB b) S) : wp_X5_kindOf b S Post := by
  unfold wp_X5_kindOf
  unfold kdB at hp
  refine c_within (fun ab => bs1 ?_) (fun nab => bs0 (c_within (fun cd => bs1 ?_) (fun ncd => bs0 ⟨fun e => ?_, fun ne => ⟨fun n10 => ?_, fun e10 => ?_⟩⟩)))
  · rw [if_pos ab] at hp; exact hp
  · rw [if_neg nab, if_pos cd] at hp; exact hp
  · rw [if_neg nab, if_neg ncd, if_pos e] at hp; exact hp
  · rw [if_neg nab, if_neg ncd, if_neg ne, if_neg n10] at hp; exact hp
  · rw [if_neg nab, if_neg ncd, if_neg ne, if_pos e10] at hp; exact hp
theorem cx_run {ad : AD} {x : Nat} {S : HSt} {σ : Sg} (h : CR ad x S σ) (hz : cN σ 5 ≤ 160) {k : Int32} (hk : ¬ k = 0) {K : Int32 → HSt → Prop} : ∀ (n w : Nat), w + n = cN σ 5 → K (nI (Rn (dD σ 1323) (cN σ 5) k w)) S → lp_X5_endOf_13a (ad 10 10) k K (n + 1) (nI w) S := by
  intro n
  induction n with
  | zero =>
    intro w e hK
    unfold lp_X5_endOf_13a
    rw [h.sz]
    rw [Rn_z (by omega)] at hK
    exact ⟨fun _ => hK, fun q => absurd (nI_le (by omega) (by omega)) q⟩
  | succ n ih =>
    intro w e hK
    unfold lp_X5_endOf_13a
    rw [h.sz]
    refine ⟨fun q => absurd q (nI_ge (by omega) (by omega)), fun _ => ⟨fun q => absurd q hk, fun _ => cx_byteAt h hz (by omega) (cx_kind ⟨fun ne => ?_, fun eq v22 e22 => ?_⟩)⟩⟩
    · rw [Rn_n ne] at hK; exact hK
    · rw [nI_1] at e22
      subst e22
      rw [Rn_y (by omega) eq] at hK
      exact ih (w + 1) (by omega) hK
theorem cx_endOf {ad : AD} {x : Nat} {S : HSt} {σ : Sg} (h : CR ad x S σ) (hz : cN σ 5 ≤ 160) {b : Nat} (hb : b < cN σ 5) {Post : Int32 → HSt → Prop} (hp : Post (nI (eO (dD σ 1323) (cN σ 5) b)) S) : wp_X5_endOf (ad 10 10) (nI b) S Post := by
  refine cx_byteAt h hz (by omega) (cx_kind (fun v7 e7 => ?_))
  rw [nI_1] at e7
  subst e7
  unfold eO at hp
  by_cases k0 : kdB (bA (dD σ 1323) (cN σ 5) b) = 0
  · rw [if_pos k0] at hp
    refine ⟨1, ?_⟩
    exact ⟨fun _ => hp, fun _ => ⟨fun _ => hp, fun q => absurd k0 q⟩⟩
  · rw [if_neg k0] at hp
    exact ⟨cN σ 5 - (b + 1) + 1, cx_run h hz k0 _ _ (by omega) hp⟩
theorem lit_len : ∀ k, k < 11 → litL.getD k 0 = (lit k).length ∧ (lit k).length ≤ 41 := by decide +kernel
theorem lit_shr : ∀ k, k < 11 → (nI (litL.getD k 0)) >>> ((0 : Int32) &&& 31) = nI (lit k).length := by decide +kernel
theorem lit_chr : ∀ k, k < 11 → ∀ j, j < (lit k).length → ((((litB.getD k []).getD j 0) &&& (255 : Int32)).toUInt32 % 65536).toInt32 = (lit k).getD j 0 ∧ narrow .char (.int ((lit k).getD j 0)) = .int ((lit k).getD j 0) := by decide +kernel
theorem c_len {k : Nat} (hk : k < 11) {S : HSt} {Post : Int32 → HSt → Prop} (hp : Post (nI (lit k).length) S) : wp_J0_length_8abf5 k S Post := by
  rw [← lit_shr k hk] at hp; exact hp
theorem c_chr {k : Nat} (hk : k < 11) {j : Nat} (hj : j < (lit k).length) {S : HSt} {Post : Int32 → HSt → Prop} (hp : Post ((lit k).getD j 0) S) : wp_J0_charAt_5068e k (nI j) S Post := by
  obtain ⟨l1, l2⟩ := lit_len k hk
  obtain ⟨c1, c2⟩ := lit_chr k hk j hj
  have hc : (nI j).toNatClampNeg = j := nI_clamp (by omega)
  refine ⟨fun q => absurd q (by decide), fun _ r1 => ⟨fun q => absurd q (nI_pos (by omega)), fun _ => ⟨fun _ => ⟨by rw [l1]; exact vp_in_nI hj (by omega), ?_, ?_, ?_⟩, fun q => absurd (by rw [l1]; exact nI_lt hj (by omega)) q⟩⟩⟩
  · rw [hc, c1]; exact c2
  · rw [hc, c1]; exact c2
  · rw [hc, c1]; exact hp
theorem cx_word_lp {ad : AD} {x : Nat} {S : HSt} {σ : Sg} (h : CR ad x S σ) (hz : cN σ 5 ≤ 160) {k : Nat} (hk : k < 11) {b : Nat} (hb : b ≤ 160) {K1 K0 : Int32 → HSt → Prop} : ∀ (M : List Int32) (j : Nat), j + M.length = (lit k).length → (∀ t, t < M.length → (lit k).getD (j + t) 0 = M.getD t 0) → (mtW (dD σ 1323) (cN σ 5) M (b + j) = true → ∀ w, K1 w S) → (mtW (dD σ 1323) (cN σ 5) M (b + j) = false → ∀ w, K0 w S) → lp_X5_isWord_15a k (ad 10 10) (nI b) K1 K0 (M.length + 1) (nI j) S := by
  have hl := (lit_len k hk).2
  intro M
  induction M with
  | nil =>
    intro j e hM h1 h0
    have e : j = (lit k).length := e
    refine c_len hk ⟨fun _ => h1 rfl _, fun q => absurd ?_ q⟩
    rw [e]; exact Int32.le_refl _
  | cons c M ih =>
    intro j e hM h1 h0
    have e : j + (M.length + 1) = (lit k).length := e
    have hc : (lit k).getD j 0 = c := hM 0 (Nat.succ_pos _)
    have em : mtW (dD σ 1323) (cN σ 5) (c :: M) (b + j) = ((bA (dD σ 1323) (cN σ 5) (b + j) == c) && mtW (dD σ 1323) (cN σ 5) M (b + j + 1)) := rfl
    rw [em] at h1 h0
    refine c_len hk ⟨fun q => absurd q (nI_ge (by omega) (by omega)), fun _ => ?_⟩
    rw [nI_add]
    refine cx_byteAt h hz (by omega) (c_chr hk (by omega) ⟨fun eq v20 e20 => ?_, fun ne => ?_⟩)
    · rw [nI_1] at e20
      subst e20
      have eb : (bA (dD σ 1323) (cN σ 5) (b + j) == c) = true := by rw [beq_iff_eq, eq, hc]
      rw [eb, Bool.true_and] at h1 h0
      exact ih (j + 1) (by omega) (fun t ht => by rw [show j + 1 + t = j + (t + 1) by omega]; exact hM (t + 1) (Nat.succ_lt_succ ht)) h1 h0
    · have eb : (bA (dD σ 1323) (cN σ 5) (b + j) == c) = false := by rw [beq_eq_false_iff_ne, ← hc]; exact ne
      rw [eb, Bool.false_and] at h0
      exact h0 rfl _
theorem cx_isWord {ad : AD} {x : Nat} {S : HSt} {σ : Sg} (h : CR ad x S σ) (hz : cN σ 5 ≤ 160) {k : Nat} (hk : k < 11) {b e : Nat} (hbe : b ≤ e) (he : e ≤ cN σ 5) {Post : Int32 → HSt → Prop} (h1 : isW (dD σ 1323) (cN σ 5) (lit k) b e = true → Post 1 S) (h0 : isW (dD σ 1323) (cN σ 5) (lit k) b e = false → Post 0 S) : wp_X5_isWord (ad 10 10) k (nI b) (nI e) S Post := by
  have hl := (lit_len k hk).2
  refine c_len hk ⟨fun eq => ⟨(lit k).length + 1, ?_⟩, fun ne => h0 ?_⟩
  · rw [nI_sub hbe] at eq
    have eq := nI_inj (by omega) (by omega) eq
    have ew : isW (dD σ 1323) (cN σ 5) (lit k) b e = mtW (dD σ 1323) (cN σ 5) (lit k) b := by
      unfold isW
      rw [eq, beq_self_eq_true, Bool.true_and]
    rw [ew] at h1 h0
    exact cx_word_lp h hz hk (by omega) (lit k) 0 (Nat.zero_add _) (fun t _ => by rw [Nat.zero_add]) (fun q _ => h1 q) (fun q _ => h0 q)
  · unfold isW
    rw [Bool.and_eq_false_iff]
    refine Or.inl ?_
    rw [beq_eq_false_iff_ne]
    intro q
    exact ne (by rw [nI_sub hbe, q])
theorem cx_word {ad : AD} {x : Nat} {S : HSt} {σ : Sg} (h : CR ad x S σ) (hz : cN σ 5 ≤ 160) {b e : Nat} (hbe : b ≤ e) (he : e ≤ cN σ 5) {Post : Int32 → HSt → Prop} (hp : Post (wdT (dD σ 1323) (cN σ 5) b e) S) : wp_X5_wordToken (ad 10 10) (nI b) (nI e) S Post := by
  unfold wdT at hp
  refine cx_isWord h hz (k := 1) (by decide) hbe he (fun w1 => bs1 ?_) (fun w1 => bs0 (cx_isWord h hz (k := 2) (by decide) hbe he (fun w2 => bs1 ?_) (fun w2 => bs0 (cx_isWord h hz (k := 3) (by decide) hbe he (fun w3 => bs1 ?_) (fun w3 => bs0 (cx_isWord h hz (k := 4) (by decide) hbe he (fun w4 => bs1 ?_) (fun w4 => bs0 (cx_isWord h hz (k := 5) (by decide) hbe he (fun w5 => bs1 ?_) (fun w5 => bs0 (cx_isWord h hz (k := 6) (by decide) hbe he (fun w6 => bs1 ?_) (fun w6 => bs0 (cx_isWord h hz (k := 7) (by decide) hbe he (fun w7 => bs1 ?_) (fun w7 => bs0 (cx_isWord h hz (k := 8) (by decide) hbe he (fun w8 => bs1 ?_) (fun w8 => bs0 (cx_isWord h hz (k := 9) (by decide) hbe he (fun w9 => bs1 ?_) (fun w9 => bs0 (cx_isWord h hz (k := 10) (by decide) hbe he (fun w10 => bs1 ?_) (fun w10 => bs0 ?_)))))))))))))))))))
  · rw [if_pos w1] at hp; exact hp
  · rw [if_neg (Bool.eq_false_iff.mp w1), if_pos w2] at hp; exact hp
  · rw [if_neg (Bool.eq_false_iff.mp w1), if_neg (Bool.eq_false_iff.mp w2), if_pos w3] at hp; exact hp
  · rw [if_neg (Bool.eq_false_iff.mp w1), if_neg (Bool.eq_false_iff.mp w2), if_neg (Bool.eq_false_iff.mp w3), if_pos w4] at hp; exact hp
  · rw [if_neg (Bool.eq_false_iff.mp w1), if_neg (Bool.eq_false_iff.mp w2), if_neg (Bool.eq_false_iff.mp w3), if_neg (Bool.eq_false_iff.mp w4), if_pos w5] at hp; exact hp
  · rw [if_neg (Bool.eq_false_iff.mp w1), if_neg (Bool.eq_false_iff.mp w2), if_neg (Bool.eq_false_iff.mp w3), if_neg (Bool.eq_false_iff.mp w4), if_neg (Bool.eq_false_iff.mp w5), if_pos w6] at hp; exact hp
  · rw [if_neg (Bool.eq_false_iff.mp w1), if_neg (Bool.eq_false_iff.mp w2), if_neg (Bool.eq_false_iff.mp w3), if_neg (Bool.eq_false_iff.mp w4), if_neg (Bool.eq_false_iff.mp w5), if_neg (Bool.eq_false_iff.mp w6), if_pos w7] at hp; exact hp
  · rw [if_neg (Bool.eq_false_iff.mp w1), if_neg (Bool.eq_false_iff.mp w2), if_neg (Bool.eq_false_iff.mp w3), if_neg (Bool.eq_false_iff.mp w4), if_neg (Bool.eq_false_iff.mp w5), if_neg (Bool.eq_false_iff.mp w6), if_neg (Bool.eq_false_iff.mp w7), if_pos w8] at hp; exact hp
  · rw [if_neg (Bool.eq_false_iff.mp w1), if_neg (Bool.eq_false_iff.mp w2), if_neg (Bool.eq_false_iff.mp w3), if_neg (Bool.eq_false_iff.mp w4), if_neg (Bool.eq_false_iff.mp w5), if_neg (Bool.eq_false_iff.mp w6), if_neg (Bool.eq_false_iff.mp w7), if_neg (Bool.eq_false_iff.mp w8), if_pos w9] at hp; exact hp
  · rw [if_neg (Bool.eq_false_iff.mp w1), if_neg (Bool.eq_false_iff.mp w2), if_neg (Bool.eq_false_iff.mp w3), if_neg (Bool.eq_false_iff.mp w4), if_neg (Bool.eq_false_iff.mp w5), if_neg (Bool.eq_false_iff.mp w6), if_neg (Bool.eq_false_iff.mp w7), if_neg (Bool.eq_false_iff.mp w8), if_neg (Bool.eq_false_iff.mp w9), if_pos w10] at hp; exact hp
  · rw [if_neg (Bool.eq_false_iff.mp w1), if_neg (Bool.eq_false_iff.mp w2), if_neg (Bool.eq_false_iff.mp w3), if_neg (Bool.eq_false_iff.mp w4), if_neg (Bool.eq_false_iff.mp w5), if_neg (Bool.eq_false_iff.mp w6), if_neg (Bool.eq_false_iff.mp w7), if_neg (Bool.eq_false_iff.mp w8), if_neg (Bool.eq_false_iff.mp w9), if_neg (Bool.eq_false_iff.mp w10)] at hp; exact hp
theorem cx_num {ad : AD} {x : Nat} {S : HSt} {σ : Sg} (h : CR ad x S σ) (hz : cN σ 5 ≤ 160) {e : Nat} (he : e ≤ cN σ 5) {K : Int32 → Int32 → HSt → Prop} : ∀ (n q : Nat) (v : Int32), q + n = e → K (nI e) (numF (dD σ 1323) (cN σ 5) n q v) S → lp_X5_numberToken_5a (nI e) (ad 10 10) K (n + 1) (nI q) v S := by
  intro n
  induction n with
  | zero =>
    intro q v eq hK
    have : q = e := by omega
    subst this
    exact ⟨fun _ => hK, fun z => absurd (Int32.le_refl _) z⟩
  | succ n ih =>
    intro q v eq hK
    refine ⟨fun z => absurd z (nI_ge (by omega) (by omega)), fun _ => cx_byteAt h hz (by omega) (fun v10 e10 v12 e12 => ?_)⟩
    rw [nI_1] at e12
    subst e10 e12
    exact ih (q + 1) _ (by omega) hK
theorem cx_sign {b : Int32} {S : HSt} {Post : Int32 → HSt → Prop} (hp : Post (sgT b) S) : wp_X5_signToken b S Post := by
  refine ⟨fun q => ?_, fun n40 => ⟨fun q => ?_, fun n41 => ⟨fun q => ?_, fun n42 => ⟨fun q => ?_, fun n43 => ⟨fun q => ?_, fun n44 => ⟨fun q => ?_, fun n45 => ⟨fun q => ?_, fun n46 => ⟨fun q => ?_, fun n47 => ⟨fun q => ?_, fun n48 => ⟨fun q => ?_, fun n49 => ⟨fun q => ?_, fun n50 => ⟨fun q => ?_, fun n51 => ⟨fun q => ?_, fun n52 => ⟨fun q => ?_, fun n53 => ⟨fun q => ?_, fun n54 => ⟨fun q => ?_, fun n55 => ⟨fun q => ?_, fun n56 => ⟨fun q => ?_, fun n57 => ⟨fun q => ?_, fun n58 => ⟨fun q => ?_, fun n59 => ⟨fun q => ?_, fun n60 => ⟨fun q => ?_, fun n61 => ?_⟩⟩⟩⟩⟩⟩⟩⟩⟩⟩⟩⟩⟩⟩⟩⟩⟩⟩⟩⟩⟩⟩
  · rw [q, show sgT 40 = (-23) by decide] at hp; exact hp
  · rw [q, show sgT 41 = (-24) by decide] at hp; exact hp
  · rw [q, show sgT 42 = (-8) by decide] at hp; exact hp
  · rw [q, show sgT 43 = (-6) by decide] at hp; exact hp
  · rw [q, show sgT 44 = (-27) by decide] at hp; exact hp
  · rw [q, show sgT 45 = (-7) by decide] at hp; exact hp
  · rw [q, show sgT 46 = (-27) by decide] at hp; exact hp
  · rw [q, show sgT 47 = (-27) by decide] at hp; exact hp
  · rw [q, show sgT 48 = (-27) by decide] at hp; exact hp
  · rw [q, show sgT 49 = (-27) by decide] at hp; exact hp
  · rw [q, show sgT 50 = (-27) by decide] at hp; exact hp
  · rw [q, show sgT 51 = (-27) by decide] at hp; exact hp
  · rw [q, show sgT 52 = (-27) by decide] at hp; exact hp
  · rw [q, show sgT 53 = (-27) by decide] at hp; exact hp
  · rw [q, show sgT 54 = (-27) by decide] at hp; exact hp
  · rw [q, show sgT 55 = (-27) by decide] at hp; exact hp
  · rw [q, show sgT 56 = (-27) by decide] at hp; exact hp
  · rw [q, show sgT 57 = (-27) by decide] at hp; exact hp
  · rw [q, show sgT 58 = (-27) by decide] at hp; exact hp
  · rw [q, show sgT 59 = (-25) by decide] at hp; exact hp
  · rw [q, show sgT 60 = (-4) by decide] at hp; exact hp
  · rw [q, show sgT 61 = (-5) by decide] at hp; exact hp
  · unfold sgT at hp
    rw [if_neg n40, if_neg n41, if_neg n42, if_neg n43, if_neg n45, if_neg n59, if_neg n60, if_neg n61] at hp; exact hp
theorem cx_token {ad : AD} {x : Nat} {S : HSt} {σ : Sg} (h : CR ad x S σ) (hz : cN σ 5 ≤ 160) {b e : Nat} (hbe : b ≤ e) (he : e ≤ cN σ 5) {Post : Int32 → HSt → Prop} (hp : Post (tkO (dD σ 1323) (cN σ 5) b e) S) : wp_X5_tokenOf (ad 10 10) (nI b) (nI e) S Post := by
  unfold tkO at hp
  refine cx_byteAt h hz (by omega) (cx_kind ⟨fun k1 => ?_, fun n1 => ⟨fun k2 => ⟨fun le => ?_, fun gt => ?_⟩, fun n2 => ?_⟩⟩)
  · rw [if_pos k1] at hp; exact cx_word h hz hbe he hp
  · rw [if_neg n1, if_pos k2] at hp
    rw [nI_sub hbe, show (4 : Int32) = nI 4 from rfl, nI_leI (by omega) (by decide)] at le
    rw [if_pos le] at hp
    exact ⟨e - b + 1, cx_num h hz he (e - b) b 0 (by omega) hp⟩
  · rw [if_neg n1, if_pos k2] at hp
    rw [nI_sub hbe, show (4 : Int32) = nI 4 from rfl, nI_leI (by omega) (by decide)] at gt
    rw [if_neg gt] at hp; exact hp
  · rw [if_neg n1, if_neg n2] at hp; exact cx_sign hp
/-- the rows of tokens -/
def TK (ad : AD) (σ : Sg) (N : Nat) (S : HSt) : Prop := gI S 602 (ad 10 10) = nI N ∧ ∀ i, i < N → gA S 254 (ad 10 21) i = tkN (dD σ 1323) (cN σ 5) i ∧ gA S 255 (ad 10 22) i = nI (plN (dD σ 1323) (cN σ 5) i)
theorem sk_sk {B : Nat → Int32} {z i : Nat} (h : i ≤ z) : sk B z (sk B z i) = sk B z i := Rn_n (sk_nb h)
theorem cx_split_lp {ad : AD} {x : Nat} {σ : Sg} (hz : cN σ 5 ≤ 160) {N : Nat} (hN : NT (dD σ 1323) (cN σ 5) N) {K : Int32 → Int32 → HSt → Prop} : ∀ (n w f j : Nat) (S : HSt), w + n = 160 → j ≤ w → w ≤ f → f ≤ cN σ 5 → sk (dD σ 1323) (cN σ 5) f = plN (dD σ 1323) (cN σ 5) j → (∀ i, i < j → plN (dD σ 1323) (cN σ 5) i < cN σ 5) → CR ad x S σ → TK ad σ j S → (∀ a b S', CR ad x S' σ → TK ad σ N S' → K a b S') → lp_X5_split_9a (ad 10 10) K (n + 1) (nI w) (nI f) S := by
  intro n
  induction n with
  | zero =>
    intro w f j S e h1 h2 h3 h4 h5 hC hT hK
    have : j = N := NT_un hN h5 (by rw [← h4]; have := sk_ge (B := dD σ 1323) (z := cN σ 5) f; have := sk_le (B := dD σ 1323) h3; omega)
    subst this
    exact ⟨fun _ => hK _ _ _ hC hT, fun q => absurd (nI_le (a := 160) (b := w) (by omega) (by omega)) q⟩
  | succ n ih =>
    intro w f j S e h1 h2 h3 h4 h5 hC hT hK
    unfold lp_X5_split_9a
    rw [hC.sz]
    refine ⟨fun q => absurd q (nI_ge (a := w) (b := 160) (by omega) (by decide)), fun _ => ⟨fun q => ?_, fun q => ?_⟩⟩
    · rw [nI_leI (by omega) (by omega)] at q
      have : j = N := NT_un hN h5 (by rw [← h4]; have := sk_ge (B := dD σ 1323) (z := cN σ 5) f; have := sk_le (B := dD σ 1323) h3; omega)
      subst this
      exact hK _ _ _ hC hT
    · rw [nI_leI (by omega) (by omega)] at q
      have hf : f < cN σ 5 := by omega
      have hg := eO_gt (B := dD σ 1323) (z := cN σ 5) f
      have hl := eO_le (B := dD σ 1323) hf
      refine cx_endOf hC hz hf (cx_byteAt hC hz (by omega) (cx_kind ⟨fun k3 v21 e21 => ?_, fun n3 => ?_⟩))
      · rw [nI_1] at e21
        subst e21
        have ee : eO (dD σ 1323) (cN σ 5) f = sk (dD σ 1323) (cN σ 5) f := by
          unfold eO
          rw [k3, if_neg (by decide)]
          exact (Rn_y hf k3).symm
        refine ih (w + 1) _ j S (by omega) (by omega) (by omega) hl ?_ h5 hC hT hK
        rw [ee, sk_sk h3]; exact h4
      · have es : sk (dD σ 1323) (cN σ 5) f = f := Rn_n n3
        rw [es] at h4
        have hj : j < 160 := by omega
        obtain ⟨t1, t2, t3⟩ := hC.1.g 603 10 21 254 160
        refine ⟨_, t1, cx_token hC hz (by omega) hl ⟨t2, by rw [hT.1, t3]; exact vp_in_nI hj (by decide), fun S30 e30 => ?_⟩⟩
        rw [hT.1, nI_clamp (by omega)] at e30
        have c30 : CR ad x S30 σ := by rw [e30]; exact hC.u254 _ _ _
        obtain ⟨p1, p2, p3⟩ := c30.1.g 604 10 22 255 160
        have g30 : gI S30 602 (ad 10 10) = nI j := by rw [e30]; exact hT.1
        refine ⟨_, p1, p2, by rw [g30, p3]; exact vp_in_nI hj (by decide), fun S37 e37 S40 e40 v43 e43 => ?_⟩
        rw [g30, nI_clamp (by omega)] at e37
        have g37 : gI S37 602 (ad 10 10) = nI j := by rw [e37]; exact g30
        rw [g37, nI_1] at e40
        rw [nI_1] at e43
        subst e43
        have c40 : CR ad x S40 σ := by rw [e40, e37]; exact (c30.u255 _ _ _).u602 _ _
        have hpl : plN (dD σ 1323) (cN σ 5) j < cN σ 5 := by omega
        refine ih (w + 1) _ (j + 1) S40 (by omega) (by omega) (by omega) hl ?_ (fun i hi => ?_) c40 ⟨?_, fun i hi => ?_⟩ hK
        · show _ = sk (dD σ 1323) (cN σ 5) (psN (dD σ 1323) (cN σ 5) (j + 1))
          rw [psN_s hpl, ← h4]
        · by_cases q : i = j
          · rw [q]; exact hpl
          · exact h5 i (by omega)
        · rw [e40, gI_same, if_pos rfl]
        · have ea : gA S40 254 (ad 10 21) i = upd (gA S 254 (ad 10 21)) j (tkO (dD σ 1323) (cN σ 5) f (eO (dD σ 1323) (cN σ 5) f)) i := by
            rw [e40, e37]
            show gA S30 254 (ad 10 21) i = _
            rw [e30, gA_uA, if_pos ⟨rfl, rfl⟩]
          have eb : gA S40 255 (ad 10 22) i = upd (gA S 255 (ad 10 22)) j (nI f) i := by
            rw [e40]
            show gA S37 255 (ad 10 22) i = _
            rw [e37, gA_uA, if_pos ⟨rfl, rfl⟩, e30]; rfl
          rw [ea, eb]
          by_cases q : i = j
          · subst q
            rw [pk_us, pk_us]
            refine ⟨?_, by rw [← h4]⟩
            unfold tkN
            rw [if_pos hpl, ← h4]
          · rw [pk_un q, pk_un q]
            exact hT.2 i (by omega)
theorem cx_split {ad : AD} {x : Nat} {S : HSt} {σ : Sg} (h : CR ad x S σ) (hz : cN σ 5 ≤ 160) {N : Nat} (hN : NT (dD σ 1323) (cN σ 5) N) {Post : Unit → HSt → Prop} (hP : ∀ S', CR ad x S' σ → TK ad σ N S' → Post () S') : wp_X5_split (ad 10 10) S Post := by
  intro S1 e1
  refine ⟨161, cx_split_lp hz hN 160 0 0 0 S1 rfl (Nat.le_refl _) (Nat.le_refl _) (Nat.zero_le _) rfl (fun i hi => absurd hi (Nat.not_lt_zero i)) (by rw [e1]; exact h.u602 _ _) ⟨?_, fun i hi => absurd hi (Nat.not_lt_zero i)⟩ (fun _ _ S' k1 k2 => hP S' k1 k2)⟩
  rw [e1, gI_same, if_pos rfl]; rfl
