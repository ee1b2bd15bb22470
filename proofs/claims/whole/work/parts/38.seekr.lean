/-! the chain of offers that pays most an hour: both sides seek alike -/
abbrev BB : Type := Int32 × Int64 × Int32 × (Nat → Int32)
def gainB (B : BB) (sum : Int64) (t : Int32) : Int64 := sum * B.2.2.1.toInt64 - B.2.1 * t.toInt64
def kpC (B : BB) (n : Int32) (sum : Int64) (t : Int32) : Prop := B.1 = 0 ∨ 0 < lg_cmp (gainB B sum t) 0 ∨ (lg_cmp (gainB B sum t) 0 = 0 ∧ n < B.1)
noncomputable def kp (B : BB) (tr : Nat → Int32) (n : Int32) (sum : Int64) (t : Int32) : BB := @ite _ (kpC B n sum t) (Classical.propDecidable _) (n, sum, t, tr) B
def tri (tr : Nat → Int32) (n k : Nat) : Prop := ∃ i, i < n ∧ tr i = nI k
noncomputable def exL (σ : Sg) (s : Nat) (rec : Nat → Nat → Int32 → Int64 → (Nat → Int32) → BB → BB) (n p : Nat) (h : Int32) (sum : Int64) (tr : Nat → Int32) : Nat → Nat → BB → BB
  | 0, _, B => B
  | r + 1, k, B => @ite _ (tri tr n k) (Classical.propDecidable _) (exL σ s rec n p h sum tr r (k + 1) B) (if hiI σ s k p h = 0 then exL σ s rec n p h sum tr r (k + 1) (rec (n + 1) (toN σ k) (enI σ s k p h) (sum + eaI σ s k p) (upd tr n (nI k)) (kp B (upd tr n (nI k)) (nI (n + 1)) (sum + eaI σ s k p) (enI σ s k p h - dD σ 1306 s))) else exL σ s rec n p h sum tr r (k + 1) B)
noncomputable def exd (σ : Sg) (s dep : Nat) : Nat → Nat → Nat → Int32 → Int64 → (Nat → Int32) → BB → BB
  | 0, _, _, _, _, _, B => B
  | d + 1, n, p, h, sum, tr, B => if n < dep then exL σ s (exd σ s dep d) n p h sum tr (cN σ 2) 0 B else B
/-- the reference's best so far and its trial -/
def MB (g : Nat → Nat) (m : Nat) (S : HSt) (B : BB) : Prop := gI S 1343 m = B.1 ∧ (B.1 ≠ 0 → gJ S 1344 m = B.2.1 ∧ gI S 1345 m = B.2.2.1) ∧ (∀ i, i < ix B.1 → gA S 246 (g 1346) i = B.2.2.2 i) ∧ ∃ b, b ≤ 3 ∧ B.1 = nI b
def MT (g : Nat → Nat) (S : HSt) (n : Nat) (tr : Nat → Int32) : Prop := ∀ i, i < n → gA S 247 (g 1347) i = tr i
theorem r_tried {g : Nat → Nat} {rec : Nat → Int32 → Int32 → Int32 → Int32 → Int32 → Int64 → HSt → (Unit → HSt → Prop) → Prop} {S : HSt} {n k : Nat} (hn : n ≤ 3) {tr : Nat → Int32} (hT : MT g S n tr) {K : Int32 → Int32 → HSt → Prop} (h1 : tri tr n k → ∀ w v, ¬ v = 0 → K w v S) (h0 : ¬ tri tr n k → ∀ w, K w 0 S) : ∃ f : Nat, lp_X12_chains_132a g rec (nI n) (nI k) K f 0 0 S := by
  refine ⟨n + 1, ?_⟩
  have key : ∀ (r j : Nat) (v : Int32), j + r = n → (¬ v = 0 → tri tr n k) → (v = 0 → ∀ i, i < j → tr i ≠ nI k) → lp_X12_chains_132a g rec (nI n) (nI k) K (r + 1) (nI j) v S := by
    intro r
    induction r with
    | zero =>
      intro j v hj hv hv0
      have : j = n := by omega
      subst this
      refine ⟨fun _ => ?_, fun z => absurd (Int32.le_refl _) z⟩
      by_cases hz : v = 0
      · subst hz; exact h0 (fun ⟨i, i1, i2⟩ => hv0 rfl i i1 i2) _
      · exact h1 (hv hz) _ _ hz
    | succ r ih =>
      intro j v hj hv hv0
      refine ⟨fun z => absurd z (nI_ge (by omega) (by omega)), fun _ => ⟨fun nz v18 e18 => ?_, fun z => ⟨vp_in_nI (by omega) (by decide), fun ne v22 e22 => ?_, fun eq v24 e24 => ?_⟩⟩⟩
      · rw [nI_1] at e18
        subst e18
        exact ih (j + 1) 1 (by omega) (fun _ => hv nz) (fun q => absurd q (by decide))
      · rw [nI_1] at e22
        subst e22
        rw [nI_clamp (by omega), hT j (by omega)] at ne
        refine ih (j + 1) 0 (by omega) (fun q => absurd rfl q) (fun _ i hi => ?_)
        by_cases e : i = j
        · subst e; exact ne
        · exact hv0 z i (by omega)
      · rw [nI_1] at e24
        subst e24
        rw [nI_clamp (by omega), hT j (by omega)] at eq
        exact ih (j + 1) 1 (by omega) (fun _ => ⟨j, by omega, eq⟩) (fun q => absurd q (by decide))
  exact key n 0 0 (by omega) (fun q => absurd rfl q) (fun _ i hi => absurd hi (Nat.not_lt_zero i))
/-- what the loop over the offers asks of the deeper search -/
def RecR (g : Nat → Nat) (m : Nat) (σ : Sg) (s : Int32) (dep d : Nat) : Prop := ∀ (n : Nat) (p h : Int32) (sum : Int64) (S : HSt) (B : BB) (tr : Nat → Int32) (Post : Unit → HSt → Prop), 0 < n → n ≤ dep → dep < n + d → MR g m S σ → MB g m S B → MT g S n tr → okN p (cN σ 0) → bet h 0 9999 → (∀ S', MR g m S' σ → MB g m S' (exd σ (ix s) dep d n (ix p) h sum tr (kp B tr (nI n) sum (h - dD σ 1306 (ix s)))) → MT g S' n tr → Post () S') → wp_G0 g d m s (nI n) (nI dep) p h sum S Post
theorem r_loopa {g : Nat → Nat} {m : Nat} {σ : Sg} (hi : Inv σ) {s : Int32} (os : okN s (cN σ 1)) {dep d n : Nat} (hdep : dep ≤ 3) (hn : n ≤ dep) (hd : dep < n + (d + 1)) (ih : RecR g m σ s dep d) {p h : Int32} (op : okN p (cN σ 0)) (hh : bet h 0 9999) {sum : Int64} {tr : Nat → Int32} {K : Int32 → HSt → Prop} : ∀ (r k : Nat) (S : HSt) (B : BB), k + r = cN σ 2 → MR g m S σ → MB g m S B → MT g S n tr → (∀ w S', MR g m S' σ → MB g m S' (if n < dep then exL σ (ix s) (exd σ (ix s) dep d) n (ix p) h sum tr r k B else B) → MT g S' n tr → K w S') → lp_X12_chains_112a g (wp_G0 g d) m (nI dep) (nI n) s p h sum K (r + 1) (nI k) S := by
  have h2 := hi.1.2.2.1
  have h0 := hi.1.1
  intro r
  induction r with
  | zero =>
    intro k S B hk hM hB hT hK
    have : k = cN σ 2 := by omega
    subst this
    have hc := hM.c 1313 2
    refine ⟨fun _ => hK _ S hM ?_ hT, fun z => absurd (hc ▸ Int32.le_refl _) z⟩
    split
    · exact hB
    · exact hB
  | succ r ihr =>
    intro k S B hk hM hB hT hK
    have hc := hM.c 1313 2
    have hkl : k < cN σ 2 := by omega
    have oo : okN (nI k) (cN σ 2) := okN_nI hkl (by omega)
    have hix : ix (nI k) = k := ix_nI (by omega)
    refine ⟨fun z => ?_, fun _ => ⟨fun le => ?_, fun nle => ?_⟩⟩
    · rw [hc] at z; exact absurd z (nI_ge hkl (by omega))
    · have : dep ≤ n := (nI_leI (by omega) (by omega)).mp le
      refine hK _ S hM ?_ hT
      rw [if_neg (by omega)]; exact hB
    · have hnd : n < dep := by
        have : ¬ dep ≤ n := fun z => nle ((nI_leI (by omega) (by omega)).mpr z)
        omega
      rw [if_pos hnd] at hK
      refine r_tried (by omega) hT (fun ht w v hv => ⟨fun _ v29 e29 => ?_, fun z => absurd z hv⟩) (fun ht w => ⟨fun z => absurd rfl z, fun _ => ?_⟩)
      · rw [nI_1] at e29
        subst e29
        unfold exL at hK
        rw [if_pos ht] at hK
        refine ihr (k + 1) S B (by omega) hM hB hT (fun w S' h1 h3 h4 => hK w S' h1 ?_ h4)
        rw [if_pos hnd] at h3; exact h3
      · refine r_hinders hM hi os oo op h ⟨fun c v35 e35 => ?_, fun c => ⟨vp_in_nI (by omega) (by decide), fun S38 e38 => ⟨vp_in_nI (by omega) (by decide), ?_⟩⟩⟩
        · rw [hix] at c
          rw [nI_1] at e35
          subst e35
          unfold exL at hK
          rw [if_neg ht, if_neg c] at hK
          refine ihr (k + 1) S B (by omega) hM hB hT (fun w S' h1 h3 h4 => hK w S' h1 ?_ h4)
          rw [if_pos hnd] at h3; exact h3
        · rw [hix] at c
          rw [nI_clamp (by omega)] at e38
          have hM2 : MR g m S38 σ := by rw [e38]; exact hM.pA0 247 _ _ _
          have hB2 : MB g m S38 B := by rw [e38]; exact hB
          have hT2 : MT g S38 (n + 1) (upd tr n (nI k)) := fun i hi' => by
            rw [e38, gA_uA, if_pos ⟨rfl, rfl⟩]
            by_cases e : i = n
            · subst e; simp [upd]
            · simp [upd, e]; exact hT i (by omega)
          refine r_ends hM2 hi os oo op h (r_earns hM2 hi os oo op ?_)
          have f2 := (fr_ok hi oo).2
          rw [hix] at f2
          have hen := hi0_bet hi (okN_lt os (by have := hi.1.2.1; omega)) hkl (show ix p < 8 by have := okN_lt op (by omega); omega) hh c
          rw [show gA S38 215 (g 1315) (nI k).toNatClampNeg = dD σ 1315 k from (hM2.a 1315 215 _).trans (by rw [show (nI k).toNatClampNeg = k from hix]), hix, nI_1]
          refine ih (n + 1) _ _ _ S38 B (upd tr n (nI k)) _ (by omega) (by omega) (by omega) hM2 hB2 hT2 f2 hen (fun S' h1 h3 h4 v51 e51 => ?_)
          rw [nI_1] at e51
          subst e51
          unfold exL at hK
          rw [if_neg ht, if_pos c] at hK
          refine ihr (k + 1) S' _ (by omega) h1 h3 (fun i hi' => (h4 i (by omega)).trans (by simp [upd, Nat.ne_of_lt hi'])) (fun w S'' h5 h6 h7 => hK w S'' h5 ?_ h7)
          rw [if_pos hnd] at h6; exact h6
theorem r_loopb {g : Nat → Nat} {m : Nat} {σ : Sg} (hi : Inv σ) {s : Int32} (os : okN s (cN σ 1)) {dep d n : Nat} (hdep : dep ≤ 3) (hn : n ≤ dep) (hd : dep < n + (d + 1)) (ih : RecR g m σ s dep d) {p h : Int32} (op : okN p (cN σ 0)) (hh : bet h 0 9999) {sum : Int64} {tr : Nat → Int32} {K : Int32 → Int32 → HSt → Prop} : ∀ (r k : Nat) (v0 : Int32) (S : HSt) (B : BB), k + r = cN σ 2 → MR g m S σ → MB g m S B → MT g S n tr → (∀ w v0 S', MR g m S' σ → MB g m S' (if n < dep then exL σ (ix s) (exd σ (ix s) dep d) n (ix p) h sum tr r k B else B) → MT g S' n tr → K w v0 S') → lp_X12_chains_112b g (wp_G0 g d) m (nI dep) (nI n) s p h sum K (r + 1) (nI k) v0 S := by
  have h2 := hi.1.2.2.1
  have h0 := hi.1.1
  intro r
  induction r with
  | zero =>
    intro k v0 S B hk hM hB hT hK
    have : k = cN σ 2 := by omega
    subst this
    have hc := hM.c 1313 2
    refine ⟨fun _ => hK _ _ S hM ?_ hT, fun z => absurd (hc ▸ Int32.le_refl _) z⟩
    split
    · exact hB
    · exact hB
  | succ r ihr =>
    intro k v0 S B hk hM hB hT hK
    have hc := hM.c 1313 2
    have hkl : k < cN σ 2 := by omega
    have oo : okN (nI k) (cN σ 2) := okN_nI hkl (by omega)
    have hix : ix (nI k) = k := ix_nI (by omega)
    refine ⟨fun z => ?_, fun _ => ⟨fun le => ?_, fun nle => ?_⟩⟩
    · rw [hc] at z; exact absurd z (nI_ge hkl (by omega))
    · have : dep ≤ n := (nI_leI (by omega) (by omega)).mp le
      refine hK _ _ S hM ?_ hT
      rw [if_neg (by omega)]; exact hB
    · have hnd : n < dep := by
        have : ¬ dep ≤ n := fun z => nle ((nI_leI (by omega) (by omega)).mpr z)
        omega
      rw [if_pos hnd] at hK
      refine r_tried (by omega) hT (fun ht w v hv => ⟨fun _ v29 e29 => ?_, fun z => absurd z hv⟩) (fun ht w => ⟨fun z => absurd rfl z, fun _ => ?_⟩)
      · rw [nI_1] at e29
        subst e29
        unfold exL at hK
        rw [if_pos ht] at hK
        refine ihr (k + 1) _ S B (by omega) hM hB hT (fun w _ S' h1 h3 h4 => hK w _ S' h1 ?_ h4)
        rw [if_pos hnd] at h3; exact h3
      · refine r_hinders hM hi os oo op h ⟨fun c v35 e35 => ?_, fun c => ⟨vp_in_nI (by omega) (by decide), fun S38 e38 => ⟨vp_in_nI (by omega) (by decide), ?_⟩⟩⟩
        · rw [hix] at c
          rw [nI_1] at e35
          subst e35
          unfold exL at hK
          rw [if_neg ht, if_neg c] at hK
          refine ihr (k + 1) _ S B (by omega) hM hB hT (fun w _ S' h1 h3 h4 => hK w _ S' h1 ?_ h4)
          rw [if_pos hnd] at h3; exact h3
        · rw [hix] at c
          rw [nI_clamp (by omega)] at e38
          have hM2 : MR g m S38 σ := by rw [e38]; exact hM.pA0 247 _ _ _
          have hB2 : MB g m S38 B := by rw [e38]; exact hB
          have hT2 : MT g S38 (n + 1) (upd tr n (nI k)) := fun i hi' => by
            rw [e38, gA_uA, if_pos ⟨rfl, rfl⟩]
            by_cases e : i = n
            · subst e; simp [upd]
            · simp [upd, e]; exact hT i (by omega)
          refine r_ends hM2 hi os oo op h (r_earns hM2 hi os oo op ?_)
          have f2 := (fr_ok hi oo).2
          rw [hix] at f2
          have hen := hi0_bet hi (okN_lt os (by have := hi.1.2.1; omega)) hkl (show ix p < 8 by have := okN_lt op (by omega); omega) hh c
          rw [show gA S38 215 (g 1315) (nI k).toNatClampNeg = dD σ 1315 k from (hM2.a 1315 215 _).trans (by rw [show (nI k).toNatClampNeg = k from hix]), hix, nI_1]
          refine ih (n + 1) _ _ _ S38 B (upd tr n (nI k)) _ (by omega) (by omega) (by omega) hM2 hB2 hT2 f2 hen (fun S' h1 h3 h4 v51 e51 => ?_)
          rw [nI_1] at e51
          subst e51
          unfold exL at hK
          rw [if_neg ht, if_pos c] at hK
          refine ihr (k + 1) _ S' _ (by omega) h1 h3 (fun i hi' => (h4 i (by omega)).trans (by simp [upd, Nat.ne_of_lt hi'])) (fun w _ S'' h5 h6 h7 => hK w _ S'' h5 ?_ h7)
          rw [if_pos hnd] at h6; exact h6
theorem r_copy {g : Nat → Nat} {m : Nat} {σ : Sg} {rec : Nat → Int32 → Int32 → Int32 → Int32 → Int32 → Int64 → HSt → (Unit → HSt → Prop) → Prop} {n : Nat} (hn : n ≤ 3) {tr : Nat → Int32} {sum : Int64} {t : Int32} {S : HSt} (hM : MR g m S σ) (hT : MT g S n tr) {K : Int32 → HSt → Prop} (hK : ∀ w S', MR g m S' σ → MB g m S' (nI n, sum, t, tr) → MT g S' n tr → K w S') : ∃ f : Nat, lp_X12_chains_83a g rec (nI n) K f 0 (uI (uJ (uI S 1343 m (nI n)) 1344 m sum) 1345 m t) := by
  refine ⟨n + 1, ?_⟩
  have key : ∀ (r j : Nat) (S' : HSt), j + r = n → MR g m S' σ → MT g S' n tr → gI S' 1343 m = nI n → gJ S' 1344 m = sum → gI S' 1345 m = t → (∀ i, i < j → gA S' 246 (g 1346) i = tr i) → lp_X12_chains_83a g rec (nI n) K (r + 1) (nI j) S' := by
    intro r
    induction r with
    | zero =>
      intro j S' hj h1 h2 h3 h4 h5 h6
      have : j = n := by omega
      subst this
      refine ⟨fun _ => hK _ S' h1 ⟨h3, fun _ => ⟨h4, h5⟩, fun i hi => h6 i (by rw [show ix (nI j, sum, t, tr).1 = j from ix_nI (by omega)] at hi; exact hi), j, hn, rfl⟩ h2, fun z => absurd (Int32.le_refl _) z⟩
    | succ r ih =>
      intro j S' hj h1 h2 h3 h4 h5 h6
      refine ⟨fun z => absurd z (nI_ge (by omega) (by omega)), fun _ => ⟨vp_in_nI (by omega) (by decide), vp_in_nI (by omega) (by decide), fun S74 e74 v77 e77 => ?_⟩⟩
      rw [nI_1] at e77
      rw [nI_clamp (by omega), h2 j (by omega)] at e74
      subst e74 e77
      refine ih (j + 1) _ (by omega) (h1.pA0 246 _ _ _) (fun i hi => by rw [gA_uA, if_neg (fun z => absurd z.1 (by decide))]; exact h2 i hi) h3 h4 h5 (fun i hi => ?_)
      rw [gA_uA, if_pos ⟨rfl, rfl⟩]
      by_cases e : i = j
      · subst e; simp [upd]
      · simp [upd, e]; exact h6 i (by omega)
  exact key n 0 _ (by omega) (((hM.pI0 1343 _).pJ0 1344 _ _).pI0 1345 _) hT (by rw [gI_uI, if_neg (fun z => absurd z.1 (by decide))]; show gI (uI S 1343 m (nI n)) 1343 m = _; rw [gI_same, if_pos rfl]) (by simp [gJ, uI, uJ, up2]) (by rw [gI_same, if_pos rfl]) (fun i hi => absurd hi (Nat.not_lt_zero i))
theorem r_chains {g : Nat → Nat} {m : Nat} {σ : Sg} (hi : Inv σ) {s : Int32} (os : okN s (cN σ 1)) {dep : Nat} (hdep : dep ≤ 3) : ∀ d, RecR g m σ s dep d := by
  intro d
  induction d with
  | zero => intro n p h sum S B tr Post hn0 hn hd; omega
  | succ d ih =>
    intro n p h sum S B tr Post hn0 hn hd hM hB hT op hh hP
    have hin := okN_in os hi.1.2.1 (show 5 < 2 ^ 31 by decide)
    have h6 : gA S 206 (g 1306) s.toNatClampNeg = dD σ 1306 (ix s) := hM.a 1306 206 _
    refine ⟨hin, fun v2 e2 => ?_⟩
    rw [h6] at e2
    subst e2
    obtain ⟨b1, b2, b3, b, b4, b5⟩ := hB
    refine ⟨fun z => absurd z (nI_nle hn0 (by omega)), fun _ v55 e55 => ?_⟩
    have keep : kpC B (nI n) sum (h - dD σ 1306 (ix s)) → ∃ f : Nat, lp_X12_chains_83a g (wp_G0 g d) (nI n) (fun (w68 : Int32) (S79 : HSt) => (∃ n81 : Nat, lp_X12_chains_112b g (wp_G0 g d) m (nI dep) (nI n) s p h sum (fun (w82 : Int32) (w83 : Int32) (S130 : HSt) => Post () S130) n81 (0 : Int32) w68 S79)) f (0 : Int32) (uI (uJ (uI S 1343 m (nI n)) 1344 m sum) 1345 m (h - dD σ 1306 (ix s))) := fun hc =>
      r_copy (by omega) hM hT (fun w S' h1 h2 h3 => ⟨cN σ 2 + 1, r_loopb hi os hdep hn hd ih op hh (cN σ 2) 0 w S' _ (by omega) h1 h2 h3 (fun w' v' S'' h4 h5 h6 => hP S'' h4 (by unfold exd kp; rw [if_pos hc]; exact h5) h6)⟩)
    have pass : ¬ kpC B (nI n) sum (h - dD σ 1306 (ix s)) → ∃ f : Nat, lp_X12_chains_112a g (wp_G0 g d) m (nI dep) (nI n) s p h sum (fun (w209 : Int32) (S256 : HSt) => Post () S256) f (0 : Int32) S := fun hc =>
      ⟨cN σ 2 + 1, r_loopa hi os hdep hn hd ih op hh (cN σ 2) 0 S B (by omega) hM ⟨b1, b2, b3, b, b4, b5⟩ hT (fun w' S'' h4 h5 h6 => hP S'' h4 (by unfold exd kp; rw [if_neg hc]; exact h5) h6)⟩
    have hg : B.1 ≠ 0 → v55 = gainB B sum (h - dD σ 1306 (ix s)) := fun hz => by
      rw [e55, (b2 hz).1, (b2 hz).2]; rfl
    rw [b1]
    refine ⟨fun z S58 e58 S61 e61 S64 e64 => ?_, fun nz => ⟨fun gp S133 e133 S136 e136 S139 e139 => ?_, fun ng => ⟨fun ne => pass ?_, fun eq => ⟨fun le => pass ?_, fun nl S309 e309 S312 e312 S315 e315 => ?_⟩⟩⟩⟩
    · subst e58 e61 e64; exact keep (Or.inl z)
    · subst e133 e136 e139; rw [hg nz] at gp; exact keep (Or.inr (Or.inl gp))
    · rw [hg nz] at ng ne
      exact fun q => q.elim nz (fun q => q.elim ng (fun q => ne q.1))
    · rw [hg nz] at ng
      exact fun q => q.elim nz (fun q => q.elim ng (fun q => absurd q.2 (Int32.not_lt.mpr le)))
    · subst e309 e312 e315
      rw [hg nz] at eq
      exact keep (Or.inr (Or.inr ⟨eq, Int32.not_le.mp nl⟩))
def B0 : BB := (0, 0, 0, fun _ => 0)
noncomputable def skB (σ : Sg) (s dep : Nat) : BB := exd σ s dep 5 0 (poN σ s) (dD σ 1306 s) 0 (fun _ => 0) B0
theorem r_seeks {g : Nat → Nat} {m : Nat} {S : HSt} {σ : Sg} (h : MR g m S σ) (hi : Inv σ) {s : Int32} (os : okN s (cN σ 1)) {dep : Nat} (hdep : dep ≤ 3) {Post : Unit → HSt → Prop} (hP : ∀ S', MR g m S' σ → MB g m S' (skB σ (ix s) dep) → Post () S') : wp_X12_seeks g m s (nI dep) S Post := by
  have hin := okN_in os hi.1.2.1 (show 5 < 2 ^ 31 by decide)
  intro S1 e1
  have h1 : MR g m S1 σ := by rw [e1]; exact h.pI0 1343 _
  have hB : MB g m S1 B0 := by
    refine ⟨by rw [e1, gI_same, if_pos rfl]; rfl, fun z => absurd rfl z, fun i hi => absurd hi (by decide +revert), 0, by decide, by decide⟩
  have e5 : gA S1 205 (g 1305) s.toNatClampNeg = dD σ 1305 (ix s) := h1.a 1305 205 _
  have e6 : gA S1 206 (g 1306) s.toNatClampNeg = dD σ 1306 (ix s) := h1.a 1306 206 _
  refine ⟨hin, hin, ?_⟩
  rw [e5, e6]
  have hsl := okN_lt os (by have := hi.1.2.1; omega)
  refine ⟨hin, fun v2 e2 => ⟨fun _ => ⟨cN σ 2 + 1, ?_⟩, fun z => absurd (by decide) z⟩⟩
  exact r_loopa hi os (n := 0) (d := 4) hdep (by omega) (by omega) (r_chains hi os hdep 4) (po_ok hi os) (hi.2.2.2.1 _ hsl).2.1 (cN σ 2) 0 S1 B0 (by omega) h1 hB (fun i hi => absurd hi (Nat.not_lt_zero i)) (fun w S' h4 h5 h6 => hP S' h4 h5)
