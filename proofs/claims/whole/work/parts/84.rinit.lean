/-! the reference's constructor: the tape, the first text, the sheets -/
def σr : Sg := (fun _ => 0, fun f i => if f = 1323 then (if i < 32 then PLb.getD i 0 else 0) else 0)
def mk4 (σ : Sg) (j : Nat) : Nat → Sg
  | 0 => σ
  | r + 1 => mk4 (sD σ 1339 j (-1)) (j + 1) r
def σz : Sg := mk4 σr 0 4
def LT1 : List (Int32 × Int32) := [(1, 0), (0, 1), (6, 0), (1, 0), (0, 2), (6, 0), (2, 0)]
def LT2 : List (Int32 × Int32) := [(1, 0), (0, 1), (6, 0), (1, 0), (0, 2), (6, 0), (2, 0), (1, 0), (0, 4), (6, 0)]
theorem rd1_r : rd1 (TS σr 32) = (9, LT1, false) := by decide +kernel
theorem rd2_r : rd2 (TS σr 32) = (14, LT2, false) := by decide +kernel
def σq (k : Nat) : Sg := (fun c => if c = 5 then k else 0, fun f i => if f = 1323 then (if i < k then (lit 0).getD i 0 else σz.2 f i) else σz.2 f i)
theorem rd1_q : rd1 (tT (σq 41)) = (9, LT1, false) := by decide +kernel
theorem rd2_q : rd2 (tT (σq 41)) = (14, LT2, false) := by decide +kernel
theorem tk_q : tT (σq 41) 14 = -26 := by decide +kernel
theorem tk_r : TS σr 32 14 = -26 := by decide +kernel
theorem mpers_mtab : ∀ q ∈ mpers, ∃ r ∈ mtab, r.1 = q.1 ∧ r.2.1 = q.2 := by decide +kernel
theorem mpers_plain : ∀ q ∈ mpers, q.2 ≠ 242 ∧ q.2 ≠ 249 := by decide +kernel
theorem mpers_1323 : ∀ q ∈ mpers, (q.2 = 223 ↔ q.1 = 1323) := by decide +kernel
theorem PLb_b : ∀ k, k < 32 → bet (PLb.getD k 0) 0 255 := by unfold bet; decide +kernel
theorem r_tapes {g : Nat → Nat} {m : Nat} {S : HSt} (hM : MI g m S) (hV : ∀ i, gA S 242 (g 1342) i = PLb.getD i 0) {K : Int32 → HSt → Prop} (hK : K (nI 32) (sA S 223 (g 1323) (fun i => if i < 32 then PLb.getD i 0 else 0))) : ∀ r j, j + r = 32 → lp_X12_init_788a m K (r + 1) (nI j) (sA S 223 (g 1323) (fun i => if i < j then PLb.getD i 0 else 0)) := by
  obtain ⟨a1, a2, a3⟩ := hM.2 _ mt_1342
  obtain ⟨b1, b2, b3⟩ := hM.2 _ mt_1323
  have a1 : gR S 1342 m = some (g 1342) := a1
  have a2 : gK S (g 1342) = 242 := a2
  have a3 : gN S (g 1342) = 32 := a3
  have b1 : gR S 1323 m = some (g 1323) := b1
  have b2 : gK S (g 1323) = 223 := b2
  have b3 : gN S (g 1323) = 160 := b3
  intro r
  induction r with
  | zero =>
    intro j hj
    have : j = 32 := by omega
    subst this
    refine ⟨g 1342, a1, a2, fun _ => hK, fun z => absurd ?_ z⟩
    show nI (gN S (g 1342)) ≤ nI 32
    rw [a3]; exact Int32.le_refl _
  | succ r ih =>
    intro j hj
    refine ⟨g 1342, a1, a2, fun z => absurd z ?_, fun _ => ⟨g 1323, b1, g 1342, a1, a2, ?_, b2, ?_, fun S706 e v709 ev => ?_⟩⟩
    · show ¬ nI (gN S (g 1342)) ≤ nI j
      rw [a3]; exact nI_ge (by omega) (by decide)
    · show vp_in (nI j) (gN S (g 1342))
      rw [a3]; exact vp_in_nI (by omega) (by decide)
    · show vp_in (nI j) (gN S (g 1323))
      rw [b3]; exact vp_in_nI (by omega) (by decide)
    · rw [nI_1] at ev
      subst ev
      have e2 : S706 = sA S 223 (g 1323) (fun i => if i < j + 1 then PLb.getD i 0 else 0) := by
        rw [e, nI_clamp (by omega)]
        have eA : gA (sA S 223 (g 1323) (fun i => if i < j then PLb.getD i 0 else 0)) 242 (g 1342) = gA S 242 (g 1342) := by rw [gA_sA, if_neg (fun z => absurd z.1 (by decide))]
        rw [eA, hV j]
        show sA (sA S 223 (g 1323) _) 223 (g 1323) (upd (gA (sA S 223 (g 1323) _) 223 (g 1323)) j _) = _
        rw [gA_sA, if_pos ⟨rfl, rfl⟩, sA_i2]
        congr 1
        funext i
        show (if i = j then PLb.getD j 0 else (if i < j then PLb.getD i 0 else 0)) = (if i < j + 1 then PLb.getD i 0 else 0)
        by_cases q : i = j
        · rw [if_pos q, if_pos (by omega), q]
        · rw [if_neg q]
          by_cases q2 : i < j
          · rw [if_pos q2, if_pos (by omega)]
          · rw [if_neg q2, if_neg (by omega)]
      rw [e2]
      exact ih (j + 1) (by omega)
/-- what was read becomes the next text -/
theorem r_done {g : Nat → Nat} {m : Nat} {σ σ' : Sg} {z : Nat} {S5 S9 : HSt} (eσ : σ' = sD (sD (sD (sg3 (sN σ 5 0) S5 g) 1328 (3 * cN σ 3) 0) 1328 (3 * cN σ 3 + 1) (nI (rd1 (TS σ z)).2.1.length)) 1328 (3 * cN σ 3 + 2) (nI (rd2 (TS σ z)).2.1.length)) (r28 : ∀ i, i < 3 * cN σ 3 → gA S5 228 (g 1328) i = dD σ 1328 i) (k9 : RP g m σ' z S9) : MR g m (uI S9 1325 m (nI (cN σ 3 + 1))) (stT σ (fun j => gA S9 226 (g 1326) (160 * cN σ 3 + j)) (fun j => gA S9 227 (g 1327) (160 * cN σ 3 + j)) (rd1 (TS σ z)).2.1.length (rd2 (TS σ z)).2.1.length) := by
  have r28' : ∀ i, i < 3 * cN σ 3 → gA S9 228 (g 1328) i = dD σ 1328 i := by
    intro i hi
    rw [k9.1.2 i, eσ, dD_same, if_neg (show ¬ i = 3 * cN σ 3 + 2 by omega), dD_same, if_neg (show ¬ i = 3 * cN σ 3 + 1 by omega), dD_same, if_neg (show ¬ i = 3 * cN σ 3 by omega)]
    exact r28 i hi
  have mp : ∀ q ∈ mpers, ∀ i, gA S9 q.2 (g q.1) i = dD σ q.1 i := by
    intro q hq i
    rw [k9.1.1.2.2.1 q hq i, eσ, dD_sD, if_neg (fun y => (mpers_no q hq).2.2.1 y.1), dD_sD, if_neg (fun y => (mpers_no q hq).2.2.1 y.1), dD_sD, if_neg (fun y => (mpers_no q hq).2.2.1 y.1)]
    show (if q.1 = 1328 then _ else dD σ q.1 i) = _
    rw [if_neg (mpers_no q hq).2.2.1]
  have m67 : ∀ i, i < 160 * cN σ 3 → gA S9 226 (g 1326) i = dD σ 1326 i ∧ gA S9 227 (g 1327) i = dD σ 1327 i := by
    have := k9.1.1.2.2.2.1
    rw [eσ] at this; exact this
  have cnt : ∀ q ∈ mcnt, gI S9 q.1 m = nI (cN (sN σ 5 0) q.2) := by
    have := k9.1.1.2.1
    rw [eσ] at this; exact this
  refine ⟨k9.1.1.1.ks (Ks_uI rfl), fun q hq => ?_, fun q hq i => ?_, fun i hi => ⟨?_, ?_⟩, fun i hi => ?_, fun i hi => ?_⟩
  · rw [gI_uI]
    by_cases hf : q.1 = 1325
    · rw [if_pos ⟨hf, rfl⟩, (mcnt_inj q hq (1325, 3) (by decide)).mp hf]; rfl
    · have h3' : q.2 ≠ 3 := fun y => hf ((mcnt_inj q hq (1325, 3) (by decide)).mpr y)
      rw [if_neg (fun y => hf y.1), cnt q hq]
      show nI (va_up σ.1 5 0 q.2) = nI (va_up (va_up σ.1 5 0) 3 (cN σ 3 + 1) q.2)
      rw [va_up_ne _ _ h3']
  · rw [st_o _ _ _ _ _ _ _ (mpers_no q hq).1 (mpers_no q hq).2.1 (mpers_no q hq).2.2.1]
    exact mp q hq i
  · rw [st_1326]
    show gA S9 226 (g 1326) i = _
    split
    · rename_i le
      show _ = gA S9 226 (g 1326) (160 * cN σ 3 + (i - 160 * cN σ 3))
      rw [show 160 * cN σ 3 + (i - 160 * cN σ 3) = i by omega]
    · exact (m67 i (by omega)).1
  · rw [st_1327]
    show gA S9 227 (g 1327) i = _
    split
    · rename_i le
      show _ = gA S9 227 (g 1327) (160 * cN σ 3 + (i - 160 * cN σ 3))
      rw [show 160 * cN σ 3 + (i - 160 * cN σ 3) = i by omega]
    · exact (m67 i (by omega)).2
  · have hi : i < 3 * (cN σ 3 + 1) := hi
    rw [st_1328]
    show gA S9 228 (g 1328) i = _
    by_cases q0 : i = 3 * cN σ 3
    · rw [if_pos q0, k9.1.2 i, eσ, dD_same, if_neg (show ¬ i = 3 * cN σ 3 + 2 by omega), dD_same, if_neg (show ¬ i = 3 * cN σ 3 + 1 by omega), dD_same, if_pos q0]
    · rw [if_neg q0]
      by_cases q1 : i = 3 * cN σ 3 + 1
      · rw [if_pos q1, k9.1.2 i, eσ, dD_same, if_neg (show ¬ i = 3 * cN σ 3 + 2 by omega), dD_same, if_pos q1]
      · rw [if_neg q1]
        by_cases q2 : i = 3 * cN σ 3 + 2
        · rw [if_pos q2, k9.1.2 i, eσ, dD_same, if_pos q2]
        · rw [if_neg q2]; exact r28' i (by omega)
  · exact k9.1.1.2.2.2.2.2 i hi
theorem r_mark {g : Nat → Nat} {m : Nat} {K : Int32 → HSt → Prop} : ∀ (r j : Nat) (S : HSt) (σ : Sg), j + r = 4 → MR g m S σ → (∀ S', MR g m S' (mk4 σ j r) → K (nI 4) S') → lp_X12_init_836a m K (r + 1) (nI j) S := by
  intro r
  induction r with
  | zero =>
    intro j S σ hj h hK
    have : j = 4 := by omega
    subst this
    exact ⟨fun _ => hK S h, fun z => absurd (Int32.le_refl _) z⟩
  | succ r ih =>
    intro j S σ hj h hK
    obtain ⟨b1, b2, b3⟩ := h.1.2 _ mt_1339
    refine ⟨fun z => absurd z (nI_ge (b := 4) (by omega) (by decide)), fun _ => ⟨_, b1, b2, ?_, fun S734 e v ev => ?_⟩⟩
    · have b3 : gN S (g 1339) = 4 := b3
      show vp_in (nI j) (gN S (g 1339))
      rw [b3]; exact vp_in_nI (by omega) (by decide)
    · rw [nI_1] at ev
      rw [nI_clamp (by omega)] at e
      subst ev e
      exact ih (j + 1) _ _ (by omega) (h.pA 1339 239 j (-1)) hK
theorem st_sD (σ : Sg) (op vl : Nat → Int32) (p1 p2 j : Nat) (v : Int32) : sD (stT σ op vl p1 p2) 1339 j v = stT (sD σ 1339 j v) op vl p1 p2 := by
  refine Prod.ext rfl ?_
  funext f i
  show dD (sD (stT σ op vl p1 p2) 1339 j v) f i = dD (stT (sD σ 1339 j v) op vl p1 p2) f i
  by_cases h6 : f = 1326
  · subst h6; rw [dD_sD, if_neg (fun z => absurd z.1 (by decide)), st_1326, st_1326]; rfl
  · by_cases h7 : f = 1327
    · subst h7; rw [dD_sD, if_neg (fun z => absurd z.1 (by decide)), st_1327, st_1327]; rfl
    · by_cases h8 : f = 1328
      · subst h8; rw [dD_sD, if_neg (fun z => absurd z.1 (by decide)), st_1328, st_1328]; rfl
      · rw [st_o _ _ _ _ _ _ _ h6 h7 h8, dD_sD, dD_sD, st_o _ _ _ _ _ _ _ h6 h7 h8]
theorem st_mk (op vl : Nat → Int32) (p1 p2 : Nat) : ∀ (r j : Nat) (σ : Sg), mk4 (stT σ op vl p1 p2) j r = stT (mk4 σ j r) op vl p1 p2 := by
  intro r
  induction r with
  | zero => intro j σ; rfl
  | succ r ih =>
    intro j σ
    show mk4 (sD (stT σ op vl p1 p2) 1339 j (-1)) (j + 1) r = _
    rw [st_sD]; exact ih _ _
/-- the first office -/
def s0 (op vl : Nat → Int32) : Sg := stT σz op vl LT1.length LT2.length
theorem r_init {m : Nat} {S : HSt} (hm : gK S m = 0) {Post : Unit → HSt → Prop} (hP : ∀ S' g op vl, fitL LT2 op vl → MR g m S' (s0 op vl) → Post () S') : wp_X12_init m (nO S 13 m) Post := by
  refine r_init0 hm (fun S1 g ⟨f1, f2, f3⟩ => ⟨33, ?_⟩)
  have e0 : S1 = sA S1 223 (g 1323) (fun i => if i < 0 then PLb.getD i 0 else 0) := by
    refine (sA_i1 ?_).symm
    funext i
    rw [if_neg (Nat.not_lt_zero i)]
    exact f3 _ mt_1323 i
  rw [e0]
  refine r_tapes (S := S1) f2 (fun i => f3 _ mt_1342 i) ?_ 32 0 rfl
  obtain ⟨a1, a2, a3⟩ := f2.2 _ mt_1342
  refine ⟨_, a1, a2, fun S5 e5 => ⟨g, ?_, ?_⟩⟩
  · rw [e5]; exact (f2.ks (Ks_sA rfl)).ks (Ks_uI rfl)
  have e5 : S5 = uI (sA S1 223 (g 1323) (fun i => if i < 32 then PLb.getD i 0 else 0)) 1350 m (nI 32) := by
    rw [e5]
    have a3 : gN S1 (g 1342) = 32 := a3
    show uI _ 1350 m (nI (gN S1 (g 1342))) = _
    rw [a3]
  have hM : MR g m S5 (sN σr 5 0) := by
    refine ⟨by rw [e5]; exact (f2.ks (Ks_sA rfl)).ks (Ks_uI rfl), fun q hq => ?_, fun q hq i => ?_, fun i hi => absurd hi (Nat.not_lt_zero i), fun i hi => absurd hi (Nat.not_lt_zero i), fun i hi => ?_⟩
    · have : ∀ q ∈ mcnt, q.1 ≠ 1350 := by decide
      rw [e5, gI_uI, if_neg (fun z => this q hq z.1)]
      show gI S1 q.1 m = nI (va_up (fun _ => 0) 5 0 q.2)
      rw [f1]
      have : va_up (fun _ => 0) 5 0 q.2 = 0 := by unfold va_up; split <;> rfl
      rw [this]; rfl
    · rw [e5]
      show gA (sA S1 223 (g 1323) (fun i => if i < 32 then PLb.getD i 0 else 0)) q.2 (g q.1) i = (if q.1 = 1323 then (if i < 32 then PLb.getD i 0 else 0) else 0)
      rw [gA_sA]
      by_cases h : q.1 = 1323
      · rw [if_pos ⟨(mpers_1323 q hq).mpr h, by rw [h]⟩, if_pos h]
      · rw [if_neg (fun z => h ((mpers_1323 q hq).mp z.1)), if_neg h]
        obtain ⟨r, r1, r2, r3⟩ := mpers_mtab q hq
        have := f3 r r1 i
        rw [r2, r3] at this
        rw [this]
        unfold VR
        rw [if_neg (mpers_plain q hq).1, if_neg (mpers_plain q hq).2]
    · rw [e5]
      show gA (sA S1 223 (g 1323) _) 249 (g 1349) i = _
      rw [gA_sA, if_neg (fun z => absurd z.1 (by decide))]
      have := f3 _ mt_1349 i
      exact this
  obtain ⟨N, hN⟩ := NT_ex (dD σr 1323) 32
  have H : HH (sN σr 5 0) 32 N := ⟨by decide, fun k hk => by
    show bet (if 1323 = 1323 then (if k < 32 then PLb.getD k 0 else 0) else 0) 0 255
    rw [if_pos rfl, if_pos hk]; exact PLb_b k hk, by decide, hN⟩
  refine r_reads (σ := sN σr 5 0) H hM (by rw [e5, gI_same, if_pos rfl]) (fun S9 σ' eσ k9 w9 a9 S722 e722 => ⟨5, ?_⟩)
  have d := r_done (σ := σr) (z := 32) (S5 := S5) eσ (fun i hi => absurd hi (Nat.not_lt_zero i)) k9
  have a9 : RA g σr (rd2 (TS σr 32)).2.1 S9 := a9
  rw [rd2_r] at a9
  rw [rd1_r, rd2_r] at d
  have e722 : S722 = uI S9 1325 m (nI (cN σr 3 + 1)) := e722
  rw [← e722] at d
  refine r_mark 4 0 S722 _ rfl d (fun S' h' => hP S' g _ _ (fun j hj => a9 j hj) ?_)
  rw [st_mk] at h'
  exact h'
