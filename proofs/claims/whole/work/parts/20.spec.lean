/-! THE MATHEMATICAL STATE: counts, and rows by the reference's field numbers -/
abbrev Sg : Type := (Nat → Nat) × (Nat → Nat → Int32)
def cN (σ : Sg) (c : Nat) : Nat := σ.1 c
def dD (σ : Sg) (f i : Nat) : Int32 := σ.2 f i
def sN (σ : Sg) (c n : Nat) : Sg := (va_up σ.1 c n, σ.2)
def sD (σ : Sg) (f i : Nat) (v : Int32) : Sg := (σ.1, up2 σ.2 f i v)
theorem cN_sN (σ : Sg) (c n d : Nat) : cN (sN σ c n) d = if d = c then n else cN σ d := rfl
theorem cN_sD (σ : Sg) (f i : Nat) (v : Int32) (d : Nat) : cN (sD σ f i v) d = cN σ d := rfl
theorem dD_sN (σ : Sg) (c n f i : Nat) : dD (sN σ c n) f i = dD σ f i := rfl
theorem dD_sD (σ : Sg) (f i : Nat) (v : Int32) (f' i' : Nat) : dD (sD σ f i v) f' i' = if f' = f ∧ i' = i then v else dD σ f' i' := rfl
abbrev ix (p : Int32) : Nat := p.toNatClampNeg
abbrev okN (p : Int32) (n : Nat) : Prop := ¬ p < 0 ∧ p < nI n
def okD (p : Int32) (n : Nat) : Decidable (okN p n) := inferInstanceAs (Decidable (¬ p < 0 ∧ p < nI n))
theorem okN_iff {p : Int32} {n : Nat} (hn : n < 2 ^ 31) : okN p n ↔ ix p < n ∧ p = nI (ix p) := by
  unfold okN
  constructor
  · intro ⟨h0, h1⟩
    obtain ⟨j, hj, rfl⟩ := nI_of h0
    rw [nI_ltI hj hn] at h1
    have := nI_clamp hj
    exact ⟨by show (nI j).toNatClampNeg < n; omega, by show nI j = nI (nI j).toNatClampNeg; rw [this]⟩
  · intro ⟨h0, h1⟩
    rw [h1]
    have : (ix p) < 2 ^ 31 := by omega
    exact ⟨nI_pos this, (nI_ltI this hn).mpr h0⟩
theorem ix_nI {n : Nat} (h : n < 2 ^ 31) : ix (nI n) = n := nI_clamp h
theorem okN_nI {i n : Nat} (h : i < n) (hn : n < 2 ^ 31) : okN (nI i) n := ⟨nI_pos (by omega), nI_lt h hn⟩
theorem okN_in {p : Int32} {n N : Nat} (h : okN p n) (hn : n ≤ N) (hN : N < 2 ^ 31) : vp_in p N := by
  obtain ⟨h1, h2⟩ := (okN_iff (by omega)).mp h
  rw [h2]; exact vp_in_nI (by omega) hN
theorem okN_lt {p : Int32} {n : Nat} (h : okN p n) (hn : n < 2 ^ 31) : ix p < n := ((okN_iff hn).mp h).1
theorem okN_eq {p : Int32} {n : Nat} (h : okN p n) (hn : n < 2 ^ 31) : p = nI (ix p) := ((okN_iff hn).mp h).2
theorem i_le (a b : Int32) : a ≤ b ↔ a.toInt ≤ b.toInt := Int32.le_iff_toInt_le
theorem i_lt (a b : Int32) : a < b ↔ a.toInt < b.toInt := Int32.lt_iff_toInt_lt
theorem i_nlt (a b : Int32) : ¬ a < b ↔ b ≤ a := Int32.not_lt
theorem i_nle (a b : Int32) : ¬ a ≤ b ↔ b < a := Int32.not_le
theorem nI_m1 {n : Nat} : nI (n + 1) - 1 = nI n := nI_pred n
/-- p lies under nI n - 1 -/
theorem le_m1 {p : Int32} {n : Nat} (hn : n < 2 ^ 31) (h0 : ¬ p < 0) : ¬ nI n - 1 < p ↔ p < nI n := by
  cases n with
  | zero =>
    have e : nI 0 - 1 = (-1 : Int32) := by decide +kernel
    rw [e, nI_0]
    constructor
    · intro h; rw [i_nlt, i_le] at h; rw [i_lt] at h0; simp at h h0; omega
    · intro h; exact absurd h h0
  | succ n =>
    rw [nI_m1]
    obtain ⟨j, hj, rfl⟩ := nI_of h0
    rw [nI_ltI (by omega) hj, nI_ltI hj hn]; omega
/-- the reference's lasting rows: field, kind -/
def mpers : List (Nat × Nat) := [(1301, 201), (1302, 202), (1303, 203), (1305, 205), (1306, 206), (1307, 207), (1308, 208), (1309, 209), (1310, 210), (1311, 211), (1312, 112), (1314, 214), (1315, 215), (1316, 216), (1317, 217), (1318, 218), (1319, 219), (1320, 320), (1322, 222), (1323, 223), (1330, 230), (1331, 231), (1332, 232), (1333, 233), (1334, 234), (1335, 235), (1336, 236), (1337, 237), (1338, 238), (1339, 239), (1340, 240), (1341, 241)]
/-- the reference's counts: field, count -/
def mcnt : List (Nat × Nat) := [(1300, 0), (1304, 1), (1313, 2), (1325, 3), (1329, 4), (1324, 5), (1321, 6)]
def MRx (g : Nat → Nat) (m : Nat) (S : HSt) (σ : Sg) : Prop :=
  (∀ i, i < 160 * cN σ 3 → gA S 226 (g 1326) i = dD σ 1326 i ∧ gA S 227 (g 1327) i = dD σ 1327 i) ∧ (∀ i, i < 3 * cN σ 3 → gA S 228 (g 1328) i = dD σ 1328 i) ∧ ∀ i, i < 48 → gA S 249 (g 1349) i = [115, 111, 114, 116, 0, 119, 101, 101, 107, 100, 97, 121, 0, 99, 108, 111, 99, 107, 0, 104, 111, 117, 114, 0, 111, 118, 101, 114, 0, 108, 97, 121, 0, 111, 102, 102, 0, 111, 114, 0, 97, 110, 100, 0, 110, 111, 116, 0].getD i 0
/-- THE REFERENCE'S PART S STANDS FOR σ -/
def MR (g : Nat → Nat) (m : Nat) (S : HSt) (σ : Sg) : Prop := MI g m S ∧ (∀ q ∈ mcnt, gI S q.1 m = nI (cN σ q.2)) ∧ (∀ q ∈ mpers, ∀ i, gA S q.2 (g q.1) i = dD σ q.1 i) ∧ MRx g m S σ
theorem MR.c {g : Nat → Nat} {m : Nat} {S : HSt} {σ : Sg} (h : MR g m S σ) (f c : Nat) (hq : (f, c) ∈ mcnt := by decide) : gI S f m = nI (cN σ c) := h.2.1 _ hq
theorem MR.a {g : Nat → Nat} {m : Nat} {S : HSt} {σ : Sg} (h : MR g m S σ) (f k i : Nat) (hq : (f, k) ∈ mpers := by decide) : gA S k (g f) i = dD σ f i := h.2.2.1 _ hq i
theorem mpers_inj : ∀ q ∈ mpers, ∀ r ∈ mpers, q.2 = r.2 → q.1 = r.1 := by decide +kernel
theorem mpers_no : ∀ q ∈ mpers, q.1 ≠ 1326 ∧ q.1 ≠ 1327 ∧ q.1 ≠ 1328 ∧ q.2 ≠ 226 ∧ q.2 ≠ 227 ∧ q.2 ≠ 228 ∧ q.2 ≠ 249 := by decide +kernel
theorem gA_uA {S : HSt} {k a i : Nat} {v : Int32} (k' a' : Nat) : gA (uA S k a i v) k' a' = if k' = k ∧ a' = a then upd (gA S k a) i v else gA S k' a' := rfl
theorem gA_sA {S : HSt} {k a : Nat} {h : Nat → Int32} (k' a' : Nat) : gA (sA S k a h) k' a' = if k' = k ∧ a' = a then h else gA S k' a' := rfl
/-- a lasting row of the reference is written at a place -/
theorem MR.pA {g : Nat → Nat} {m : Nat} {S : HSt} {σ : Sg} (h : MR g m S σ) (f k i : Nat) (v : Int32) (hq : (f, k) ∈ mpers := by decide) : MR g m (uA S k (g f) i v) (sD σ f i v) := by
  refine ⟨h.1, fun q hq' => h.2.1 q hq', fun q hq' j => ?_, ?_⟩
  · rw [gA_uA, dD_sD]
    by_cases hk : q.2 = k
    · have hf : q.1 = f := mpers_inj q hq' (f, k) hq hk
      rw [hk, hf]
      simp only [true_and, and_true, if_true]
      by_cases hj : j = i
      · subst hj; simp [upd]
      · simp [upd, hj]; exact h.2.2.1 _ hq j
    · have hf : q.1 ≠ f := by
        intro e
        have h1 := hq'; have h2 := hq
        have : ∀ q ∈ mpers, ∀ r ∈ mpers, q.1 = r.1 → q.2 = r.2 := by decide +kernel
        exact hk (this q hq' (f, k) hq e)
      rw [if_neg (fun z => hk z.1), if_neg (fun z => hf z.1)]
      exact h.2.2.1 q hq' j
  · obtain ⟨e1, e2, e3, e4, e5, e6, e7⟩ := mpers_no _ hq
    refine ⟨fun j hj => ?_, fun j hj => ?_, fun j hj => ?_⟩
    · rw [gA_uA, gA_uA, dD_sD, dD_sD, if_neg (fun z => e4 z.1.symm), if_neg (fun z => e1 z.1.symm), if_neg (fun z => e5 z.1.symm), if_neg (fun z => e2 z.1.symm)]; exact h.2.2.2.1 j hj
    · rw [gA_uA, dD_sD, if_neg (fun z => e6 z.1.symm), if_neg (fun z => e3 z.1.symm)]; exact h.2.2.2.2.1 j hj
    · rw [gA_uA, if_neg (fun z => e7 z.1.symm)]; exact h.2.2.2.2.2 j hj
theorem mcnt_inj : ∀ q ∈ mcnt, ∀ r ∈ mcnt, (q.1 = r.1 ↔ q.2 = r.2) := by decide +kernel
/-- a count of the reference is written (not that of the texts) -/
theorem MR.pI {g : Nat → Nat} {m : Nat} {S : HSt} {σ : Sg} (h : MR g m S σ) (f c n : Nat) (v : Int32) (hv : v = nI n) (hc : c ≠ 3 := by decide) (hq : (f, c) ∈ mcnt := by decide) : MR g m (uI S f m v) (sN σ c n) := by
  subst hv
  refine ⟨h.1, fun q hq' => ?_, fun q hq' j => h.2.2.1 q hq' j, ?_⟩
  · show (if q.1 = f ∧ m = m then nI n else gI S q.1 m) = nI (if q.2 = c then n else cN σ q.2)
    by_cases hf : q.1 = f
    · rw [if_pos ⟨hf, rfl⟩, if_pos ((mcnt_inj q hq' (f, c) hq).mp hf)]
    · rw [if_neg (fun z => hf z.1), if_neg (fun z => hf ((mcnt_inj q hq' (f, c) hq).mpr z))]; exact h.2.1 q hq'
  · have e : cN (sN σ c n) 3 = cN σ 3 := by rw [cN_sN, if_neg (fun z => hc z.symm)]
    unfold MRx
    rw [e]
    exact h.2.2.2
/-- a scratch field of the reference is written -/
theorem MR.pI0 {g : Nat → Nat} {m : Nat} {S : HSt} {σ : Sg} (h : MR g m S σ) (f : Nat) (v : Int32) (hf : ∀ q ∈ mcnt, q.1 ≠ f := by decide) : MR g m (uI S f m v) σ :=
  ⟨h.1, fun q hq => by show (if q.1 = f ∧ m = m then v else gI S q.1 m) = _; rw [if_neg (fun z => hf q hq z.1)]; exact h.2.1 q hq, fun q hq j => h.2.2.1 q hq j, h.2.2.2⟩
theorem MR.pJ0 {g : Nat → Nat} {m : Nat} {S : HSt} {σ : Sg} (h : MR g m S σ) (f a : Nat) (v : Int64) : MR g m (uJ S f a v) σ := ⟨h.1, h.2.1, h.2.2.1, h.2.2.2⟩
theorem MR.pS0 {g : Nat → Nat} {m : Nat} {S : HSt} {σ : Sg} (h : MR g m S σ) (k a : Nat) (v : Nat → Int32) (hk : (∀ q ∈ mpers, q.2 ≠ k) ∧ k ≠ 226 ∧ k ≠ 227 ∧ k ≠ 228 ∧ k ≠ 249 := by decide) : MR g m (sA S k a v) σ := by
  refine ⟨h.1, h.2.1, fun q hq j => ?_, ?_⟩
  · rw [gA_sA, if_neg (fun z => hk.1 q hq z.1)]; exact h.2.2.1 q hq j
  · obtain ⟨-, e1, e2, e3, e4⟩ := hk
    refine ⟨fun j hj => ?_, fun j hj => ?_, fun j hj => ?_⟩
    · rw [gA_sA, gA_sA, if_neg (fun z => e1 z.1.symm), if_neg (fun z => e2 z.1.symm)]; exact h.2.2.2.1 j hj
    · rw [gA_sA, if_neg (fun z => e3 z.1.symm)]; exact h.2.2.2.2.1 j hj
    · rw [gA_sA, if_neg (fun z => e4 z.1.symm)]; exact h.2.2.2.2.2 j hj
theorem MR.pA0 {g : Nat → Nat} {m : Nat} {S : HSt} {σ : Sg} (h : MR g m S σ) (k a i : Nat) (v : Int32) (hk : (∀ q ∈ mpers, q.2 ≠ k) ∧ k ≠ 226 ∧ k ≠ 227 ∧ k ≠ 228 ∧ k ≠ 249 := by decide) : MR g m (uA S k a i v) σ := h.pS0 k a _ hk
/-- tests by bounds -/
theorem r_in {a b c : Int32} {S : HSt} {Post : Int32 → HSt → Prop} (h1 : b ≤ a ∧ a ≤ c → Post 1 S) (h0 : ¬ (b ≤ a ∧ a ≤ c) → Post 0 S) : wp_X12_in a b c S Post :=
  ⟨fun h => h0 (fun z => absurd z.1 ((i_nle _ _).mpr h)), fun h => ⟨fun h' => h0 (fun z => absurd z.2 ((i_nle _ _).mpr h')), fun h' => h1 ⟨(i_nlt _ _).mp h, (i_nlt _ _).mp h'⟩⟩⟩
theorem c_within {a b c : Int32} {S : HSt} {Post : Int32 → HSt → Prop} (h1 : b ≤ a ∧ a ≤ c → Post 1 S) (h0 : ¬ (b ≤ a ∧ a ≤ c) → Post 0 S) : wp_X11_within a b c S Post :=
  ⟨fun h => h0 (fun z => absurd z.1 ((i_nle _ _).mpr h)), fun h => ⟨fun h' => h0 (fun z => absurd z.2 ((i_nle _ _).mpr h')), fun h' => h1 ⟨(i_nlt _ _).mp h, (i_nlt _ _).mp h'⟩⟩⟩
theorem bool1 : narrow .boolean (.int 1) = .int 1 := by decide
theorem bool0 : narrow .boolean (.int 0) = .int 0 := by decide
theorem br1 {A B : Prop} (h : A) : (¬ (1 : Int32) = 0 → A) ∧ ((1 : Int32) = 0 → B) := ⟨fun _ => h, fun z => absurd z (by decide)⟩
theorem br0 {A B : Prop} (h : B) : (¬ (0 : Int32) = 0 → A) ∧ ((0 : Int32) = 0 → B) := ⟨fun z => absurd rfl z, fun _ => h⟩
theorem bs1 {A B : Prop} (h : B) : ((1 : Int32) = 0 → A) ∧ (¬ (1 : Int32) = 0 → B) := ⟨fun z => absurd z (by decide), fun _ => h⟩
theorem bs0 {A B : Prop} (h : A) : ((0 : Int32) = 0 → A) ∧ (¬ (0 : Int32) = 0 → B) := ⟨fun _ => h, fun z => absurd rfl z⟩
theorem r_isHour {a : Int32} {S : HSt} {Post : Int32 → HSt → Prop} (h1 : 0 ≤ a ∧ a ≤ 9999 → Post 1 S) (h0 : ¬ (0 ≤ a ∧ a ≤ 9999) → Post 0 S) : wp_X12_isHour a S Post := r_in (fun p => ⟨bool1, h1 p⟩) (fun p => ⟨bool0, h0 p⟩)
theorem c_isHour {a : Int32} {S : HSt} {Post : Int32 → HSt → Prop} (h1 : 0 ≤ a ∧ a ≤ 9999 → Post 1 S) (h0 : ¬ (0 ≤ a ∧ a ≤ 9999) → Post 0 S) : wp_X11_isHour a S Post := c_within (fun p => ⟨bool1, h1 p⟩) (fun p => ⟨bool0, h0 p⟩)
theorem r_isSort {a : Int32} {S : HSt} {Post : Int32 → HSt → Prop} (h1 : 0 ≤ a ∧ a ≤ 5 → Post 1 S) (h0 : ¬ (0 ≤ a ∧ a ≤ 5) → Post 0 S) : wp_X12_isSort a S Post := r_in (fun p => ⟨bool1, h1 p⟩) (fun p => ⟨bool0, h0 p⟩)
theorem c_isSort {a : Int32} {S : HSt} {Post : Int32 → HSt → Prop} (h1 : 0 ≤ a ∧ a ≤ 5 → Post 1 S) (h0 : ¬ (0 ≤ a ∧ a ≤ 5) → Post 0 S) : wp_X11_isSort a S Post := c_within (fun p => ⟨bool1, h1 p⟩) (fun p => ⟨bool0, h0 p⟩)
/-- the reference's tests of numbers -/
theorem r_cnt {p : Int32} {n : Nat} (hn : n < 2 ^ 31) {S : HSt} {Post : Int32 → HSt → Prop} (h1 : okN p n → Post 1 S) (h0 : ¬ okN p n → Post 0 S) : wp_X12_in p 0 (nI n - 1) S (fun r S2 => narrow .boolean (.int r) = .int r ∧ Post r S2) := by
  refine ⟨fun h => ⟨bool0, h0 (fun z => z.1 h)⟩, fun h => ⟨fun h' => ⟨bool0, h0 (fun z => ((le_m1 hn h).mpr z.2) h')⟩, fun h' => ⟨bool1, h1 ⟨h, (le_m1 hn h).mp h'⟩⟩⟩⟩
theorem r_isPort {g : Nat → Nat} {m : Nat} {S : HSt} {σ : Sg} (h : MR g m S σ) (hn : cN σ 0 < 2 ^ 31) {p : Int32} {Post : Int32 → HSt → Prop} (h1 : okN p (cN σ 0) → Post 1 S) (h0 : ¬ okN p (cN σ 0) → Post 0 S) : wp_X12_isPort g m p S Post := by
  unfold wp_X12_isPort
  rw [h.c 1300 0]
  exact r_cnt hn h1 h0
theorem r_isShip {g : Nat → Nat} {m : Nat} {S : HSt} {σ : Sg} (h : MR g m S σ) (hn : cN σ 1 < 2 ^ 31) {p : Int32} {Post : Int32 → HSt → Prop} (h1 : okN p (cN σ 1) → Post 1 S) (h0 : ¬ okN p (cN σ 1) → Post 0 S) : wp_X12_isShip g m p S Post := by
  unfold wp_X12_isShip
  rw [h.c 1304 1]
  exact r_cnt hn h1 h0
theorem r_isOffer {g : Nat → Nat} {m : Nat} {S : HSt} {σ : Sg} (h : MR g m S σ) (hn : cN σ 2 < 2 ^ 31) {p : Int32} {Post : Int32 → HSt → Prop} (h1 : okN p (cN σ 2) → Post 1 S) (h0 : ¬ okN p (cN σ 2) → Post 0 S) : wp_X12_isOffer g m p S Post := by
  unfold wp_X12_isOffer
  rw [h.c 1313 2]
  exact r_cnt hn h1 h0
theorem r_isCharter {g : Nat → Nat} {m : Nat} {S : HSt} {σ : Sg} (h : MR g m S σ) (hn : cN σ 4 < 2 ^ 31) {p : Int32} {Post : Int32 → HSt → Prop} (h1 : okN p (cN σ 4) → Post 1 S) (h0 : ¬ okN p (cN σ 4) → Post 0 S) : wp_X12_isCharter g m p S Post := by
  unfold wp_X12_isCharter
  rw [h.c 1329 4]
  exact r_cnt hn h1 h0
