/-! TOKENS of bytes B 0 .. B (z-1) -/
def bA (B : Nat → Int32) (z i : Nat) : Int32 := if i < z then B i else -1
def kdB (b : Int32) : Int32 := if 97 ≤ b ∧ b ≤ 122 then 1 else if 48 ≤ b ∧ b ≤ 57 then 2 else if b = 32 then 3 else if b = 10 then 3 else 0
def rnF (B : Nat → Int32) (z : Nat) (k : Int32) : Nat → Nat → Nat
  | 0, i => i
  | n + 1, i => if kdB (bA B z i) = k then rnF B z k n (i + 1) else i
def Rn (B : Nat → Int32) (z : Nat) (k : Int32) (i : Nat) : Nat := rnF B z k (z - i) i
theorem bA_lt {B : Nat → Int32} {z i : Nat} (h : i < z) : bA B z i = B i := if_pos h
theorem bA_ge {B : Nat → Int32} {z i : Nat} (h : z ≤ i) : bA B z i = -1 := if_neg (by omega)
theorem kd_m1 : kdB (-1) = 0 := by decide
theorem Rn_y {B : Nat → Int32} {z : Nat} {k : Int32} {i : Nat} (h : i < z) (e : kdB (bA B z i) = k) : Rn B z k i = Rn B z k (i + 1) := by
  unfold Rn
  rw [show z - i = (z - (i + 1)) + 1 by omega]
  show (if kdB (bA B z i) = k then rnF B z k (z - (i + 1)) (i + 1) else i) = _
  rw [if_pos e]
theorem Rn_n {B : Nat → Int32} {z : Nat} {k : Int32} {i : Nat} (e : ¬ kdB (bA B z i) = k) : Rn B z k i = i := by
  unfold Rn
  cases z - i with
  | zero => rfl
  | succ n => exact if_neg e
theorem Rn_z {B : Nat → Int32} {z : Nat} {k : Int32} {i : Nat} (h : z ≤ i) : Rn B z k i = i := by
  unfold Rn
  rw [show z - i = 0 by omega]; rfl
theorem rnF_ge {B : Nat → Int32} {z : Nat} {k : Int32} : ∀ (n i : Nat), i ≤ rnF B z k n i ∧ rnF B z k n i ≤ i + n := by
  intro n
  induction n with
  | zero => intro i; exact ⟨Nat.le_refl _, Nat.le_refl _⟩
  | succ n ih =>
    intro i
    unfold rnF
    split
    · obtain ⟨h1, h2⟩ := ih (i + 1); omega
    · omega
theorem Rn_ge {B : Nat → Int32} {z : Nat} {k : Int32} (i : Nat) : i ≤ Rn B z k i := (rnF_ge _ _).1
theorem Rn_le {B : Nat → Int32} {z : Nat} {k : Int32} {i : Nat} (h : i ≤ z) : Rn B z k i ≤ z := by
  have := (rnF_ge (B := B) (z := z) (k := k) (z - i) i).2
  unfold Rn; omega
theorem rnF_in {B : Nat → Int32} {z : Nat} {k : Int32} : ∀ (n i j : Nat), i ≤ j → j < rnF B z k n i → kdB (bA B z j) = k := by
  intro n
  induction n with
  | zero => intro i j h1 h2; exact absurd (show j < i from h2) (by omega)
  | succ n ih =>
    intro i j h1 h2
    unfold rnF at h2
    split at h2
    · rename_i e
      by_cases q : j = i
      · rw [q]; exact e
      · exact ih (i + 1) j (by omega) h2
    · omega
theorem Rn_in {B : Nat → Int32} {z : Nat} {k : Int32} {i j : Nat} (h1 : i ≤ j) (h2 : j < Rn B z k i) : kdB (bA B z j) = k := rnF_in _ _ _ h1 h2
theorem rnF_st {B : Nat → Int32} {z : Nat} {k : Int32} : ∀ (n i : Nat), i + n = z → rnF B z k n i = z ∨ ¬ kdB (bA B z (rnF B z k n i)) = k := by
  intro n
  induction n with
  | zero => intro i h; exact Or.inl (by show i = z; omega)
  | succ n ih =>
    intro i h
    unfold rnF
    split
    · exact ih (i + 1) (by omega)
    · rename_i e; exact Or.inr e
theorem Rn_st {B : Nat → Int32} {z : Nat} {k : Int32} {i : Nat} (h : i ≤ z) : Rn B z k i = z ∨ ¬ kdB (bA B z (Rn B z k i)) = k := rnF_st _ _ (by omega)
def sk (B : Nat → Int32) (z i : Nat) : Nat := Rn B z 3 i
def eO (B : Nat → Int32) (z b : Nat) : Nat := if kdB (bA B z b) = 0 then b + 1 else Rn B z (kdB (bA B z b)) (b + 1)
theorem eO_gt {B : Nat → Int32} {z : Nat} (b : Nat) : b < eO B z b := by
  unfold eO
  split
  · omega
  · exact Rn_ge (b + 1)
theorem eO_le {B : Nat → Int32} {z b : Nat} (h : b < z) : eO B z b ≤ z := by
  unfold eO
  split
  · omega
  · exact Rn_le (by omega)
theorem sk_ge {B : Nat → Int32} {z : Nat} (i : Nat) : i ≤ sk B z i := Rn_ge i
theorem sk_le {B : Nat → Int32} {z i : Nat} (h : i ≤ z) : sk B z i ≤ z := Rn_le h
theorem sk_nb {B : Nat → Int32} {z i : Nat} (h : i ≤ z) : ¬ kdB (bA B z (sk B z i)) = 3 := by
  rcases Rn_st (B := B) (k := 3) h with e | e
  · show ¬ kdB (bA B z (Rn B z 3 i)) = 3
    rw [e, bA_ge (Nat.le_refl _), kd_m1]; decide
  · exact e
def numF (B : Nat → Int32) (z : Nat) : Nat → Nat → Int32 → Int32
  | 0, _, v => v
  | n + 1, i, v => numF B z n (i + 1) (10 * v + bA B z i - 48)
theorem numF_s {B : Nat → Int32} {z : Nat} : ∀ (n i : Nat) (v : Int32), numF B z (n + 1) i v = 10 * numF B z n i v + bA B z (i + n) - 48 := by
  intro n
  induction n with
  | zero => intro i v; rfl
  | succ n ih =>
    intro i v
    show numF B z (n + 1) (i + 1) (10 * v + bA B z i - 48) = _
    rw [ih (i + 1)]
    show _ = 10 * numF B z n (i + 1) (10 * v + bA B z i - 48) + bA B z (i + (n + 1)) - 48
    rw [show i + 1 + n = i + (n + 1) by omega]
def mtW (B : Nat → Int32) (z : Nat) : List Int32 → Nat → Bool
  | [], _ => true
  | c :: L, i => (bA B z i == c) && mtW B z L (i + 1)
def isW (B : Nat → Int32) (z : Nat) (L : List Int32) (b e : Nat) : Bool := (e - b == L.length) && mtW B z L b
def lit (k : Nat) : List Int32 := litB.getD k []
def wdT (B : Nat → Int32) (z b e : Nat) : Int32 := if isW B z (lit 1) b e then -21 else if isW B z (lit 2) b e then -22 else if isW B z (lit 3) b e then -1 else if isW B z (lit 4) b e then -2 else if isW B z (lit 5) b e then -3 else if isW B z (lit 6) b e then -10 else if isW B z (lit 7) b e then -11 else if isW B z (lit 8) b e then -12 else if isW B z (lit 9) b e then -13 else if isW B z (lit 10) b e then -14 else -27
def sgT (b : Int32) : Int32 := if b = 40 then -23 else if b = 41 then -24 else if b = 42 then -8 else if b = 43 then -6 else if b = 45 then -7 else if b = 59 then -25 else if b = 60 then -4 else if b = 61 then -5 else -27
def tkO (B : Nat → Int32) (z b e : Nat) : Int32 := if kdB (bA B z b) = 1 then wdT B z b e else if kdB (bA B z b) = 2 then (if e - b ≤ 4 then numF B z (e - b) b 0 else -27) else sgT (bA B z b)
def nxS (B : Nat → Int32) (z p : Nat) : Nat := if sk B z p < z then eO B z (sk B z p) else sk B z p
def psN (B : Nat → Int32) (z : Nat) : Nat → Nat
  | 0 => 0
  | i + 1 => nxS B z (psN B z i)
def plN (B : Nat → Int32) (z i : Nat) : Nat := sk B z (psN B z i)
def tkN (B : Nat → Int32) (z i : Nat) : Int32 := if plN B z i < z then tkO B z (plN B z i) (eO B z (plN B z i)) else -26
theorem psN_le {B : Nat → Int32} {z : Nat} : ∀ i, psN B z i ≤ z := by
  intro i
  induction i with
  | zero => exact Nat.zero_le z
  | succ i ih =>
    show nxS B z (psN B z i) ≤ z
    unfold nxS
    split
    · rename_i h; exact eO_le h
    · exact sk_le ih
theorem plN_le {B : Nat → Int32} {z : Nat} (i : Nat) : plN B z i ≤ z := sk_le (psN_le i)
theorem psN_s {B : Nat → Int32} {z i : Nat} (h : plN B z i < z) : psN B z (i + 1) = eO B z (plN B z i) := by
  show nxS B z (psN B z i) = _
  unfold nxS; rw [if_pos (show sk B z (psN B z i) < z from h)]; rfl
theorem psN_e {B : Nat → Int32} {z i : Nat} (h : plN B z i = z) : psN B z (i + 1) = z := by
  have h' : sk B z (psN B z i) = z := h
  show nxS B z (psN B z i) = _
  unfold nxS; rw [if_neg (by omega)]; exact h'
/-- there are N tokens -/
def NT (B : Nat → Int32) (z N : Nat) : Prop := N ≤ z ∧ (∀ i, i < N → plN B z i < z) ∧ plN B z N = z
theorem pl_grow {B : Nat → Int32} {z : Nat} : ∀ k, (∀ i, i < k → plN B z i < z) → k ≤ psN B z k := by
  intro k
  induction k with
  | zero => intro _; exact Nat.zero_le _
  | succ k ih =>
    intro h
    have h1 := ih (fun i hi => h i (by omega))
    rw [psN_s (h k (by omega))]
    have h2 : psN B z k ≤ plN B z k := sk_ge _
    have h3 := eO_gt (B := B) (z := z) (plN B z k)
    omega
theorem NT_ex (B : Nat → Int32) (z : Nat) : ∃ N, NT B z N := by
  have key : ∀ k, (∃ N, NT B z N) ∨ ∀ i, i < k → plN B z i < z := by
    intro k
    induction k with
    | zero => exact Or.inr (fun i hi => absurd hi (Nat.not_lt_zero i))
    | succ k ih =>
      rcases ih with h | h
      · exact Or.inl h
      · by_cases q : plN B z k < z
        · refine Or.inr (fun i hi => ?_)
          by_cases e : i = k
          · rw [e]; exact q
          · exact h i (by omega)
        · have h1 := pl_grow k h
          have h2 := psN_le (B := B) (z := z) k
          have h3 := plN_le (B := B) (z := z) k
          exact Or.inl ⟨k, by omega, h, by omega⟩
  rcases key (z + 1) with h | h
  · exact h
  · have h1 := pl_grow (z + 1) h
    have h2 := psN_le (B := B) (z := z) (z + 1)
    omega
theorem NT_un {B : Nat → Int32} {z N M : Nat} (h : NT B z N) (h1 : ∀ i, i < M → plN B z i < z) (h2 : plN B z M = z) : M = N := by
  by_cases a : M < N
  · have := h.2.1 M a; omega
  · by_cases b : N < M
    · have := h1 N b; have := h.2.2; omega
    · omega
theorem tk_end {B : Nat → Int32} {z N : Nat} (h : NT B z N) : tkN B z N = -26 := by
  unfold tkN; rw [if_neg (by have := h.2.2; omega)]
/-! the reference's words for tokens -/
def rtk (t : Int32) : Int32 := if 0 ≤ t then 1 else if t = -1 then 302 else if t = -2 then 303 else if t = -3 then 304 else if t = -4 then 60 else if t = -5 then 61 else if t = -6 then 43 else if t = -7 then 45 else if t = -8 then 42 else if t = -21 then 300 else if t = -22 then 301 else if t = -23 then 40 else if t = -24 then 41 else if t = -25 then 59 else if t = -26 then 0 else if t = -27 then 2 else 3
def negT : List Int32 := [-1, -2, -3, -4, -5, -6, -7, -8, -10, -11, -12, -13, -14, -21, -22, -23, -24, -25, -26, -27]
def okTk (t : Int32) : Prop := (0 ≤ t ∧ t ≤ 9999) ∨ t ∈ negT
def isV (t : Int32) : Prop := 0 ≤ t ∨ (-14 ≤ t ∧ t ≤ -10)
def tld (t : Int32) : Int32 := if 0 ≤ t then t else -10 - t
theorem rtk_pos {t : Int32} (h : 0 ≤ t) : rtk t = 1 := if_pos h
theorem kd_1 {b : Int32} : kdB b = 1 ↔ (97 ≤ b ∧ b ≤ 122) := by
  unfold kdB
  constructor
  · intro h
    split at h
    · assumption
    · split at h
      · exact absurd h (by decide)
      · split at h
        · exact absurd h (by decide)
        · split at h <;> exact absurd h (by decide)
  · intro h; rw [if_pos h]
theorem kd_2 {b : Int32} : kdB b = 2 ↔ (48 ≤ b ∧ b ≤ 57) := by
  have d : ¬ ((97 ≤ b ∧ b ≤ 122) ∧ (48 ≤ b ∧ b ≤ 57)) := by
    intro ⟨h1, h2⟩
    have := Int32.le_trans h1.1 h2.2
    revert this; decide
  unfold kdB
  constructor
  · intro h
    split at h
    · exact absurd h (by decide)
    · split at h
      · assumption
      · split at h
        · exact absurd h (by decide)
        · split at h <;> exact absurd h (by decide)
  · intro h; rw [if_neg (fun q => d ⟨q, h⟩), if_pos h]
theorem kd_3 {b : Int32} : kdB b = 3 ↔ (b = 32 ∨ b = 10) := by
  unfold kdB
  constructor
  · intro h
    split at h
    · exact absurd h (by decide)
    · split at h
      · exact absurd h (by decide)
      · split at h
        · exact Or.inl (by assumption)
        · split at h
          · exact Or.inr (by assumption)
          · exact absurd h (by decide)
  · intro h
    rcases h with rfl | rfl <;> decide
theorem kd_0 {b : Int32} (h1 : ¬ kdB b = 1) (h2 : ¬ kdB b = 2) (h3 : ¬ kdB b = 3) : kdB b = 0 := by
  unfold kdB at *
  split
  · rename_i h; rw [if_pos h] at h1; exact absurd rfl h1
  · rename_i n1
    rw [if_neg n1] at h2 h3
    split
    · rename_i h; rw [if_pos h] at h2; exact absurd rfl h2
    · rename_i n2
      rw [if_neg n2] at h3
      split
      · rename_i h; rw [if_pos h] at h3; exact absurd rfl h3
      · rename_i n3
        rw [if_neg n3] at h3
        split
        · rename_i h; rw [if_pos h] at h3; exact absurd rfl h3
        · rfl
/-- numbers of at most 4 digits -/
theorem num_b {B : Nat → Int32} {z : Nat} : ∀ (n i b : Nat), n ≤ 4 → (∀ j, i ≤ j → j < i + n → kdB (bA B z j) = 2) → ∃ v, v + 1 ≤ 10 ^ n ∧ numF B z n i 0 = nI v := by
  intro n
  induction n with
  | zero => intro i _ _ _; exact ⟨0, by decide, rfl⟩
  | succ n ih =>
    intro i b hn hd
    obtain ⟨v, h1, h2⟩ := ih i b (by omega) (fun j h3 h4 => hd j h3 (by omega))
    rw [numF_s, h2]
    obtain ⟨d1, d2⟩ := kd_2.mp (hd (i + n) (by omega) (by omega))
    have e48 : (48 : Int32).toInt = 48 := by decide
    have e57 : (57 : Int32).toInt = 57 := by decide
    rw [i_le, e48] at d1
    rw [i_le, e57] at d2
    obtain ⟨q, hq, eq⟩ := nI_of (x := bA B z (i + n)) (by rw [i_nlt, i_le]; show (0 : Int32).toInt ≤ _; rw [show (0 : Int32).toInt = 0 by decide]; omega)
    rw [eq, nI_toInt hq] at d1 d2
    rw [eq]
    have e10 : (10 : Int32) * nI v = nI (10 * v) := pk_mul 10 v
    have p : 10 ^ (n + 1) = 10 * 10 ^ n := by rw [Nat.pow_succ, Nat.mul_comm]
    refine ⟨10 * v + (q - 48), by omega, ?_⟩
    rw [e10, nI_add, show (48 : Int32) = nI 48 from rfl, nI_sub (by omega)]
    congr 1; omega
theorem wd_neg (B : Nat → Int32) (z b e : Nat) : wdT B z b e ∈ negT := by
  unfold wdT
  repeat' split
  all_goals decide
theorem sg_neg (b : Int32) : sgT b ∈ negT := by
  unfold sgT
  repeat' split
  all_goals decide
theorem tk_ok {B : Nat → Int32} {z b : Nat} : okTk (tkO B z b (eO B z b)) := by
  unfold tkO
  split
  · exact Or.inr (wd_neg _ _ _ _)
  · split
    · rename_i h2
      split
      · rename_i h4
        have hd : ∀ j, b ≤ j → j < b + (eO B z b - b) → kdB (bA B z j) = 2 := by
          intro j h5 h6
          by_cases q : j = b
          · rw [q]; exact h2
          · have : eO B z b = Rn B z 2 (b + 1) := by
              unfold eO
              rw [h2, if_neg (by decide)]
            rw [this] at h6
            have := Rn_ge (B := B) (z := z) (k := 2) (b + 1)
            exact Rn_in (i := b + 1) (by omega) (by omega)
        obtain ⟨v, h1, h7⟩ := num_b (B := B) (z := z) (eO B z b - b) b b h4 hd
        have : 10 ^ (eO B z b - b) ≤ 10 ^ 4 := Nat.pow_le_pow_right (by decide) h4
        have e4 : (10 : Nat) ^ 4 = 10000 := by decide
        rw [h7]
        exact Or.inl ⟨nI_pos' (by omega), nI_le (a := v) (b := 9999) (by omega) (by decide)⟩
      · exact Or.inr (by decide)
    · exact Or.inr (sg_neg _)
theorem tkN_ok {B : Nat → Int32} {z i : Nat} : okTk (tkN B z i) := by
  unfold tkN
  split
  · exact tk_ok
  · exact Or.inr (by decide)
theorem rtk_iff {t : Int32} (h : okTk t) (c d : Int32) (hd : d ∈ negT) (hc : c ≠ 1) (hl : ∀ t ∈ negT, (rtk t = c ↔ t = d)) : rtk t = c ↔ t = d := by
  rcases h with ⟨h0, -⟩ | h
  · rw [rtk_pos h0]
    refine ⟨fun e => absurd e.symm hc, fun e => ?_⟩
    exfalso
    subst e
    have : ∀ t ∈ negT, ¬ 0 ≤ t := by decide
    exact this _ hd h0
  · exact hl t h
theorem rtk_num {t : Int32} (h : okTk t) : rtk t = 1 ↔ 0 ≤ t := by
  rcases h with ⟨h0, -⟩ | h
  · exact ⟨fun _ => h0, fun _ => rtk_pos h0⟩
  · have : ∀ t ∈ negT, (rtk t = 1 ↔ 0 ≤ t) := by decide
    exact this t h
theorem rtk_nam {t : Int32} (h : okTk t) : rtk t = 3 ↔ (-14 ≤ t ∧ t ≤ -10) := by
  rcases h with ⟨h0, -⟩ | h
  · rw [rtk_pos h0]
    refine ⟨fun e => absurd e (by decide), fun e => ?_⟩
    have := Int32.le_trans h0 e.2
    revert this; decide
  · have : ∀ t ∈ negT, (rtk t = 3 ↔ (-14 ≤ t ∧ t ≤ -10)) := by decide
    exact this t h
theorem rtk_or {t : Int32} (h : okTk t) : rtk t = 302 ↔ t = -1 := rtk_iff h 302 (-1) (by decide) (by decide) (by decide)
theorem rtk_and {t : Int32} (h : okTk t) : rtk t = 303 ↔ t = -2 := rtk_iff h 303 (-2) (by decide) (by decide) (by decide)
theorem rtk_not {t : Int32} (h : okTk t) : rtk t = 304 ↔ t = -3 := rtk_iff h 304 (-3) (by decide) (by decide) (by decide)
theorem rtk_lt {t : Int32} (h : okTk t) : rtk t = 60 ↔ t = -4 := rtk_iff h 60 (-4) (by decide) (by decide) (by decide)
theorem rtk_eq {t : Int32} (h : okTk t) : rtk t = 61 ↔ t = -5 := rtk_iff h 61 (-5) (by decide) (by decide) (by decide)
theorem rtk_pl {t : Int32} (h : okTk t) : rtk t = 43 ↔ t = -6 := rtk_iff h 43 (-6) (by decide) (by decide) (by decide)
theorem rtk_mi {t : Int32} (h : okTk t) : rtk t = 45 ↔ t = -7 := rtk_iff h 45 (-7) (by decide) (by decide) (by decide)
theorem rtk_ti {t : Int32} (h : okTk t) : rtk t = 42 ↔ t = -8 := rtk_iff h 42 (-8) (by decide) (by decide) (by decide)
theorem rtk_lay {t : Int32} (h : okTk t) : rtk t = 300 ↔ t = -21 := rtk_iff h 300 (-21) (by decide) (by decide) (by decide)
theorem rtk_off {t : Int32} (h : okTk t) : rtk t = 301 ↔ t = -22 := rtk_iff h 301 (-22) (by decide) (by decide) (by decide)
theorem rtk_op {t : Int32} (h : okTk t) : rtk t = 40 ↔ t = -23 := rtk_iff h 40 (-23) (by decide) (by decide) (by decide)
theorem rtk_cl {t : Int32} (h : okTk t) : rtk t = 41 ↔ t = -24 := rtk_iff h 41 (-24) (by decide) (by decide) (by decide)
theorem rtk_se {t : Int32} (h : okTk t) : rtk t = 59 ↔ t = -25 := rtk_iff h 59 (-25) (by decide) (by decide) (by decide)
theorem rtk_en {t : Int32} (h : okTk t) : rtk t = 0 ↔ t = -26 := rtk_iff h 0 (-26) (by decide) (by decide) (by decide)
