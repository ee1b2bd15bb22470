/-! where to buy coal: the least cost, in numbers -/
def omn : Option Nat → Option Nat → Option Nat
  | none, y => y
  | some a, none => some a
  | some a, some b => if b < a then some b else some a
def bh (b : Nat) (nx : Nat → Option Nat) (f : Nat) : Option Nat := if b ≤ f then nx (f - b) else none
def cnd (b p : Nat) (nx : Nat → Option Nat) (f : Nat) : Option Nat := (bh b nx f).map (fun c => c + f * p)
def lsc (b p M : Nat) (nx : Nat → Option Nat) : Nat → Option Nat
  | 0 => none
  | j + 1 => omn (lsc b p M nx j) (cnd b p nx (M - j))
def pick (l v : Option Nat) (x y : Nat) : Nat := match l, v with
  | _, none => y
  | none, some _ => x
  | some l, some v => if v ≤ l then x else y
def fsc (b p M : Nat) (nx : Nat → Option Nat) : Nat → Nat
  | 0 => 0
  | j + 1 => pick (lsc b p M nx j) (cnd b p nx (M - j)) (M - j) (fsc b p M nx j)
def stp (b p M : Nat) (nx : Nat → Option Nat) (f : Nat) : Option Nat := if p = 0 then bh b nx f else (lsc b p M nx (M + 1 - f)).map (fun v => v - f * p)
def bys (b p M : Nat) (nx : Nat → Option Nat) (f : Nat) : Nat := if p = 0 then 0 else fsc b p M nx (M + 1 - f) - f
def CCo (bk pr : Nat → Nat) (M L : Nat) : Nat → Nat → Option Nat
  | 0, _ => some 0
  | k + 1, f => stp (bk (L - (k + 1))) (pr (L - (k + 1))) M (CCo bk pr M L k) f
theorem cnd_ge {b p : Nat} {nx : Nat → Option Nat} {f v : Nat} (h : cnd b p nx f = some v) : ∃ c, bh b nx f = some c ∧ v = c + f * p := by
  unfold cnd at h
  cases hb : bh b nx f with
  | none => rw [hb] at h; cases h
  | some c => rw [hb] at h; cases h; exact ⟨c, rfl, rfl⟩
theorem lsc_inv {b p M : Nat} {nx : Nat → Option Nat} : ∀ j, (lsc b p M nx j = none → ∀ i, i < j → cnd b p nx (M - i) = none) ∧ (∀ l, lsc b p M nx j = some l → ∃ j', j' < j ∧ fsc b p M nx j = M - j' ∧ cnd b p nx (M - j') = some l ∧ (∀ i, i < j → ∀ v, cnd b p nx (M - i) = some v → l ≤ v) ∧ (∀ i, i < j → j' < i → cnd b p nx (M - i) ≠ some l)) := by
  intro j
  induction j with
  | zero => exact ⟨fun _ i hi => absurd hi (Nat.not_lt_zero i), fun l h => (by cases h)⟩
  | succ j ih =>
    obtain ⟨ih1, ih2⟩ := ih
    cases hl : lsc b p M nx j with
    | none =>
      have hall := ih1 hl
      cases hc : cnd b p nx (M - j) with
      | none =>
        have e : lsc b p M nx (j + 1) = none := by unfold lsc; rw [hl, hc]; rfl
        refine ⟨fun _ i hi => ?_, fun l h => by rw [e] at h; cases h⟩
        by_cases h9 : i = j
        · subst h9; exact hc
        · exact hall i (by omega)
      | some v =>
        have e : lsc b p M nx (j + 1) = some v := by unfold lsc; rw [hl, hc]; rfl
        have ef : fsc b p M nx (j + 1) = M - j := by unfold fsc; rw [hl, hc]; rfl
        refine ⟨fun h => (by rw [e] at h; cases h), fun l h => ?_⟩
        rw [e] at h; cases h
        refine ⟨j, by omega, ef, hc, fun i hi u hu => ?_, fun i hi hji => by omega⟩
        by_cases h9 : i = j
        · subst h9; rw [hc] at hu; cases hu; exact Nat.le_refl _
        · rw [hall i (by omega)] at hu; cases hu
    | some l0 =>
      obtain ⟨j', h1, h2, h3, h4, h5⟩ := ih2 l0 hl
      cases hc : cnd b p nx (M - j) with
      | none =>
        have e : lsc b p M nx (j + 1) = some l0 := by unfold lsc; rw [hl, hc]; rfl
        have ef : fsc b p M nx (j + 1) = fsc b p M nx j := by show pick (lsc b p M nx j) (cnd b p nx (M - j)) (M - j) (fsc b p M nx j) = _; rw [hl, hc]; rfl
        refine ⟨fun h => (by rw [e] at h; cases h), fun l h => ?_⟩
        rw [e] at h; cases h
        refine ⟨j', by omega, ef.trans h2, h3, fun i hi u hu => ?_, fun i hi hji => ?_⟩
        · by_cases h9 : i = j
          · subst h9; rw [hc] at hu; cases hu
          · exact h4 i (by omega) u hu
        · by_cases h9 : i = j
          · subst h9; rw [hc]; intro z; cases z
          · exact h5 i (by omega) hji
      | some v =>
        by_cases hv : v < l0
        · have e : lsc b p M nx (j + 1) = some v := by unfold lsc; rw [hl, hc]; exact if_pos hv
          have ef : fsc b p M nx (j + 1) = M - j := by show pick (lsc b p M nx j) (cnd b p nx (M - j)) (M - j) (fsc b p M nx j) = _; rw [hl, hc]; exact if_pos (Nat.le_of_lt hv)
          refine ⟨fun h => (by rw [e] at h; cases h), fun l h => ?_⟩
          rw [e] at h; cases h
          refine ⟨j, by omega, ef, hc, fun i hi u hu => ?_, fun i hi hji => by omega⟩
          by_cases h9 : i = j
          · subst h9; rw [hc] at hu; cases hu; exact Nat.le_refl _
          · exact Nat.le_of_lt (Nat.lt_of_lt_of_le hv (h4 i (by omega) u hu))
        · have e : lsc b p M nx (j + 1) = some l0 := by unfold lsc; rw [hl, hc]; exact if_neg hv
          refine ⟨fun h => (by rw [e] at h; cases h), fun l h => ?_⟩
          rw [e] at h; cases h
          by_cases hv2 : v ≤ l0
          · have hv3 : v = l0 := by omega
            have ef : fsc b p M nx (j + 1) = M - j := by show pick (lsc b p M nx j) (cnd b p nx (M - j)) (M - j) (fsc b p M nx j) = _; rw [hl, hc]; exact if_pos hv2
            refine ⟨j, by omega, ef, by rw [hc, hv3], fun i hi u hu => ?_, fun i hi hji => by omega⟩
            by_cases h9 : i = j
            · subst h9; rw [hc] at hu; cases hu; omega
            · exact h4 i (by omega) u hu
          · have ef : fsc b p M nx (j + 1) = fsc b p M nx j := by show pick (lsc b p M nx j) (cnd b p nx (M - j)) (M - j) (fsc b p M nx j) = _; rw [hl, hc]; exact if_neg hv2
            refine ⟨j', by omega, ef.trans h2, h3, fun i hi u hu => ?_, fun i hi hji => ?_⟩
            · by_cases h9 : i = j
              · subst h9; rw [hc] at hu; cases hu; omega
              · exact h4 i (by omega) u hu
            · by_cases h9 : i = j
              · subst h9; rw [hc]; intro z; cases z; omega
              · exact h5 i (by omega) hji
theorem lsc_ge {b p M : Nat} {nx : Nat → Option Nat} {j l : Nat} (hj : j ≤ M + 1) (h : lsc b p M nx j = some l) : (M + 1 - j) * p ≤ l := by
  obtain ⟨j', h1, h2, h3, h4, h5⟩ := (lsc_inv j).2 l h
  obtain ⟨c, c1, c2⟩ := cnd_ge h3
  have : (M + 1 - j) * p ≤ (M - j') * p := Nat.mul_le_mul_right p (by omega)
  omega
theorem lsc_le {b p M B : Nat} {nx : Nat → Option Nat} (hB : ∀ f c, nx f = some c → c ≤ B) {j l : Nat} (h : lsc b p M nx j = some l) : l ≤ B + M * p := by
  obtain ⟨j', h1, h2, h3, h4, h5⟩ := (lsc_inv j).2 l h
  obtain ⟨c, c1, c2⟩ := cnd_ge h3
  unfold bh at c1
  split at c1
  · have := hB _ _ c1
    have h9 : (M - j') * p ≤ M * p := Nat.mul_le_mul_right p (by omega)
    omega
  · cases c1
theorem bh_le {b B : Nat} {nx : Nat → Option Nat} (hB : ∀ f c, nx f = some c → c ≤ B) {f c : Nat} (h : bh b nx f = some c) : c ≤ B := by
  unfold bh at h
  split at h
  · exact hB _ _ h
  · cases h
theorem stp_le {b p M B : Nat} {nx : Nat → Option Nat} (hB : ∀ f c, nx f = some c → c ≤ B) {f c : Nat} (h : stp b p M nx f = some c) : c ≤ B + M * p := by
  unfold stp at h
  split at h
  · have := bh_le hB h; omega
  · cases hl : lsc b p M nx (M + 1 - f) with
    | none => rw [hl] at h; cases h
    | some l =>
      rw [hl] at h
      have h : l - f * p = c := Option.some.inj h
      have := lsc_le hB hl
      omega
theorem CCo_le {bk pr : Nat → Nat} {M L : Nat} (hM : M ≤ 999) (hp : ∀ i, i < L → pr i ≤ 99) : ∀ k, k ≤ L → ∀ f c, CCo bk pr M L k f = some c → c ≤ k * 98901 := by
  intro k
  induction k with
  | zero => intro _ f c h; have h : 0 = c := Option.some.inj h; omega
  | succ k ih =>
    intro hk f c h
    have := stp_le (ih (by omega)) h
    have h2 : M * pr (L - (k + 1)) ≤ 999 * 99 := Nat.mul_le_mul hM (hp _ (by omega))
    omega
theorem bys_spec {b p M : Nat} {nx : Nat → Option Nat} {f c : Nat} (hf : f ≤ M) (h : stp b p M nx f = some c) : f + bys b p M nx f ≤ M ∧ (∃ v, bh b nx (f + bys b p M nx f) = some v ∧ v + bys b p M nx f * p = c) ∧ ∀ n, n < bys b p M nx f → ∀ v, bh b nx (f + n) = some v → v + n * p ≠ c := by
  unfold stp at h
  unfold bys
  split at h
  · rename_i hp
    rw [if_pos hp]
    exact ⟨hf, ⟨c, h, by omega⟩, fun n hn => absurd hn (Nat.not_lt_zero n)⟩
  · rename_i hp
    rw [if_neg hp]
    cases hl : lsc b p M nx (M + 1 - f) with
    | none => rw [hl] at h; cases h
    | some l =>
      rw [hl] at h
      have h : l - f * p = c := Option.some.inj h
      subst h
      obtain ⟨j', h1, h2, h3, h4, h5⟩ := (lsc_inv (M + 1 - f)).2 l hl
      have hg := lsc_ge (by omega) hl
      rw [show M + 1 - (M + 1 - f) = f by omega] at hg
      obtain ⟨q, q1, q2⟩ := cnd_ge h3
      rw [h2]
      have e : f + (M - j' - f) = M - j' := by omega
      rw [e]
      have em : (M - j') * p = f * p + (M - j' - f) * p := by rw [← Nat.add_mul]; congr 1; omega
      refine ⟨by omega, ⟨q, q1, by omega⟩, fun n hn v hv hc => ?_⟩
      refine h5 (M - (f + n)) (by omega) (by omega) ?_
      rw [show M - (M - (f + n)) = f + n by omega]
      unfold cnd
      rw [hv]
      have en : (f + n) * p = f * p + n * p := Nat.add_mul _ _ _
      show some (v + (f + n) * p) = some l
      congr 1; omega
/-! of σ -/
def rtN (σ : Sg) (i : Nat) : Nat := ix (dD σ 1322 i)
def bkN (σ : Sg) (s i : Nat) : Nat := ix (brI σ s (rtN σ i) (rtN σ (i + 1)))
def prN (σ : Sg) (i : Nat) : Nat := ix (dD σ 1302 (rtN σ i))
def MNs (σ : Sg) (s : Nat) : Nat := ix (dD σ 1308 s)
def cIo (σ : Sg) (s i : Nat) : Nat → Option Nat := CCo (bkN σ s) (prN σ) (MNs σ s) (cN σ 6 - 1) (cN σ 6 - 1 - i)
def byN (σ : Sg) (s i f : Nat) : Nat := bys (bkN σ s i) (prN σ i) (MNs σ s) (cIo σ s (i + 1)) f
def cfl (σ : Sg) (s : Nat) : Nat → Nat
  | 0 => 0
  | k + 1 => cfl σ s k + byN σ s k (cfl σ s k) - bkN σ s k
def canS (σ : Sg) : Prop := 2 ≤ cN σ 6 ∧ ∀ i, i < cN σ 6 - 1 → lkI σ (rtN σ i) (rtN σ (i + 1)) = 0
def oI : Option Nat → Int32
  | none => -1
  | some c => nI c
def oNv : Option Nat → Int32
  | none => 1000000
  | some c => nI c
theorem cIo_s {σ : Sg} {s i : Nat} (h : i < cN σ 6 - 1) : cIo σ s i = stp (bkN σ s i) (prN σ i) (MNs σ s) (cIo σ s (i + 1)) := by
  funext f
  unfold cIo
  obtain ⟨k, hk⟩ : ∃ k, cN σ 6 - 1 - i = k + 1 := ⟨cN σ 6 - 1 - i - 1, by omega⟩
  rw [hk]
  show stp (bkN σ s (cN σ 6 - 1 - (k + 1))) (prN σ (cN σ 6 - 1 - (k + 1))) (MNs σ s) (CCo (bkN σ s) (prN σ) (MNs σ s) (cN σ 6 - 1) k) f = _
  rw [show cN σ 6 - 1 - (k + 1) = i by omega, show cN σ 6 - 1 - (i + 1) = k by omega]
theorem cIo_L {σ : Sg} {s f : Nat} : cIo σ s (cN σ 6 - 1) f = some 0 := by
  unfold cIo; rw [Nat.sub_self]; rfl
theorem rt_ok {σ : Sg} (hi : Inv σ) {i : Nat} (h : i < cN σ 6) : okN (dD σ 1322 i) (cN σ 0) ∧ rtN σ i < cN σ 0 := by
  have := hi.2.2.2.2.2.2.2.1 i h
  exact ⟨this, okN_lt this (by have := hi.1.1; omega)⟩
theorem MN_eq {σ : Sg} (hi : Inv σ) {s : Nat} (hs : s < cN σ 1) : dD σ 1308 s = nI (MNs σ s) ∧ MNs σ s ≤ 999 := by
  have h := (hi.2.2.2.1 s hs).2.2.2.1
  exact bet_nI (b := 999) ⟨by have := h.1; omega, h.2⟩
theorem pr_eq {σ : Sg} (hi : Inv σ) {i : Nat} (h : i < cN σ 6) : dD σ 1302 (rtN σ i) = nI (prN σ i) ∧ prN σ i ≤ 99 := bet_nI (b := 99) (hi.2.1 _ (rt_ok hi h).2).2
theorem br_bet {σ : Sg} (hi : Inv σ) {s p q : Nat} (hs : s < cN σ 1) (hp : p < 8) (hq : q < 8) : bet (brI σ s p q) 0 769923 := by
  obtain ⟨eh, lh⟩ := bet_nI (b := 9999) (hr_bet hi hs hp hq)
  obtain ⟨-, -, -, -, a5, a6, -⟩ := hi.2.2.2.1 s hs
  obtain ⟨ea, la⟩ := bet_nI (b := 50) ⟨by have := a5.1; omega, a5.2⟩
  obtain ⟨ek, lk⟩ := bet_nI (b := 14) ⟨by have := a6.1; omega, a6.2⟩
  unfold brI bnI
  rw [eh, ea, ek, show (100 : Int32) = nI 100 by decide, pk_mul, pk_mul]
  generalize ix (hrI σ s p q) = h at lh
  generalize ix (dD σ 1309 s) = a at la
  generalize ix (dD σ 1310 s) = k at lk
  have hk2 : k * k ≤ 14 * 14 := Nat.mul_le_mul lk lk
  have hk3 : k * k * k ≤ 14 * 14 * 14 := Nat.mul_le_mul hk2 lk
  rw [pk_div (by omega) (by decide) (by decide), nI_add, pk_mul]
  have hq : h * (a + k * k * k / 100) ≤ 9999 * 77 := Nat.mul_le_mul lh (by omega)
  exact (up_bet (A := 769923) (B := 24) (bet_n (by omega) (by decide)) ⟨by decide, by decide⟩ (by decide)).1
theorem bk_eq {σ : Sg} (hi : Inv σ) {s i : Nat} (hs : s < cN σ 1) (h : i + 1 < cN σ 6) : brI σ s (rtN σ i) (rtN σ (i + 1)) = nI (bkN σ s i) ∧ bkN σ s i ≤ 769923 := by
  have h0 := hi.1.1
  have h1 := (rt_ok hi (show i < cN σ 6 by omega)).2
  have h2 := (rt_ok hi h).2
  exact bet_nI (b := 769923) (br_bet hi hs (by omega) (by omega))
theorem cIo_le {σ : Sg} (hi : Inv σ) {s i f c : Nat} (hs : s < cN σ 1) (h : cIo σ s i f = some c) : c ≤ 494505 := by
  have hn := hi.1.2.2.2.2.2.2
  have := CCo_le (MN_eq hi hs).2 (fun j hj => (pr_eq hi (show j < cN σ 6 by omega)).2) (cN σ 6 - 1 - i) (by omega) f c h
  omega
theorem path_ok {σ : Sg} {s : Nat} (h0 : cIo σ s 0 0 ≠ none) : ∀ k, k ≤ cN σ 6 - 1 → cfl σ s k ≤ MNs σ s ∧ cIo σ s k (cfl σ s k) ≠ none := by
  intro k
  induction k with
  | zero => intro _; exact ⟨Nat.zero_le _, h0⟩
  | succ k ih =>
    intro hk
    obtain ⟨i1, i2⟩ := ih (by omega)
    cases hc : cIo σ s k (cfl σ s k) with
    | none => exact absurd hc i2
    | some c =>
      rw [cIo_s (by omega)] at hc
      obtain ⟨b1, ⟨v, b2, b3⟩, b4⟩ := bys_spec i1 hc
      unfold bh at b2
      split at b2
      · rename_i hb
        refine ⟨?_, ?_⟩
        · show cfl σ s k + byN σ s k (cfl σ s k) - bkN σ s k ≤ _
          unfold byN; omega
        · show cIo σ s (k + 1) (cfl σ s k + byN σ s k (cfl σ s k) - bkN σ s k) ≠ none
          unfold byN
          rw [b2]; intro z; cases z
      · cases b2
