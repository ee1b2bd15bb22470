/-! WHAT IS READ: where it ends, the codes, whether there was a fault -/
abbrev PRs : Type := Nat × List (Int32 × Int32) × Bool
def lvT (t : Int32) : Nat := if t = -1 then 0 else if t = -2 then 1 else if t = -4 then 2 else if t = -5 then 2 else if t = -6 then 3 else if t = -7 then 3 else if t = -8 then 4 else 9
def lpP (T : Nat → Int32) (f : Nat → PRs) (lv : Nat) : Nat → PRs → PRs
  | 0, r => r
  | k + 1, r => if r.2.2 then r else if lvT (T r.1) = lv then lpP T f lv k ((f (r.1 + 1)).1, r.2.1 ++ (f (r.1 + 1)).2.1 ++ [(1 - T r.1, 0)], (f (r.1 + 1)).2.2) else r
def pG (T : Nat → Int32) : Nat → Nat → Nat → Nat → PRs
  | 0, _, _, i => (i, [], true)
  | d + 1, lv, o, i =>
    if lv < 5 then
      (if lv = 2 ∧ T i = -3 then
        (if o < 5 then ((pG T d 2 (o + 1) (i + 1)).1, (pG T d 2 (o + 1) (i + 1)).2.1 ++ [(4, 0)], (pG T d 2 (o + 1) (i + 1)).2.2) else (i, [(4, 0)], true))
      else lpP T (pG T d (lv + 1) o) lv (if lv = 2 then 1 else 160) (pG T d (lv + 1) o i))
    else if 0 ≤ T i then (i + 1, [(0, T i)], false)
    else if -14 ≤ T i ∧ T i ≤ -10 then (i + 1, [(1, -10 - T i)], false)
    else if T i = -7 then
      (if o < 5 then ((pG T d 5 (o + 1) (i + 1)).1, (pG T d 5 (o + 1) (i + 1)).2.1 ++ [(10, 0)], (pG T d 5 (o + 1) (i + 1)).2.2) else (i, [(10, 0)], true))
    else if T i = -23 then
      (if o < 5 then (if (pG T d 0 (o + 1) (i + 1)).2.2 then pG T d 0 (o + 1) (i + 1) else if T (pG T d 0 (o + 1) (i + 1)).1 = -24 then ((pG T d 0 (o + 1) (i + 1)).1 + 1, (pG T d 0 (o + 1) (i + 1)).2.1, false) else ((pG T d 0 (o + 1) (i + 1)).1, (pG T d 0 (o + 1) (i + 1)).2.1, true)) else (i, [], true))
    else (i, [], true)
def hL : List (Int32 × Int32) → Nat → Option Nat
  | [], h => some h
  | p :: L, h => if p.1 = 0 ∨ p.1 = 1 then hL L (h + 1) else if p.1 = 4 ∨ p.1 = 10 then (if 1 ≤ h then hL L h else none) else (if 2 ≤ h then hL L (h - 1) else none)
theorem hL_app : ∀ (L1 L2 : List (Int32 × Int32)) (h k : Nat), hL L1 h = some k → hL (L1 ++ L2) h = hL L2 k := by
  intro L1
  induction L1 with
  | nil => intro L2 h k e; cases e; rfl
  | cons p L1 ih =>
    intro L2 h k e
    show (if p.1 = 0 ∨ p.1 = 1 then hL (L1 ++ L2) (h + 1) else if p.1 = 4 ∨ p.1 = 10 then (if 1 ≤ h then hL (L1 ++ L2) h else none) else (if 2 ≤ h then hL (L1 ++ L2) (h - 1) else none)) = _
    have e : (if p.1 = 0 ∨ p.1 = 1 then hL L1 (h + 1) else if p.1 = 4 ∨ p.1 = 10 then (if 1 ≤ h then hL L1 h else none) else (if 2 ≤ h then hL L1 (h - 1) else none)) = some k := e
    split
    · rename_i q; rw [if_pos q] at e; exact ih L2 _ k e
    · rename_i q
      rw [if_neg q] at e
      split
      · rename_i r
        rw [if_pos r] at e
        split
        · rename_i u; rw [if_pos u] at e; exact ih L2 _ k e
        · rename_i u; rw [if_neg u] at e; cases e
      · rename_i r
        rw [if_neg r] at e
        split
        · rename_i u; rw [if_pos u] at e; exact ih L2 _ k e
        · rename_i u; rw [if_neg u] at e; cases e
def okL (L : List (Int32 × Int32)) : Prop := ∀ p, p ∈ L → okC p.1 p.2
/-- what holds of what was read from i on -/
def gdR (N i : Nat) (r : PRs) : Prop := i ≤ r.1 ∧ r.1 ≤ N ∧ r.2.1.length + i ≤ r.1 + (if r.2.2 then 1 else 0) ∧ (r.2.2 = false → i < r.1 ∧ okL r.2.1 ∧ ∀ h, hL r.2.1 h = some (h + 1))
theorem lv_op {t : Int32} (h : lvT t < 5) : bet (1 - t) 2 10 ∧ (1 - t ≠ 4 ∧ 1 - t ≠ 10) ∧ t ≠ -26 := by
  unfold lvT at h
  repeat' (split at h)
  all_goals first
    | (rename_i e; subst e; exact ⟨⟨by decide, by decide⟩, by decide, by decide⟩)
    | omega
theorem op_h {o : Int32} (h : bet o 2 10) (h4 : o ≠ 4) (h10 : o ≠ 10) (k : Nat) : hL [(o, 0)] (k + 2) = some (k + 1) := by
  have n0 : ¬ o = 0 := fun z => by have := h.1; rw [z] at this; revert this; decide
  have n1 : ¬ o = 1 := fun z => by have := h.1; rw [z] at this; revert this; decide
  show (if o = 0 ∨ o = 1 then hL [] (k + 2 + 1) else if o = 4 ∨ o = 10 then (if 1 ≤ k + 2 then hL [] (k + 2) else none) else (if 2 ≤ k + 2 then hL [] (k + 2 - 1) else none)) = _
  rw [if_neg (fun z => z.elim n0 n1), if_neg (fun z => z.elim h4 h10), if_pos (by omega)]
  rfl
theorem okL_app {L1 L2 : List (Int32 × Int32)} (h1 : okL L1) (h2 : okL L2) : okL (L1 ++ L2) := fun p hp => (List.mem_append.mp hp).elim (h1 p) (h2 p)
theorem okL_1 {o v : Int32} (h : okC o v) : okL [(o, v)] := fun p hp => by
  rw [List.mem_singleton] at hp; subst hp; exact h
theorem lpP_ok {T : Nat → Int32} {N : Nat} (hT : T N = -26) {f : Nat → PRs} {lv : Nat} (hlv : lv < 5) (hf : ∀ i, i ≤ N → gdR N i (f i)) {i : Nat} : ∀ (k : Nat) (r : PRs), gdR N i r → gdR N i (lpP T f lv k r) := by
  intro k
  induction k with
  | zero => intro r hr; exact hr
  | succ k ih =>
    intro r hr
    unfold lpP
    split
    · exact hr
    · rename_i e
      have e : r.2.2 = false := Bool.eq_false_iff.mpr e
      split
      · rename_i el
        obtain ⟨h1, h2, h3, h4⟩ := hr
        have ⟨o1, o2, o3⟩ := lv_op (t := T r.1) (by rw [el]; exact hlv)
        have hlt : r.1 < N := by
          by_cases q : r.1 = N
          · rw [q, hT] at o3; exact absurd rfl o3
          · omega
        obtain ⟨g1, g2, g3, g4⟩ := hf (r.1 + 1) hlt
        rw [e] at h3
        simp only [Bool.false_eq_true, if_false] at h3
        refine ih _ ⟨by show i ≤ (f (r.1 + 1)).1; omega, g2, ?_, fun ef => ⟨by show i < (f (r.1 + 1)).1; omega, ?_, fun h => ?_⟩⟩
        · show (r.2.1 ++ (f (r.1 + 1)).2.1 ++ [(1 - T r.1, 0)]).length + i ≤ (f (r.1 + 1)).1 + (if (f (r.1 + 1)).2.2 then 1 else 0)
          rw [List.length_append, List.length_append, List.length_singleton]
          omega
        · exact okL_app (okL_app (h4 e).2.1 (g4 ef).2.1) (okL_1 (Or.inr (Or.inr ⟨o1, rfl⟩)))
        · show hL (r.2.1 ++ (f (r.1 + 1)).2.1 ++ [(1 - T r.1, 0)]) h = some (h + 1)
          have a1 := (h4 e).2.2 h
          have a2 := (g4 ef).2.2 (h + 1)
          rw [List.append_assoc, hL_app _ _ _ _ a1, hL_app _ _ _ _ a2]
          exact op_h o1 o2.1 o2.2 h
      · exact hr
theorem un_h (o : Int32) (ho : o = 4 ∨ o = 10) (k : Nat) : hL [(o, 0)] (k + 1) = some (k + 1) := by
  show (if o = 0 ∨ o = 1 then hL [] (k + 1 + 1) else if o = 4 ∨ o = 10 then (if 1 ≤ k + 1 then hL [] (k + 1) else none) else (if 2 ≤ k + 1 then hL [] (k + 1 - 1) else none)) = _
  have n01 : ¬ (o = 0 ∨ o = 1) := by rcases ho with rfl | rfl <;> decide
  rw [if_neg n01, if_pos ho, if_pos (by omega)]
  rfl
theorem un_ok {N i : Nat} {r : PRs} (hi : i < N) (h : gdR N (i + 1) r) (o : Int32) (ho : o = 4 ∨ o = 10) : gdR N i (r.1, r.2.1 ++ [(o, 0)], r.2.2) := by
  obtain ⟨h1, h2, h3, h4⟩ := h
  refine ⟨by show i ≤ r.1; omega, h2, ?_, fun e => ⟨by show i < r.1; omega, ?_, fun k => ?_⟩⟩
  · show (r.2.1 ++ [(o, 0)]).length + i ≤ r.1 + (if r.2.2 then 1 else 0)
    rw [List.length_append, List.length_singleton]; omega
  · refine okL_app (h4 e).2.1 (okL_1 (Or.inr (Or.inr ⟨?_, rfl⟩)))
    rcases ho with rfl | rfl
    · exact ⟨by decide, by decide⟩
    · exact ⟨by decide, by decide⟩
  · show hL (r.2.1 ++ [(o, 0)]) k = some (k + 1)
    rw [hL_app _ _ _ _ ((h4 e).2.2 k)]
    exact un_h o ho k
theorem name_ok {t : Int32} (h : -14 ≤ t ∧ t ≤ -10) : bet (-10 - t) 0 4 := by
  obtain ⟨h1, h2⟩ := h
  rw [i_le] at h1 h2
  have e14 : (-14 : Int32).toInt = -14 := by decide
  have e10 : (-10 : Int32).toInt = -10 := by decide
  rw [e14] at h1
  rw [e10] at h2
  unfold bet
  rw [fb_subI (by rw [e10]; omega) (by rw [e10]; omega), e10]
  omega
theorem pG_ok {T : Nat → Int32} {N : Nat} (hT : T N = -26) (hok : ∀ i, okTk (T i)) : ∀ (d lv o i : Nat), i ≤ N → gdR N i (pG T d lv o i) := by
  intro d
  induction d with
  | zero =>
    intro lv o i hi
    exact ⟨Nat.le_refl _, hi, by show 0 + i ≤ i + 1; omega, fun e => by cases e⟩
  | succ d ih =>
    intro lv o i hi
    have lt : ∀ {t : Int32}, T i = t → t ≠ -26 → i < N := by
      intro t e n
      by_cases q : i = N
      · rw [q, hT] at e; exact absurd e.symm n
      · omega
    have er : ∀ L : List (Int32 × Int32), L.length ≤ 1 → gdR N i (i, L, true) := fun L hl => ⟨Nat.le_refl _, hi, by show L.length + i ≤ i + 1; omega, fun e => by cases e⟩
    unfold pG
    split
    · rename_i hlv
      split
      · rename_i hn
        split
        · exact un_ok (lt hn.2 (by decide)) (ih 2 (o + 1) (i + 1) (lt hn.2 (by decide))) 4 (Or.inl rfl)
        · exact er _ (by decide)
      · exact lpP_ok hT hlv (fun j hj => ih (lv + 1) o j hj) _ _ (ih (lv + 1) o i hi)
    · split
      · rename_i h0
        have hl : i < N := lt rfl (fun z => by rw [z] at h0; revert h0; decide)
        refine ⟨by show i ≤ i + 1; omega, hl, by show 1 + i ≤ i + 1 + 0; omega, fun _ => ⟨by show i < i + 1; omega, okL_1 (Or.inl ⟨rfl, ?_⟩), fun k => rfl⟩⟩
        have e0 : (0 : Int32).toInt = 0 := by decide
        have e9 : (9999 : Int32).toInt = 9999 := by decide
        rcases hok i with q | q
        · refine ⟨?_, ?_⟩
          · have := (i_le _ _).mp q.1; rw [e0] at this; exact this
          · have := (i_le _ _).mp q.2; rw [e9] at this; exact this
        · exfalso
          have : ∀ t ∈ negT, ¬ 0 ≤ t := by decide
          exact this _ q h0
      · split
        · rename_i hn
          have hl : i < N := lt rfl (fun z => by rw [z] at hn; revert hn; decide)
          exact ⟨by show i ≤ i + 1; omega, hl, by show 1 + i ≤ i + 1 + 0; omega, fun _ => ⟨by show i < i + 1; omega, okL_1 (Or.inr (Or.inl ⟨rfl, name_ok hn⟩)), fun k => rfl⟩⟩
        · split
          · rename_i h7
            split
            · exact un_ok (lt h7 (by decide)) (ih 5 (o + 1) (i + 1) (lt h7 (by decide))) 10 (Or.inr rfl)
            · exact er _ (by decide)
          · split
            · rename_i h23
              have hl := lt h23 (by decide)
              split
              · obtain ⟨h1, h2, h3, h4⟩ := ih 0 (o + 1) (i + 1) hl
                split
                · rename_i e
                  exact ⟨by omega, h2, by omega, fun z => by rw [e] at z; cases z⟩
                · rename_i e
                  have e : (pG T d 0 (o + 1) (i + 1)).2.2 = false := Bool.eq_false_iff.mpr e
                  rw [e] at h3
                  simp only [Bool.false_eq_true, if_false] at h3
                  split
                  · rename_i h24
                    have hl2 : (pG T d 0 (o + 1) (i + 1)).1 < N := by
                      by_cases q : (pG T d 0 (o + 1) (i + 1)).1 = N
                      · rw [q, hT] at h24; exact absurd h24 (by decide)
                      · omega
                    exact ⟨by show i ≤ (pG T d 0 (o + 1) (i + 1)).1 + 1; omega, hl2, by show (pG T d 0 (o + 1) (i + 1)).2.1.length + i ≤ (pG T d 0 (o + 1) (i + 1)).1 + 1 + 0; omega, fun _ => ⟨by show i < (pG T d 0 (o + 1) (i + 1)).1 + 1; omega, (h4 e).2.1, (h4 e).2.2⟩⟩
                  · exact ⟨by show i ≤ (pG T d 0 (o + 1) (i + 1)).1; omega, h2, by show (pG T d 0 (o + 1) (i + 1)).2.1.length + i ≤ (pG T d 0 (o + 1) (i + 1)).1 + 1; omega, fun z => by cases z⟩
              · exact er _ (by decide)
            · exact er _ (by decide)
