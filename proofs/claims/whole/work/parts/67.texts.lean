/-! text: the reference, and what always holds behind it -/
def stT (σ : Sg) (op vl : Nat → Int32) (p1 p2 : Nat) : Sg := (va_up (va_up σ.1 5 0) 3 (cN σ 3 + 1), fun f i => if f = 1326 ∧ 160 * cN σ 3 ≤ i then op (i - 160 * cN σ 3) else if f = 1327 ∧ 160 * cN σ 3 ≤ i then vl (i - 160 * cN σ 3) else if f = 1328 ∧ i = 3 * cN σ 3 then 0 else if f = 1328 ∧ i = 3 * cN σ 3 + 1 then nI p1 else if f = 1328 ∧ i = 3 * cN σ 3 + 2 then nI p2 else σ.2 f i)
theorem st_1326 (σ : Sg) (op vl : Nat → Int32) (p1 p2 i : Nat) : dD (stT σ op vl p1 p2) 1326 i = if 160 * cN σ 3 ≤ i then op (i - 160 * cN σ 3) else dD σ 1326 i := by
  show (if 1326 = 1326 ∧ 160 * cN σ 3 ≤ i then op (i - 160 * cN σ 3) else _) = _
  by_cases h : 160 * cN σ 3 ≤ i
  · rw [if_pos ⟨rfl, h⟩, if_pos h]
  · rw [if_neg (fun z => h z.2), if_neg h]; rfl
theorem st_1327 (σ : Sg) (op vl : Nat → Int32) (p1 p2 i : Nat) : dD (stT σ op vl p1 p2) 1327 i = if 160 * cN σ 3 ≤ i then vl (i - 160 * cN σ 3) else dD σ 1327 i := by
  show (if 1327 = 1326 ∧ 160 * cN σ 3 ≤ i then op (i - 160 * cN σ 3) else if 1327 = 1327 ∧ 160 * cN σ 3 ≤ i then vl (i - 160 * cN σ 3) else _) = _
  rw [if_neg (fun z => absurd z.1 (by decide))]
  by_cases h : 160 * cN σ 3 ≤ i
  · rw [if_pos ⟨rfl, h⟩, if_pos h]
  · rw [if_neg (fun z => h z.2), if_neg h]; rfl
theorem st_1328 (σ : Sg) (op vl : Nat → Int32) (p1 p2 i : Nat) : dD (stT σ op vl p1 p2) 1328 i = if i = 3 * cN σ 3 then 0 else if i = 3 * cN σ 3 + 1 then nI p1 else if i = 3 * cN σ 3 + 2 then nI p2 else dD σ 1328 i := by
  show (if 1328 = 1326 ∧ 160 * cN σ 3 ≤ i then op (i - 160 * cN σ 3) else if 1328 = 1327 ∧ 160 * cN σ 3 ≤ i then vl (i - 160 * cN σ 3) else if 1328 = 1328 ∧ i = 3 * cN σ 3 then 0 else if 1328 = 1328 ∧ i = 3 * cN σ 3 + 1 then nI p1 else if 1328 = 1328 ∧ i = 3 * cN σ 3 + 2 then nI p2 else σ.2 1328 i) = _
  rw [if_neg (fun z => absurd z.1 (by decide)), if_neg (fun z => absurd z.1 (by decide))]
  by_cases a : i = 3 * cN σ 3
  · rw [if_pos ⟨rfl, a⟩, if_pos a]
  · rw [if_neg (fun z => a z.2), if_neg a]
    by_cases b : i = 3 * cN σ 3 + 1
    · rw [if_pos ⟨rfl, b⟩, if_pos b]
    · rw [if_neg (fun z => b z.2), if_neg b]
      by_cases c : i = 3 * cN σ 3 + 2
      · rw [if_pos ⟨rfl, c⟩, if_pos c]
      · rw [if_neg (fun z => c z.2), if_neg c]; rfl
theorem st_o (σ : Sg) (op vl : Nat → Int32) (p1 p2 f i : Nat) (h6 : f ≠ 1326) (h7 : f ≠ 1327) (h8 : f ≠ 1328) : dD (stT σ op vl p1 p2) f i = dD σ f i := by
  show (if f = 1326 ∧ 160 * cN σ 3 ≤ i then op (i - 160 * cN σ 3) else if f = 1327 ∧ 160 * cN σ 3 ≤ i then vl (i - 160 * cN σ 3) else if f = 1328 ∧ i = 3 * cN σ 3 then 0 else if f = 1328 ∧ i = 3 * cN σ 3 + 1 then nI p1 else if f = 1328 ∧ i = 3 * cN σ 3 + 2 then nI p2 else σ.2 f i) = _
  rw [if_neg (fun z => h6 z.1), if_neg (fun z => h7 z.1), if_neg (fun z => h8 z.1), if_neg (fun z => h8 z.1), if_neg (fun z => h8 z.1)]; rfl
def tT (σ : Sg) : Nat → Int32 := TS σ (cN σ 5)
abbrev okTx (σ : Sg) : Prop := (rd2 (tT σ)).2.2 = false ∧ tT σ (rd2 (tT σ)).1 = -26
def fitL (L : List (Int32 × Int32)) (op vl : Nat → Int32) : Prop := ∀ j, j < L.length → op j = (gtL L j).1 ∧ vl j = (gtL L j).2
theorem r_text {g : Nat → Nat} {m : Nat} {σ : Sg} {S : HSt} (h : MR g m S σ) (h3 : cN σ 3 ≤ 6) (h5 : cN σ 5 ≤ 160) (hB : ∀ k, k < cN σ 5 → bet (dD σ 1323 k) 0 255) : wp_X12_text g m S (fun r S' => (cN σ 3 = 6 ∧ r = -4 ∧ MR g m S' σ) ∨ (cN σ 3 < 6 ∧ ¬ okTx σ ∧ r = -100 - nI (PS σ (cN σ 5) (rd2 (tT σ)).1) ∧ MR g m S' (sN σ 5 0)) ∨ (cN σ 3 < 6 ∧ okTx σ ∧ r = nI (cN σ 3) ∧ ∃ op vl, fitL (rd2 (tT σ)).2.1 op vl ∧ MR g m S' (stT σ op vl (rd1 (tT σ)).2.1.length (rd2 (tT σ)).2.1.length))) := by
  unfold wp_X12_text
  rw [h.c 1325 3]
  refine ⟨fun n6 S2 e2 S5 e5 => ?_, fun e6 => Or.inl ⟨nI_inj (by omega) (by decide) e6, rfl, h⟩⟩
  have hlt : cN σ 3 < 6 := by
    by_cases q : cN σ 3 = 6
    · rw [q] at n6; exact absurd rfl n6
    · omega
  have m5 : MR g m S5 (sN σ 5 0) := by rw [e5, e2]; exact (h.pI0 1350 _).pI 1324 5 0 0 rfl
  have c5 : gI S5 1325 m = nI (cN σ 3) := m5.c 1325 3
  have z5 : gI S5 1350 m = nI (cN σ 5) := by
    rw [e5]; show gI S2 1350 m = _; rw [e2, gI_same, if_pos rfl]; exact h.c 1324 5
  have hA : ∀ i, gA S5 228 (g 1328) i = gA S 228 (g 1328) i := by rw [e5, e2]; exact fun _ => rfl
  obtain ⟨N, hN⟩ := NT_ex (dD σ 1323) (cN σ 5)
  have H : HH (sN σ 5 0) (cN σ 5) N := ⟨h5, hB, by show cN σ 3 ≤ 5; omega, hN⟩
  have hPl : PS σ (cN σ 5) (rd2 (tT σ)).1 ≤ cN σ 5 := plN_le _
  rw [c5]
  refine r_reads (σ := sN σ 5 0) H m5 z5 (fun S9 σ' eσ k9 w9 a9 => ?_)
  have w9 : gI S9 1356 m = (if okTx σ then -1 else nI (PS σ (cN σ 5) (rd2 (tT σ)).1)) := w9
  have c9 : gI S9 1325 m = nI (cN σ 3) := by
    have := k9.1.1.c 1325 3
    rw [eσ] at this; exact this
  have r28 : ∀ i, i < 3 * cN σ 3 → gA S9 228 (g 1328) i = dD σ 1328 i := by
    intro i hi
    rw [k9.1.2 i, eσ, dD_same, if_neg (show ¬ i = 3 * cN (sN σ 5 0) 3 + 2 by show ¬ i = 3 * cN σ 3 + 2; omega), dD_same, if_neg (show ¬ i = 3 * cN (sN σ 5 0) 3 + 1 by show ¬ i = 3 * cN σ 3 + 1; omega), dD_same, if_neg (show ¬ i = 3 * cN (sN σ 5 0) 3 by show ¬ i = 3 * cN σ 3; omega)]
    exact (hA i).trans (h.2.2.2.2.1 i hi)
  have mp : ∀ q ∈ mpers, ∀ i, gA S9 q.2 (g q.1) i = dD σ q.1 i := by
    intro q hq i
    rw [k9.1.1.2.2.1 q hq i, eσ, dD_sD, if_neg (fun y => (mpers_no q hq).2.2.1 y.1), dD_sD, if_neg (fun y => (mpers_no q hq).2.2.1 y.1), dD_sD, if_neg (fun y => (mpers_no q hq).2.2.1 y.1)]
    show (if q.1 = 1328 then _ else dD σ q.1 i) = _
    rw [if_neg (mpers_no q hq).2.2.1]
  have m67 : ∀ i, i < 160 * cN σ 3 → gA S9 226 (g 1326) i = dD σ 1326 i ∧ gA S9 227 (g 1327) i = dD σ 1327 i := by
    have := k9.1.1.2.2.2.1
    rw [eσ] at this; exact this
  have cnt : ∀ q ∈ mcnt, gI S9 q.1 m = nI (cN (sN σ 5 0) q.2) := by
    have := k9.1.1.2.1
    rw [eσ] at this; exact this
  unfold wp_X12_isWrong
  rw [w9]
  by_cases ok : okTx σ
  · rw [if_pos ok]
    refine ⟨fun _ => ⟨fun _ S15 e15 => Or.inr (Or.inr ⟨hlt, ok, ?_, fun j => gA S9 226 (g 1326) (160 * cN σ 3 + j), fun j => gA S9 227 (g 1327) (160 * cN σ 3 + j), a9, ?_⟩), fun q => absurd rfl q⟩, fun q => absurd rfl q⟩
    · rw [e15, gI_same, if_pos rfl, c9]; exact nI_sub1 _
    · refine ⟨by rw [e15]; exact k9.1.1.1.ks (Ks_uI rfl), fun q hq => ?_, fun q hq i => ?_, fun i hi => ⟨?_, ?_⟩, fun i hi => ?_, fun i hi => ?_⟩
      · rw [e15, c9, nI_1, gI_uI]
        by_cases hf : q.1 = 1325
        · rw [if_pos ⟨hf, rfl⟩, (mcnt_inj q hq (1325, 3) (by decide)).mp hf]; rfl
        · have h3' : q.2 ≠ 3 := fun y => hf ((mcnt_inj q hq (1325, 3) (by decide)).mpr y)
          rw [if_neg (fun y => hf y.1), cnt q hq]
          show nI (va_up σ.1 5 0 q.2) = nI (va_up (va_up σ.1 5 0) 3 (cN σ 3 + 1) q.2)
          rw [va_up_ne _ _ h3']
      · rw [e15, st_o _ _ _ _ _ _ _ (mpers_no q hq).1 (mpers_no q hq).2.1 (mpers_no q hq).2.2.1]
        exact mp q hq i
      · rw [e15, st_1326]
        show gA S9 226 (g 1326) i = _
        split
        · rename_i le
          show _ = gA S9 226 (g 1326) (160 * cN σ 3 + (i - 160 * cN σ 3))
          rw [show 160 * cN σ 3 + (i - 160 * cN σ 3) = i by omega]
        · exact (m67 i (by omega)).1
      · rw [e15, st_1327]
        show gA S9 227 (g 1327) i = _
        split
        · rename_i le
          show _ = gA S9 227 (g 1327) (160 * cN σ 3 + (i - 160 * cN σ 3))
          rw [show 160 * cN σ 3 + (i - 160 * cN σ 3) = i by omega]
        · exact (m67 i (by omega)).2
      · have hi : i < 3 * (cN σ 3 + 1) := hi
        rw [e15, st_1328]
        show gA S9 228 (g 1328) i = _
        by_cases q0 : i = 3 * cN σ 3
        · rw [if_pos q0, k9.1.2 i, eσ, dD_same, if_neg (show ¬ i = 3 * cN (sN σ 5 0) 3 + 2 by show ¬ i = 3 * cN σ 3 + 2; omega), dD_same, if_neg (show ¬ i = 3 * cN (sN σ 5 0) 3 + 1 by show ¬ i = 3 * cN σ 3 + 1; omega), dD_same, if_pos (show i = 3 * cN (sN σ 5 0) 3 from q0)]
        · rw [if_neg q0]
          by_cases q1 : i = 3 * cN σ 3 + 1
          · rw [if_pos q1, k9.1.2 i, eσ, dD_same, if_neg (show ¬ i = 3 * cN (sN σ 5 0) 3 + 2 by show ¬ i = 3 * cN σ 3 + 2; omega), dD_same, if_pos (show i = 3 * cN (sN σ 5 0) 3 + 1 from q1)]; rfl
          · rw [if_neg q1]
            by_cases q2 : i = 3 * cN σ 3 + 2
            · rw [if_pos q2, k9.1.2 i, eσ, dD_same, if_pos (show i = 3 * cN (sN σ 5 0) 3 + 2 from q2)]; rfl
            · rw [if_neg q2]; exact r28 i (by omega)
      · rw [e15]; exact k9.1.1.2.2.2.2.2 i hi
  · rw [if_neg ok]
    have ne : ¬ nI (PS σ (cN σ 5) (rd2 (tT σ)).1) = -1 := by
      intro q
      have e9 := nI_toInt (n := PS σ (cN σ 5) (rd2 (tT σ)).1) (by omega)
      rw [q] at e9
      have e1 : (-1 : Int32).toInt = -1 := by decide
      omega
    have mx : MRx g m S9 (sN σ 5 0) := ⟨m67, r28, k9.1.1.2.2.2.2.2⟩
    have mf : MR g m S9 (sN σ 5 0) := ⟨k9.1.1.1, cnt, mp, mx⟩
    exact ⟨fun q => absurd q ne, fun _ => ⟨fun q => absurd q (by decide), fun _ => Or.inr (Or.inl ⟨hlt, ok, by rw [w9, if_neg ok], mf⟩)⟩⟩
theorem ptP_s {T : Nat → Int32} {N : Nat} (hT : T N = -26) (hok : ∀ i, okTk (T i)) {key : Int32} (hk : key ≠ -26) {s : PRs} (hs : s.1 ≤ N) (e : (ptP T key s).2.2 = false) : s.2.2 = false ∧ ∃ L, (ptP T key s).2.1 = s.2.1 ++ L ∧ okL L ∧ ∀ h, hL L h = some (h + 1) := by
  unfold ptP at e ⊢
  split at e
  · rename_i y; rw [y] at e; cases e
  · rename_i y
    split at e
    · rename_i ek
      have hlt : s.1 < N := by
        by_cases q : s.1 = N
        · rw [q, hT] at ek; exact absurd ek.symm hk
        · omega
      obtain ⟨g1, g2, g3, g4⟩ := pG_ok hT hok 80 0 0 (s.1 + 1) hlt
      rw [if_neg y, if_pos ek]
      split at e
      · cases e
      · rename_i e2
        rw [if_neg e2]
        split at e
        · rename_i e25
          rw [if_pos e25]
          obtain ⟨x1, x2, x3⟩ := g4 (Bool.eq_false_iff.mpr e2)
          exact ⟨Bool.eq_false_iff.mpr y, _, rfl, x2, x3⟩
        · cases e
    · cases e
/-- what was read well -/
theorem rd_s {σ : Sg} (h5 : cN σ 5 ≤ 160) (ok : okTx σ) : ∃ L1 L2, (rd1 (tT σ)).2.1 = L1 ∧ (rd2 (tT σ)).2.1 = L1 ++ L2 ∧ okL (L1 ++ L2) ∧ hL L1 0 = some 1 ∧ hL L2 0 = some 1 ∧ (L1 ++ L2).length ≤ 160 := by
  obtain ⟨N, hN⟩ := NT_ex (dD σ 1323) (cN σ 5)
  have hend : tT σ N = -26 := tk_end hN
  have hok : ∀ i, okTk (tT σ i) := TS_ok σ (cN σ 5)
  have q1 := rd1_ok hend hok
  have q2 := rd2_ok hend hok
  obtain ⟨e1, L2, y1, y2, y3⟩ := ptP_s hend hok (key := -22) (by decide) q1.1 ok.1
  obtain ⟨e0, L1, x1, x2, x3⟩ := ptP_s hend hok (key := -21) (s := (0, [], false)) (by decide) (Nat.zero_le _) e1
  have x1 : (rd1 (tT σ)).2.1 = L1 := x1
  have y1 : (rd2 (tT σ)).2.1 = (rd1 (tT σ)).2.1 ++ L2 := y1
  rw [x1] at y1
  refine ⟨L1, L2, x1, y1, okL_app x2 y2, x3 0, y3 0, ?_⟩
  have := q2.2 ok.1
  have := q2.1
  have := hN.1
  rw [y1] at *
  omega
theorem hg_L {op : Nat → Int32} : ∀ (L : List (Int32 × Int32)) (a h : Nat), (∀ j, j < L.length → op (a + j) = (gtL L j).1) → hg op a L.length h = hL L h := by
  intro L
  induction L with
  | nil => intro a h _; rfl
  | cons p L ih =>
    intro a h hj
    have e0 : op a = p.1 := hj 0 (Nat.succ_pos _)
    have ih' : ∀ k, hg op (a + 1) L.length k = hL L k := fun k => ih (a + 1) k (fun j hj' => by
      have := hj (j + 1) (Nat.succ_lt_succ hj')
      rw [show a + 1 + j = a + (j + 1) by omega]; exact this)
    show (if op a = 0 ∨ op a = 1 then hg op (a + 1) L.length (h + 1) else if op a = 4 ∨ op a = 10 then (if 1 ≤ h then hg op (a + 1) L.length h else none) else (if 2 ≤ h then hg op (a + 1) L.length (h - 1) else none)) = (if p.1 = 0 ∨ p.1 = 1 then hL L (h + 1) else if p.1 = 4 ∨ p.1 = 10 then (if 1 ≤ h then hL L h else none) else (if 2 ≤ h then hL L (h - 1) else none))
    rw [e0, ih', ih', ih']
theorem hg_c {op op' : Nat → Int32} : ∀ (n a h : Nat), (∀ j, a ≤ j → j < a + n → op j = op' j) → hg op a n h = hg op' a n h := by
  intro n
  induction n with
  | zero => intro a h _; rfl
  | succ n ih =>
    intro a h hj
    have e0 : op a = op' a := hj a (Nat.le_refl _) (by omega)
    have ih' : ∀ k, hg op (a + 1) n k = hg op' (a + 1) n k := fun k => ih (a + 1) k (fun j h1 h2 => hj j (by omega) (by omega))
    show (if op a = 0 ∨ op a = 1 then hg op (a + 1) n (h + 1) else if op a = 4 ∨ op a = 10 then (if 1 ≤ h then hg op (a + 1) n h else none) else (if 2 ≤ h then hg op (a + 1) n (h - 1) else none)) = (if op' a = 0 ∨ op' a = 1 then hg op' (a + 1) n (h + 1) else if op' a = 4 ∨ op' a = 10 then (if 1 ≤ h then hg op' (a + 1) n h else none) else (if 2 ≤ h then hg op' (a + 1) n (h - 1) else none))
    rw [e0, ih', ih', ih']
theorem gtL_r : ∀ (A L : List (Int32 × Int32)) (j : Nat), gtL (A ++ L) (A.length + j) = gtL L j := by
  intro A
  induction A with
  | nil => intro L j; rw [show ([] : List (Int32 × Int32)).length + j = j from Nat.zero_add j]; rfl
  | cons p A ih =>
    intro L j
    rw [show (p :: A).length + j = (A.length + j) + 1 by rw [List.length_cons]; omega]
    exact ih L j
theorem gtL_ok : ∀ (L : List (Int32 × Int32)) (j : Nat), okL L → j < L.length → okC (gtL L j).1 (gtL L j).2 := by
  intro L
  induction L with
  | nil => intro j _ h; exact absurd h (Nat.not_lt_zero j)
  | cons p L ih =>
    intro j hL h
    cases j with
    | zero => exact hL p (List.mem_cons_self ..)
    | succ j => exact ih j (fun q hq => hL q (List.mem_cons_of_mem _ hq)) (Nat.lt_of_succ_lt_succ h)
theorem okT_c {op op' vl vl' : Nat → Int32} {a b c : Int32} (h : okT op vl a b c) (e : ∀ j, j < ix c → op j = op' j ∧ vl j = vl' j) : okT op' vl' a b c := by
  obtain ⟨h0, h1, h2, h3, h4, h5, h6⟩ := h
  refine ⟨h0, h1, h2, h3, fun j hj => ?_, ?_, ?_⟩
  · rw [← (e j hj).1, ← (e j hj).2]; exact h4 j hj
  · rw [← hg_c (op := op) _ 0 0 (fun j _ j2 => (e j (by omega)).1)]; exact h5
  · rw [← hg_c (op := op) _ (ix b) 0 (fun j _ j2 => (e j (by omega)).1)]; exact h6
theorem okN_up {p : Int32} {n : Nat} (h : okN p n) (hn : n + 1 < 2 ^ 31) : okN p (n + 1) := by
  obtain ⟨h1, h2⟩ := (okN_iff (by omega)).mp h
  exact (okN_iff hn).mpr ⟨by omega, h2⟩
theorem v_st {σ : Sg} (h3 : cN σ 3 < 6) (h5 : cN σ 5 ≤ 160) (ok : okTx σ) {op vl : Nat → Int32} (hf : fitL (rd2 (tT σ)).2.1 op vl) (i0 : cN σ 0 ≤ 8 ∧ cN σ 1 ≤ 5 ∧ cN σ 2 ≤ 10 ∧ cN σ 4 ≤ 12 ∧ cN σ 6 ≤ 6)
    (i1 : ∀ i, i < cN σ 0 → bet (dD σ 1301 i) 10 999 ∧ bet (dD σ 1302 i) 0 99)
    (i2 : ∀ i j, i < 8 → j < 8 → bet (dD σ 1303 (8 * i + j)) 0 9999 ∧ (cN σ 0 ≤ i ∨ cN σ 0 ≤ j ∨ i = j → dD σ 1303 (8 * i + j) = 0))
    (i3 : ∀ i, i < cN σ 1 → okN (dD σ 1305 i) (cN σ 0) ∧ bet (dD σ 1306 i) 0 9999 ∧ bet (dD σ 1307 i) 100 9999 ∧ bet (dD σ 1308 i) 10 999 ∧ bet (dD σ 1309 i) 1 50 ∧ bet (dD σ 1310 i) 6 14 ∧ bet (dD σ 1311 i) 0 2000 ∧ ∀ h, h < ix (dD σ 1311 i) → bet (dD σ 1312 (2000 * i + h)) 0 5)
    (i4 : ∀ i, cN σ 1 ≤ i → i < 5 → dD σ 1306 i = 0 ∧ dD σ 1311 i = 0)
    (i5 : ∀ i, i < cN σ 2 → okN (dD σ 1314 i) (cN σ 0) ∧ okN (dD σ 1315 i) (cN σ 0) ∧ bet (dD σ 1316 i) 1 9999 ∧ bet (dD σ 1317 i) 0 9999 ∧ bet (dD σ 1318 i) 0 9999 ∧ bet (dD σ 1319 i) 0 9999 ∧ (dD σ 1320 i = 0 ∨ dD σ 1320 i = 1))
    (i6 : ∀ i, cN σ 2 ≤ i → i < 10 → dD σ 1320 i = 0)
    (i7 : ∀ k, k < cN σ 6 → okN (dD σ 1322 k) (cN σ 0))
    (i8 : ∀ i, i < cN σ 4 → bet (dD σ 1330 i) 0 5 ∧ okN (dD σ 1331 i) (cN σ 1) ∧ bet (dD σ 1332 i) 0 9999 ∧ bet (dD σ 1333 i) 0 9999 ∧ dD σ 1332 i ≤ dD σ 1333 i ∧ okN (dD σ 1334 i) (cN σ 3) ∧ bet (dD σ 1335 i) 0 99999 ∧ bet (dD σ 1336 i) 0 999 ∧ bet (dD σ 1337 i) 0 999 ∧ bet (dD σ 1338 i) 0 2 ∧ (dD σ 1338 i ≠ 0 → dD σ 1330 i = 5))
    (i9 : ∀ i j, i < cN σ 4 → j < cN σ 4 → i ≠ j → dD σ 1331 i = dD σ 1331 j → dD σ 1338 i ≠ 2 → dD σ 1338 j ≠ 2 → dD σ 1333 i < dD σ 1332 j ∨ dD σ 1333 j < dD σ 1332 i)
    (i10 : ∀ i, i < 4 → bet (dD σ 1339 i) (-1) 2 ∧ bet (dD σ 1340 i) 0 40 ∧ (dD σ 1339 i = -1 → dD σ 1340 i = 0))
    (i11 : ∀ t, t < cN σ 3 → okT (fun j => dD σ 1326 (160 * t + j)) (fun j => dD σ 1327 (160 * t + j)) (dD σ 1328 (3 * t)) (dD σ 1328 (3 * t + 1)) (dD σ 1328 (3 * t + 2))) : Inv (stT σ op vl (rd1 (tT σ)).2.1.length (rd2 (tT σ)).2.1.length) := by
  obtain ⟨L1, L2, l1, l2, l3, l4, l5, l6⟩ := rd_s h5 ok
  rw [l2] at hf
  rw [l1, l2]
  have hl : (L1 ++ L2).length = L1.length + L2.length := List.length_append
  refine ⟨⟨i0.1, i0.2.1, i0.2.2.1, ⟨Nat.succ_pos _, h3⟩, i0.2.2.2.1, Nat.zero_le _, i0.2.2.2.2⟩, i1, i2, i3, i4, i5, i6, i7, fun i hi => ?_, i9, i10, fun k hk => absurd hk (Nat.not_lt_zero k), fun t ht => ?_⟩
  · obtain ⟨a1, a2, a3, a4, a5, a6, a7⟩ := i8 i hi
    exact ⟨a1, a2, a3, a4, a5, okN_up a6 (by omega), a7⟩
  · have ht : t < cN σ 3 + 1 := ht
    rw [st_1328, st_1328, st_1328]
    by_cases q : t = cN σ 3
    · subst q
      rw [if_pos rfl, if_neg (by omega), if_pos rfl, if_neg (by omega), if_neg (by omega), if_pos rfl]
      have e1 : ix (nI L1.length) = L1.length := ix_nI (by omega)
      have e2 : ix (nI (L1 ++ L2).length) = L1.length + L2.length := by rw [hl]; exact ix_nI (by omega)
      have eo : ∀ j, dD (stT σ op vl L1.length (L1 ++ L2).length) 1326 (160 * cN σ 3 + j) = op j := fun j => by rw [st_1326, if_pos (by omega)]; congr 1; omega
      have ev : ∀ j, dD (stT σ op vl L1.length (L1 ++ L2).length) 1327 (160 * cN σ 3 + j) = vl j := fun j => by rw [st_1327, if_pos (by omega)]; congr 1; omega
      refine okT_c (op := op) (vl := vl) ⟨rfl, bet_n (N := 160) (by omega) (by decide), bet_n (N := 160) l6 (by decide), by rw [e1, e2]; omega, fun j hj => ?_, ?_, ?_⟩ (fun j hj => ⟨(eo j).symm, (ev j).symm⟩)
      · rw [e2, ← hl] at hj
        rw [(hf j hj).1, (hf j hj).2]
        exact gtL_ok _ j l3 hj
      · rw [e1, hg_L L1 0 0 (fun j hj => ?_)]
        · exact l4
        · rw [Nat.zero_add, (hf j (by omega)).1, gtL_l _ _ _ hj]
      · rw [e1, e2, show L1.length + L2.length - L1.length = L2.length by omega, hg_L L2 L1.length 0 (fun j hj => ?_)]
        · exact l5
        · rw [(hf _ (by omega)).1, gtL_r]
    · have hlt : t < cN σ 3 := by omega
      rw [if_neg (by omega), if_neg (by omega), if_neg (by omega), if_neg (by omega), if_neg (by omega), if_neg (by omega), if_neg (by omega), if_neg (by omega), if_neg (by omega)]
      refine okT_c (i11 t hlt) (fun j hj => ?_)
      have k2 := (bet_nI (b := 160) (i11 t hlt).2.2.1).2
      refine ⟨?_, ?_⟩
      · show _ = dD (stT σ op vl L1.length (L1 ++ L2).length) 1326 (160 * t + j)
        rw [st_1326, if_neg (by omega)]
      · show _ = dD (stT σ op vl L1.length (L1 ++ L2).length) 1327 (160 * t + j)
        rw [st_1327, if_neg (by omega)]
theorem v_text0 {σ : Sg} (hi : Inv σ) : Inv (sN σ 5 0) := by
  obtain ⟨i0, i1, i2, i3, i4, i5, i6, i7, i8, i9, i10, i11, i12⟩ := hi
  exact ⟨⟨i0.1, i0.2.1, i0.2.2.1, i0.2.2.2.1, i0.2.2.2.2.1, Nat.zero_le _, i0.2.2.2.2.2.2⟩, i1, i2, i3, i4, i5, i6, i7, i8, i9, i10, fun k hk => absurd hk (Nat.not_lt_zero k), i12⟩
