/-! the class's constructor -/
def V0 (_ _ : Nat) : Int32 := 0
theorem Old.new' {x y : Nat} {S S' : HSt} (hy : gK S y = 0) (h : Old y S S') : Old x S S' := fun b hb _ => h b hb (fun z => hb (by rw [z]; exact hy))
/-- a new object is made, set up, and set -/
theorem z_obj {x kx : Nat} {I : Nat → Int32} {ds : List (Nat × Nat × Nat)} {os : List (Nat × Nat)} {f0 : Nat} {S : HSt} (h : OB x kx I ds os V0 f0 S) (hkx : kx ≠ 0) (ky f : Nat) (hf : f0 ≤ f) (W : Nat → HSt → (Unit → HSt → Prop) → Prop) (F : Nat → HSt → Prop) (hW : ∀ (y : Nat) (S : HSt) (P : Unit → HSt → Prop), gK S y = 0 → (∀ S', Old y S S' → F y S' → P () S') → W y (nO S ky y) P) (hF : ∀ y S2 S3, y ≠ x → gK S2 x = kx → Old x S2 S3 → F y S2 → F y S3) {X : HSt → Prop} (hX : ∀ y S3, y ≠ x → OB x kx I ds ((f, y) :: os) V0 (f + 1) S3 → Old x S S3 → F y S3 → X S3) : ∀ a, gK S a = 0 → ∀ S1, S1 = nO S ky a → W a S1 (fun _ S2 => gR S2 f x = none ∧ ∀ S3, S3 = uR S2 f x (some a) → X S3) := by
  intro a ha S1 e1
  subst e1
  refine hW a S _ ha (fun S2 o f2 => ?_)
  have hxa : x ≠ a := fun z => hkx (h.1.symm.trans (by rw [z]; exact ha))
  have h2 := h.old hkx o hxa (fun q hq z => (h.2.2.1 q hq).1 (z.symm.trans ha))
  obtain ⟨c1, c2, c3⟩ := h2.set hf a
  exact ⟨c1, fun S3 e3 => by subst e3; exact hX a _ (Ne.symm hxa) c2 ((Old.new' ha o).trans c3) (hF a S2 _ (Ne.symm hxa) h2.1 c3 f2)⟩
theorem z_obj' {x kx : Nat} {I : Nat → Int32} {ds : List (Nat × Nat × Nat)} {os : List (Nat × Nat)} {f0 : Nat} {S : HSt} (h : OB x kx I ds os V0 f0 S) (hkx : kx ≠ 0) (ky f : Nat) (hf : f0 ≤ f) (W : Nat → HSt → (Unit → HSt → Prop) → Prop) (F : Nat → HSt → Prop) (hW : ∀ (y : Nat) (S : HSt) (P : Unit → HSt → Prop), gK S y = 0 → (∀ S', Old y S S' → F y S' → P () S') → W y (nO S ky y) P) (hF : ∀ y S2 S3, y ≠ x → gK S2 x = kx → Old x S2 S3 → F y S2 → F y S3) {X : HSt → Prop} (hX : ∀ y S3, y ≠ x → OB x kx I ds ((f, y) :: os) V0 (f + 1) S3 → Old x S S3 → F y S3 → X S3) : ∀ a, gK S a = 0 → ∀ S1, S1 = nO S ky a → W a S1 (fun _ S2 => ∀ S3, S3 = uR S2 f x (some a) → X S3) := by
  intro a ha S1 e1
  subst e1
  refine hW a S _ ha (fun S2 o f2 => ?_)
  have hxa : x ≠ a := fun z => hkx (h.1.symm.trans (by rw [z]; exact ha))
  have h2 := h.old hkx o hxa (fun q hq z => (h.2.2.1 q hq).1 (z.symm.trans ha))
  obtain ⟨c1, c2, c3⟩ := h2.set hf a
  exact fun S3 e3 => by subst e3; exact hX a _ (Ne.symm hxa) c2 ((Old.new' ha o).trans c3) (hF a S2 _ (Ne.symm hxa) h2.1 c3 f2)
/-- what does not speak of x stays -/
theorem OB.keep {y ky : Nat} {I : Nat → Int32} {ds : List (Nat × Nat × Nat)} {os : List (Nat × Nat)} {f0 x kx : Nat} (hky : ky ≠ 0) (hds : ∀ q ∈ ds, kx ≠ q.2.1) : ∀ S2 S3, y ≠ x → gK S2 x = kx → Old x S2 S3 → OB y ky I ds os V0 f0 S2 → OB y ky I ds os V0 f0 S3 := fun _ _ hyx hx o h => h.old hky o hyx (fun q hq => by rw [hx]; exact hds q hq)
def F4 (y : Nat) (S : HSt) : Prop := gK S y = 5
theorem F4.keep {x kx : Nat} : ∀ y S2 S3, y ≠ x → gK S2 x = kx → Old x S2 S3 → F4 y S2 → F4 y S3 := fun y _ _ hy _ o h => (o y (k0 h) hy).1.trans h
theorem z_X4 (y : Nat) (S : HSt) (P : Unit → HSt → Prop) (hy : gK S y = 0) (hP : ∀ S', Old y S S' → F4 y S' → P () S') : wp_X4_init y (nO S 5 y) P := hP _ (OB.new V0 hy).2 (va_up_self _ _ _)
def F6 (y : Nat) (S : HSt) : Prop := ∃ y2, OB y 7 (fun _ => 0) [(704, 257, 3), (703, 256, 3)] [(705, y2)] V0 706 S ∧ gK S y2 = 5
theorem F6.keep {x : Nat} : ∀ y S2 S3, y ≠ x → gK S2 x = 12 → Old x S2 S3 → F6 y S2 → F6 y S3 := fun y S2 S3 hy hx o ⟨y2, h, h2⟩ => ⟨y2, OB.keep (by decide) (by decide) _ _ hy hx o h, (o y2 (k0 h2) (fun z => by rw [z, hx] at h2; exact absurd h2 (by decide))).1.trans h2⟩
theorem z_X6 (y : Nat) (S : HSt) (P : Unit → HSt → Prop) (hy : gK S y = 0) (hP : ∀ S', Old y S S' → F6 y S' → P () S') : wp_X6_init y (nO S 7 y) P := by
  obtain ⟨h0, o0⟩ := OB.new (kx := 7) V0 hy
  unfold wp_X6_init
  refine h0.row 256 3 703 (by decide) (fun _ => rfl) (by decide) (fun S1 h1 o1 => ?_)
  refine h1.row 257 3 704 (by decide) (fun _ => rfl) (by decide) (fun S2 h2 o2 => ?_)
  exact z_obj h2 (by decide) 5 705 (by decide) wp_X4_init F4 z_X4 F4.keep (fun y2 S3 k3 h3 o3 g3 => hP S3 (o0.trans (o1.trans (o2.trans o3))) ⟨y2, h3, g3⟩)
def G0 (q : Nat) (r : Nat → Nat) (S : HSt) : Prop := gK S q = 1000 ∧ gN S q = 6 ∧ (∀ i, i < 6 → gB S 1000 q i = some (r i) ∧ gK S (r i) = 262 ∧ gN S (r i) = 1000) ∧ ∀ i j, i < 6 → j < 6 → r i = r j → i = j
theorem G0.keep {x q : Nat} {r : Nat → Nat} {S2 S3 : HSt} (hx : gK S2 x ≠ 1000 ∧ gK S2 x ≠ 262) (o : Old x S2 S3) (h : G0 q r S2) : G0 q r S3 := by
  obtain ⟨h1, h2, h3, h4⟩ := h
  obtain ⟨s1, s2, s3, s4, s5, s6⟩ := o q (k0 h1) (fun z => hx.1 (by rw [← z]; exact h1))
  refine ⟨s1.trans h1, s2.trans h2, fun i hi => ?_, h4⟩
  obtain ⟨a1, a2, a3⟩ := h3 i hi
  obtain ⟨t1, t2, t3, t4, t5, t6⟩ := o (r i) (k0 a2) (fun z => hx.2 (by rw [← z]; exact a2))
  exact ⟨by rw [s6 1000 (by decide)]; exact a1, t1.trans a2, t2.trans a3⟩
def F0' (y : Nat) (S : HSt) : Prop := ∃ q r, OB y 1 (fun _ => 0) [(105, 261, 1000), (104, 260, 1000), (102, 259, 6), (101, 258, 6)] [(103, q)] V0 106 S ∧ G0 q r S
theorem F0'.keep {x : Nat} : ∀ y S2 S3, y ≠ x → gK S2 x = 12 → Old x S2 S3 → F0' y S2 → F0' y S3 := fun y S2 S3 hy hx o ⟨q, r, h, h2⟩ => ⟨q, r, OB.keep (by decide) (by decide) _ _ hy hx o h, h2.keep ⟨by rw [hx]; decide, by rw [hx]; decide⟩ o⟩
theorem nM_all {S : HSt} {q : Nat} {r : Nat → Nat} (hq : gK S q = 0) (hr : ∀ i, i < 6 → gK S (r i) = 0) (b : Nat) (hb : gK S b ≠ 0) : Same S (nM S q r) b := by
  have hn : b ≠ q := fun z => hb (by rw [z]; exact hq)
  have hr' : b ∉ (List.range 6).map r := fun z => by
    obtain ⟨i, hi, e⟩ := nM_of z
    exact hb (by rw [e]; exact hr i hi)
  refine ⟨?_, ?_, fun _ => rfl, fun _ => rfl, fun k => ?_, fun k _ => ?_⟩
  · show va_up (vr_up S.1 ((List.range 6).map r) 262) q 1000 b = _; rw [va_up_ne _ _ hn, vr_up_ne hr']; rfl
  · show va_up (vr_up S.2.2.2.2.1 ((List.range 6).map r) 1000) q 6 b = _; rw [va_up_ne _ _ hn, vr_up_ne hr']; rfl
  · exact if_neg hr'
  · exact if_neg hn
theorem nM_G0 {S : HSt} {q : Nat} {r : Nat → Nat} (hij : ∀ i j, i < 6 → j < 6 → r i = r j → i = j) (hne : ∀ i, i < 6 → r i ≠ q) : G0 q r (nM S q r) := by
  refine ⟨va_up_self _ _ _, va_up_self _ _ _, fun i hi => ⟨?_, ?_, ?_⟩, hij⟩
  · show (if q = q then (fun i => if i < 6 then some (r i) else none) else _) i = _
    rw [if_pos rfl, if_pos hi]
  · show va_up (vr_up S.1 ((List.range 6).map r) 262) q 1000 (r i) = _; rw [va_up_ne _ _ (hne i hi), vr_up_in (nM_in hi)]
  · show va_up (vr_up S.2.2.2.2.1 ((List.range 6).map r) 1000) q 6 (r i) = _; rw [va_up_ne _ _ (hne i hi), vr_up_in (nM_in hi)]
theorem z_X0 (y : Nat) (S : HSt) (P : Unit → HSt → Prop) (hy : gK S y = 0) (hP : ∀ S', Old y S S' → F0' y S' → P () S') : wp_X0_init y (nO S 1 y) P := by
  obtain ⟨h0, o0⟩ := OB.new (kx := 1) V0 hy
  unfold wp_X0_init
  refine h0.row 258 6 101 (by decide) (fun _ => rfl) (by decide) (fun S1 h1 o1 => ?_)
  refine h1.row 259 6 102 (by decide) (fun _ => rfl) (by decide) (fun S2 h2 o2 => ?_)
  intro q r hq hr hij hne S3 e3
  have o3 : Old q S2 S3 := fun b hb _ => by rw [e3]; exact nM_all hq hr b hb
  have hyq : y ≠ q := fun z => by have := h2.1; rw [z, hq] at this; exact absurd this (by decide)
  have h3 := h2.old (by decide) o3 hyq (fun p hp z => (h2.2.2.1 p hp).1 (z.symm.trans hq))
  have g3 : G0 q r S3 := by rw [e3]; exact nM_G0 hij hne
  obtain ⟨c1, c2, c3⟩ := h3.set (f := 103) (by decide) q
  refine ⟨c1, fun S4 e4 => ?_⟩
  rw [← e4] at c2 c3
  have g4 : G0 q r S4 := g3.keep ⟨by rw [h3.1]; decide, by rw [h3.1]; decide⟩ c3
  refine c2.row 260 1000 104 (by decide) (fun _ => rfl) (by decide) (fun S5 h5 o5 => ?_)
  refine h5.row 261 1000 105 (by decide) (fun _ => rfl) (by decide) (fun S6 h6 o6 => ?_)
  have g5 : G0 q r S5 := g4.keep ⟨by rw [c2.1]; decide, by rw [c2.1]; decide⟩ o5
  have g6 : G0 q r S6 := g5.keep ⟨by rw [h5.1]; decide, by rw [h5.1]; decide⟩ o6
  exact hP S6 (o0.trans (o1.trans (o2.trans ((Old.new' hq o3).trans (c3.trans (o5.trans o6)))))) ⟨q, r, h6, g6⟩
def F5 (y : Nat) (S : HSt) : Prop := OB y 6 (fun _ => 0) [(604, 255, 160), (603, 254, 160), (601, 253, 160)] [] V0 605 S
theorem F5.keep {x : Nat} : ∀ y S2 S3, y ≠ x → gK S2 x = 12 → Old x S2 S3 → F5 y S2 → F5 y S3 := fun y S2 S3 hy hx o h => OB.keep (by decide) (by decide) _ _ hy hx o h
theorem z_X5 (y : Nat) (S : HSt) (P : Unit → HSt → Prop) (hy : gK S y = 0) (hP : ∀ S', Old y S S' → F5 y S' → P () S') : wp_X5_init y (nO S 6 y) P := by
  obtain ⟨h0, o0⟩ := OB.new (kx := 6) V0 hy
  unfold wp_X5_init
  refine h0.row 253 160 601 (by decide) (fun _ => rfl) (by decide) (fun S1 h1 o1 => ?_)
  refine h1.row 254 160 603 (by decide) (fun _ => rfl) (by decide) (fun S2 h2 o2 => ?_)
  refine h2.row 255 160 604 (by decide) (fun _ => rfl) (by decide) (fun S3 h3 o3 => ?_)
  exact hP S3 (o0.trans (o1.trans (o2.trans o3))) h3
def F10 (y : Nat) (S : HSt) : Prop := OB y 11 (fun _ => 0) [(1103, 251, 160)] [] V0 1104 S
theorem F10.keep {x : Nat} : ∀ y S2 S3, y ≠ x → gK S2 x = 12 → Old x S2 S3 → F10 y S2 → F10 y S3 := fun y S2 S3 hy hx o h => OB.keep (by decide) (by decide) _ _ hy hx o h
theorem z_X10 (y : Nat) (S : HSt) (P : Unit → HSt → Prop) (hy : gK S y = 0) (hP : ∀ S', Old y S S' → F10 y S' → P () S') : wp_X10_init y 0 (nO S 11 y) P := by
  obtain ⟨h0, o0⟩ := OB.new (kx := 11) V0 hy
  unfold wp_X10_init
  refine h0.row 251 160 1103 (by decide) (fun _ => rfl) (by decide) (fun S1 h1 o1 S2 e2 => ?_)
  subst e2
  refine hP _ (o0.trans (o1.trans (fun b hb hby => ⟨rfl, rfl, fun f => if_neg (fun z => hby z.2), fun _ => rfl, fun _ => rfl, fun _ _ => rfl⟩))) ⟨h1.1, fun f => ?_, h1.2.2.1, h1.2.2.2.1, h1.2.2.2.2⟩
  rw [gI_uI]
  split
  · rfl
  · exact h1.2.1 f
def F9 (y : Nat) (S : HSt) : Prop := OB y 10 (fun _ => 0) [(1006, 263, 160)] [] V0 1007 S
theorem F9.keep {x : Nat} : ∀ y S2 S3, y ≠ x → gK S2 x = 12 → Old x S2 S3 → F9 y S2 → F9 y S3 := fun y S2 S3 hy hx o h => OB.keep (by decide) (by decide) _ _ hy hx o h
theorem z_X9 (y : Nat) (S : HSt) (P : Unit → HSt → Prop) (hy : gK S y = 0) (hP : ∀ S', Old y S S' → F9 y S' → P () S') : wp_X9_init y (nO S 10 y) P := by
  obtain ⟨h0, o0⟩ := OB.new (kx := 10) V0 hy
  unfold wp_X9_init
  refine h0.row 263 160 1006 (by decide) (fun _ => rfl) (by decide) (fun S1 h1 o1 => ?_)
  exact hP S1 (o0.trans o1) h1
/-- the first j sheets are there -/
def HB (x j : Nat) (S : HSt) : Prop := ∃ (b : Nat) (sh rw' : Nat → Nat), gR S 1205 x = some b ∧ gK S b = 700 ∧ gN S b = 4 ∧ (∀ i, i < j → gB S 700 b i = some (sh i) ∧ gK S (sh i) = 8 ∧ gR S 802 (sh i) = some (rw' i) ∧ gK S (rw' i) = 252 ∧ gN S (rw' i) = 40 ∧ gI S 800 (sh i) = -1 ∧ gI S 801 (sh i) = 0 ∧ ∀ k, gA S 252 (rw' i) k = 0) ∧ (∀ i i', i < j → i' < j → sh i = sh i' → i = i') ∧ ∀ i i', i < j → i' < j → rw' i = rw' i' → i = i'
theorem z_sheet {x j : Nat} {I : Nat → Int32} {ds : List (Nat × Nat × Nat)} {os : List (Nat × Nat)} {f0 : Nat} {S : HSt} (h : OB x 12 I ds os V0 f0 S) (hb : HB x j S) (hj : j < 4) {X : HSt → Prop} (hX : ∀ S', OB x 12 I ds os V0 f0 S' → Old x S S' → HB x (j + 1) S' → X S') : ∃ b, gR S 1205 x = some b ∧ ∀ a, gK S a = 0 → ∀ S1, S1 = nO S 8 a → wp_X7_init a S1 (fun _ S2 => gK S2 b = 700 ∧ vp_in (nI j) (gN S2 b) ∧ ∀ S3, S3 = uB S2 700 b (nI j).toNatClampNeg (some a) → X S3) := by
  obtain ⟨b, sh, rw', b1, b2, b3, b4, b5, b6⟩ := hb
  refine ⟨b, b1, fun a ha S1 e1 S2 e2 r hr S3 e3 => ?_⟩
  subst e1 e2 e3
  have har : a ≠ r := fun z => by
    have : gK (uI (nO S 8 a) 800 a (-1)) a = 8 := va_up_self _ _ _
    rw [z] at this hr
    rw [this] at hr; exact absurd hr (by decide)
  have hrS : gK S r = 0 := by
    have : gK (uI (nO S 8 a) 800 a (-1)) r = gK S r := va_up_ne _ _ (Ne.symm har)
    rw [← this]; exact hr
  have sm : ∀ c, gK S c ≠ 0 → Same S (uR (nA (uI (nO S 8 a) 800 a (-1)) 252 r 40) 802 a (some r)) c := by
    intro c hc
    have ca : c ≠ a := fun z => hc (by rw [z]; exact ha)
    have cr : c ≠ r := fun z => hc (by rw [z]; exact hrS)
    refine ⟨?_, va_up_ne _ _ cr, fun f => ?_, fun f => ?_, fun k => if_neg cr, fun k _ => if_neg cr⟩
    · show va_up (va_up S.1 a 8) r 252 c = _
      rw [va_up_ne _ _ cr, va_up_ne _ _ ca]; rfl
    · show (if f = 800 ∧ c = a then (-1 : Int32) else (if c = a then 0 else gI S f c)) = _
      rw [if_neg (fun z => ca z.2), if_neg ca]
    · show (if f = 802 ∧ c = a then some r else (if c = a then none else gR S f c)) = _
      rw [if_neg (fun z => ca z.2), if_neg ca]
  have hN : gR (nA (uI (nO S 8 a) 800 a (-1)) 252 r 40) 802 a = none := if_pos rfl
  refine ⟨hN, fun S4 e4 => ?_⟩
  have eb := sm b (k0 b2)
  have ob : Old x S S4 := fun c hc _ => by rw [e4]; exact sm c hc
  have n3 : gN S4 b = 4 := by rw [e4]; exact eb.2.1.trans b3
  have n2 : gK S4 b = 700 := by rw [e4]; exact eb.1.trans b2
  refine ⟨n2, by rw [n3]; exact vp_in_nI hj (by decide), fun S5 e5 => ?_⟩
  rw [nI_clamp (by omega)] at e5
  have hxa : x ≠ a := fun z => by have := h.1; rw [z, ha] at this; exact absurd this (by decide)
  have h4 : OB x 12 I ds os V0 f0 S4 := h.old (by decide) (y := a) (fun c hc _ => by rw [e4]; exact sm c hc) hxa (fun q hq z => (h.2.2.1 q hq).1 (z.symm.trans ha))
  have hu : ∀ c, Same S4 S5 c := fun c => by
    rw [e5]
    refine ⟨rfl, rfl, fun _ => rfl, fun _ => rfl, fun _ => rfl, fun k hk => ?_⟩
    show (if k = 700 ∧ c = b then _ else gB S4 k c) = _
    rw [if_neg (fun z => hk z.1)]
  have ou : Old a S4 S5 := fun c _ _ => hu c
  have ka4 : gK S4 a = 8 := by
    rw [e4]; show va_up (va_up S.1 a 8) r 252 a = _; rw [va_up_ne _ _ har, va_up_self]
  have bB : ∀ i, gB S5 700 b i = if i = j then some a else gB S4 700 b i := fun i => by
    rw [e5]
    show (if 700 = 700 ∧ b = b then va_up (gB S4 700 b) j (some a) else _) i = _
    rw [if_pos ⟨rfl, rfl⟩]; rfl
  have bB4 : ∀ i, gB S4 700 b i = gB S 700 b i := fun i => by
    rw [e4]
    have : b ≠ r := fun z => by rw [z, hrS] at b2; exact absurd b2 (by decide)
    show (if b = r then (fun _ => none) else gB S 700 b) i = _
    rw [if_neg this]
  have h5 : OB x 12 I ds os V0 f0 S5 := by
    refine ⟨h4.1 ▸ (hu x).1, fun f => ((hu x).2.2.1 f).trans (h4.2.1 f), fun q hq => ?_, fun q hq => ⟨(h4.2.2.2.1 q hq).1, ((hu x).2.2.2.1 _).trans (h4.2.2.2.1 q hq).2⟩, fun f hf => ((hu x).2.2.2.1 f).trans (h4.2.2.2.2 f hf)⟩
    obtain ⟨q1, q2, q3, c, q4, q5, q6, q7⟩ := h4.2.2.1 q hq
    exact ⟨q1, q2, q3, c, ((hu x).2.2.2.1 _).trans q4, (hu c).1.trans q5, (hu c).2.1.trans q6, fun i => by rw [(hu c).2.2.2.2.1]; exact q7 i⟩
  refine hX S5 h5 (ob.trans (fun c _ _ => hu c)) ⟨b, fun i => if i = j then a else sh i, fun i => if i = j then r else rw' i, ?_, (hu b).1.trans n2, (hu b).2.1.trans n3, fun i hi => ?_, fun i i' hi hi' e => ?_, fun i i' hi hi' e => ?_⟩
  · have : gR S4 1205 x = gR S 1205 x := by rw [e4]; exact (sm x (by rw [h.1]; decide)).2.2.2.1 1205
    exact ((hu x).2.2.2.1 1205).trans (this.trans b1)
  · show gB S5 700 b i = some (if i = j then a else sh i) ∧ gK S5 (if i = j then a else sh i) = 8 ∧ gR S5 802 (if i = j then a else sh i) = some (if i = j then r else rw' i) ∧ gK S5 (if i = j then r else rw' i) = 252 ∧ gN S5 (if i = j then r else rw' i) = 40 ∧ gI S5 800 (if i = j then a else sh i) = -1 ∧ gI S5 801 (if i = j then a else sh i) = 0 ∧ ∀ k, gA S5 252 (if i = j then r else rw' i) k = 0
    by_cases e : i = j
    · rw [if_pos e, if_pos e, bB, if_pos e, (hu a).1, (hu a).2.2.2.1, (hu r).1, (hu r).2.1, (hu a).2.2.1, (hu a).2.2.1]
      refine ⟨rfl, ka4, ?_, ?_, ?_, ?_, ?_, fun k => ?_⟩
      · rw [e4]; exact if_pos ⟨rfl, rfl⟩
      · rw [e4]; exact va_up_self _ _ _
      · rw [e4]; exact va_up_self _ _ _
      · rw [e4]; exact if_pos ⟨rfl, rfl⟩
      · rw [e4]
        show (if 801 = 800 ∧ a = a then (-1 : Int32) else (if a = a then 0 else gI S 801 a)) = 0
        rw [if_neg (fun z => absurd z.1 (by decide)), if_pos rfl]
      · rw [(hu r).2.2.2.2.1, e4]
        show (if r = r then (fun _ => (0 : Int32)) else gA S 252 r) k = 0
        rw [if_pos rfl]
    · obtain ⟨c1, c2, c3, c4, c5, c6, c7, c8⟩ := b4 i (by omega)
      have s1 := sm _ (k0 c2)
      have s2 := sm _ (k0 c4)
      rw [← e4] at s1 s2
      rw [if_neg e, if_neg e, bB, if_neg e, bB4]
      refine ⟨c1, ((hu _).1.trans s1.1).trans c2, (((hu _).2.2.2.1 _).trans (s1.2.2.2.1 _)).trans c3, ((hu _).1.trans s2.1).trans c4, ((hu _).2.1.trans s2.2.1).trans c5, (((hu _).2.2.1 _).trans (s1.2.2.1 _)).trans c6, (((hu _).2.2.1 _).trans (s1.2.2.1 _)).trans c7, fun k => ?_⟩
      rw [(hu _).2.2.2.2.1, s2.2.2.2.2.1]; exact c8 k
  · have e : (if i = j then a else sh i) = (if i' = j then a else sh i') := e
    by_cases p : i = j
    · by_cases p' : i' = j
      · omega
      · rw [if_pos p, if_neg p'] at e
        have := (b4 i' (by omega)).2.1
        rw [← e, ha] at this; exact absurd this (by decide)
    · by_cases p' : i' = j
      · rw [if_neg p, if_pos p'] at e
        have := (b4 i (by omega)).2.1
        rw [e, ha] at this; exact absurd this (by decide)
      · rw [if_neg p, if_neg p'] at e
        exact b5 i i' (by omega) (by omega) e
  · have e : (if i = j then r else rw' i) = (if i' = j then r else rw' i') := e
    by_cases p : i = j
    · by_cases p' : i' = j
      · omega
      · rw [if_pos p, if_neg p'] at e
        have := (b4 i' (by omega)).2.2.2.1
        rw [← e, hrS] at this; exact absurd this (by decide)
    · by_cases p' : i' = j
      · rw [if_neg p, if_pos p'] at e
        have := (b4 i (by omega)).2.2.2.1
        rw [e, hrS] at this; exact absurd this (by decide)
      · rw [if_neg p, if_neg p'] at e
        exact b6 i i' (by omega) (by omega) e
