/-! GROWTH: what is fresh does not touch what lives -/
def Ex (S S' : HSt) : Prop := ∀ a, gK S a ≠ 0 → gK S' a = gK S a ∧ gN S' a = gN S a ∧ (∀ f, gI S' f a = gI S f a) ∧ (∀ f, gR S' f a = gR S f a) ∧ (∀ k, gA S' k a = gA S k a) ∧ ∀ k, gB S' k a = gB S k a
theorem Ex.rf {S : HSt} : Ex S S := fun _ _ => ⟨rfl, rfl, fun _ => rfl, fun _ => rfl, fun _ => rfl, fun _ => rfl⟩
theorem Ex_nO {S S1 : HSt} {k q : Nat} (e : Ex S S1) (h0 : gK S q = 0) : Ex S (nO S1 k q) := fun a h => by
  obtain ⟨e1, e2, e3, e4, e5, e6⟩ := e a h
  have hn : a ≠ q := fun z => h (z ▸ h0)
  refine ⟨?_, e2, fun f => ?_, fun f => ?_, e5, e6⟩
  · simp only [gK, nO, va_up, if_neg hn]; exact e1
  · simp only [gI, nO, cl2, if_neg hn]; exact e3 f
  · simp only [gR, nO, cl2, if_neg hn]; exact e4 f
theorem Ex_nA {S S1 : HSt} {k q n : Nat} (e : Ex S S1) (h0 : gK S q = 0) : Ex S (nA S1 k q n) := fun a h => by
  obtain ⟨e1, e2, e3, e4, e5, e6⟩ := e a h
  have hn : a ≠ q := fun z => h (z ▸ h0)
  refine ⟨?_, ?_, e3, e4, fun f => ?_, fun f => ?_⟩
  · simp only [gK, nA, va_up, if_neg hn]; exact e1
  · simp only [gN, nA, va_up, if_neg hn]; exact e2
  · simp only [gA, nA, cl2, if_neg hn]; exact e5 f
  · simp only [gB, nA, cl2, if_neg hn]; exact e6 f
theorem Ex_uI {S S1 : HSt} {f q : Nat} {v : Int32} (e : Ex S S1) (h0 : gK S q = 0) : Ex S (uI S1 f q v) := fun a h => by
  obtain ⟨e1, e2, e3, e4, e5, e6⟩ := e a h
  have hn : a ≠ q := fun z => h (z ▸ h0)
  exact ⟨e1, e2, fun f' => by rw [gI_uI, if_neg (fun z => hn z.2)]; exact e3 f', e4, e5, e6⟩
theorem Ex_uR {S S1 : HSt} {f q : Nat} {v : Option Nat} (e : Ex S S1) (h0 : gK S q = 0) : Ex S (uR S1 f q v) := fun a h => by
  obtain ⟨e1, e2, e3, e4, e5, e6⟩ := e a h
  have hn : a ≠ q := fun z => h (z ▸ h0)
  exact ⟨e1, e2, e3, fun f' => by rw [gR_uR, if_neg (fun z => hn z.2)]; exact e4 f', e5, e6⟩
theorem Ex_uA {S S1 : HSt} {k q i : Nat} {v : Int32} (e : Ex S S1) (h0 : gK S q = 0) : Ex S (uA S1 k q i v) := fun a h => by
  obtain ⟨e1, e2, e3, e4, e5, e6⟩ := e a h
  have hn : a ≠ q := fun z => h (z ▸ h0)
  exact ⟨e1, e2, e3, e4, fun f' => by rw [gA_uA, if_neg (fun z => hn z.2)]; exact e5 f', e6⟩
theorem Ex.k {S S' : HSt} (e : Ex S S') {a : Nat} (h : gK S a ≠ 0) : gK S' a = gK S a := (e a h).1
theorem Ex.n {S S' : HSt} (e : Ex S S') {a : Nat} (h : gK S a ≠ 0) : gN S' a = gN S a := (e a h).2.1
theorem Ex.i {S S' : HSt} (e : Ex S S') {a : Nat} (h : gK S a ≠ 0) (f : Nat) : gI S' f a = gI S f a := (e a h).2.2.1 f
theorem Ex.r {S S' : HSt} (e : Ex S S') {a : Nat} (h : gK S a ≠ 0) (f : Nat) : gR S' f a = gR S f a := (e a h).2.2.2.1 f
theorem Ex.a {S S' : HSt} (e : Ex S S') {a : Nat} (h : gK S a ≠ 0) (k i : Nat) : gA S' k a i = gA S k a i := congrFun ((e a h).2.2.2.2.1 k) i
theorem Ex.b {S S' : HSt} (e : Ex S S') {a : Nat} (h : gK S a ≠ 0) (k i : Nat) : gB S' k a i = gB S k a i := congrFun ((e a h).2.2.2.2.2 k) i
theorem k0 {S : HSt} {a k : Nat} (h : gK S a = k) (hk : k ≠ 0 := by decide) : gK S a ≠ 0 := by rw [h]; exact hk
theorem CF.ext {ad : AD} {x : Nat} {S S' : HSt} (h : CF ad x S) (e : Ex S S') : CF ad x S' := by
  refine ⟨h.1, (e.k (k0 h.2.1)).trans h.2.1, fun r hr => ?_, fun r hr => ?_, fun i hi => ?_, h.2.2.2.2.2⟩
  · obtain ⟨h1, h2, h3⟩ := h.2.2.1 r hr
    obtain ⟨e1, e2, e3⟩ := fixT_ok r hr
    obtain ⟨k1, k2⟩ := h.hk _ (fixT_h r hr)
    exact ⟨(e.r (k0 k1 k2) _).trans h1, (e.k (k0 h2 e3)).trans h2, (e.n (k0 h2 e3)).trans h3⟩
  · obtain ⟨h1, h2⟩ := h.2.2.2.1 r hr
    obtain ⟨e0, e1, e2, e3⟩ := objT_h r hr
    obtain ⟨k1, k2⟩ := h.hk _ e0
    exact ⟨(e.r (k0 k1 k2) _).trans h1, (e.k (k0 h2 e3)).trans h2⟩
  · obtain ⟨h1, h2, h3⟩ := h.2.2.2.2.1 i hi
    exact ⟨(e.b (k0 (h.g 103 9 17 1000 6).2.1) _ _).trans h1, (e.k (k0 h2)).trans h2, (e.n (k0 h2)).trans h3⟩
theorem CR.ext {ad : AD} {x : Nat} {S S' : HSt} {σ : Sg} (h : CR ad x S σ) (e : Ex S S') : CR ad x S' σ := by
  obtain ⟨hF, hC, hP, hS, hO, hR, hT, hX, hH, hE⟩ := h
  have hx := k0 hF.2.1
  have r0 := k0 (hF.f 1200 0 600 8).2.1
  have r1 := k0 (hF.f 1201 1 800 5).2.1
  have r2 := k0 (hF.f 1202 2 500 10).2.1
  have r3 := k0 (hF.f 1203 3 900 6).2.1
  have r4 := k0 (hF.f 1204 4 400 12).2.1
  have r5 := k0 (hF.f 1205 5 700 4).2.1
  have r6 := k0 (hF.f 1206 6 601 6).2.1
  have r10 := k0 (hF.o 1216 10 6).2
  have r20 := k0 (hF.g 601 10 20 253 160).2.1
  refine ⟨hF.ext e, ?_, ⟨fun i hi => ?_, hP.2⟩, ⟨fun i hi => ?_, hS.2⟩, ⟨fun i hi => ?_, hO.2⟩, fun k hk => (e.b r6 _ _).trans (hR k hk), fun k hk => (e.a r20 _ _).trans (hT k hk), ⟨fun i hi => ?_, ?_, hX.2.2⟩, ⟨fun i hi => ?_, hH.2⟩, fun i hi => ?_, hE.2⟩
  · obtain ⟨c0, c1, c2, c3, c4, c5, c6⟩ := hC
    exact ⟨(e.i hx _).trans c0, (e.i hx _).trans c1, (e.i hx _).trans c2, (e.i hx _).trans c3, (e.i hx _).trans c4, (e.i r10 _).trans c5, (e.i hx _).trans c6⟩
  · obtain ⟨a1, a2, a3, a4, a5, a6, a7, a8, a9⟩ := hP.1 i hi
    have u := k0 a2; have v := k0 a4
    exact ⟨(e.b r0 _ _).trans a1, (e.k u).trans a2, (e.r u _).trans a3, (e.k v).trans a4, (e.n v).trans a5, (e.i u _).trans a6, (e.i u _).trans a7, (e.i u _).trans a8, fun j hj => (e.a v _ _).trans (a9 j hj)⟩
  · obtain ⟨a1, a2, a3, a4, a5, a6, a7, a8, a9, b1, b2, b3, b4, b5⟩ := hS.1 i hi
    have u := k0 a2; have v := k0 a4
    exact ⟨(e.b r1 _ _).trans a1, (e.k u).trans a2, (e.r u _).trans a3, (e.k v).trans a4, (e.n v).trans a5, (e.i u _).trans a6, (e.i u _).trans a7, (e.i u _).trans a8, (e.i u _).trans a9, (e.r u _).trans b1, (e.i u _).trans b2, (e.i u _).trans b3, (e.i u _).trans b4, fun j hj => (e.a v _ _).trans (b5 j hj)⟩
  · obtain ⟨a1, a2, a3, a4, a5, a6, a7, a8, a9⟩ := hO.1 i hi
    have u := k0 a2
    exact ⟨(e.b r2 _ _).trans a1, (e.k u).trans a2, (e.r u _).trans a3, (e.r u _).trans a4, (e.i u _).trans a5, (e.i u _).trans a6, (e.i u _).trans a7, (e.i u _).trans a8, (e.i u _).trans a9⟩
  · obtain ⟨a1, a2, a3, a4, a5, a6, a7, a8, a9⟩ := hX.1 i hi
    have u := k0 a2; have v := k0 a4
    exact ⟨(e.b r3 _ _).trans a1, (e.k u).trans a2, (e.r u _).trans a3, (e.k v).trans a4, (e.n v).trans a5, (e.i u _).trans a6, (e.i u _).trans a7, (e.i u _).trans a8, fun j hj => (e.a v _ _).trans (a9 j hj)⟩
  · obtain ⟨a1, a2, a3, a4, a5, a6⟩ := hX.2.1
    have u := k0 a2; have v := k0 a4
    exact ⟨(e.r hx _).trans a1, (e.k u).trans a2, (e.r u _).trans a3, (e.k v).trans a4, (e.n v).trans a5, (e.i u _).trans a6⟩
  · obtain ⟨a1, a2, a3, a4, a5, a6, a7, a8, a9, b1, b2⟩ := hH.1 i hi
    have u := k0 a2
    exact ⟨(e.b r4 _ _).trans a1, (e.k u).trans a2, (e.i u _).trans a3, (e.r u _).trans a4, (e.i u _).trans a5, (e.i u _).trans a6, (e.r u _).trans a7, (e.i u _).trans a8, (e.i u _).trans a9, (e.i u _).trans b1, (e.i u _).trans b2⟩
  · obtain ⟨a1, a2, a3, a4, a5, a6, a7, a8⟩ := hE.1 i hi
    have u := k0 a2; have v := k0 a4
    exact ⟨(e.b r5 _ _).trans a1, (e.k u).trans a2, (e.r u _).trans a3, (e.k v).trans a4, (e.n v).trans a5, (e.i u _).trans a6, (e.i u _).trans a7, fun j hj => (e.a v _ _).trans (a8 j hj)⟩
/-- roles that are not yet in use may be told anew -/
def adL (σ : Sg) (r i : Nat) : Prop := (r = 0 ∨ r = 1 → i < cN σ 0) ∧ (r = 2 ∨ r = 3 → i < cN σ 1) ∧ (r = 4 → i < cN σ 2) ∧ (r = 5 ∨ r = 6 → i < cN σ 3) ∧ (r = 7 → i < cN σ 4)
theorem CR.ad {ad ad' : AD} {x : Nat} {S : HSt} {σ : Sg} (h : CR ad x S σ) (hi : Inv σ) (e : ∀ r i, adL σ r i → ad' r i = ad r i) : CR ad' x S σ := by
  obtain ⟨hF, hC, hP, hS, hO, hR, hT, hX, hH, hE⟩ := h
  have e0 : ∀ i, i < cN σ 0 → ad' 0 i = ad 0 i := fun i h => e 0 i ⟨fun _ => h, fun z => absurd z (by decide), fun z => absurd z (by decide), fun z => absurd z (by decide), fun z => absurd z (by decide)⟩
  have e1 : ∀ i, i < cN σ 0 → ad' 1 i = ad 1 i := fun i h => e 1 i ⟨fun _ => h, fun z => absurd z (by decide), fun z => absurd z (by decide), fun z => absurd z (by decide), fun z => absurd z (by decide)⟩
  have e2 : ∀ i, i < cN σ 1 → ad' 2 i = ad 2 i := fun i h => e 2 i ⟨fun z => absurd z (by decide), fun _ => h, fun z => absurd z (by decide), fun z => absurd z (by decide), fun z => absurd z (by decide)⟩
  have e3 : ∀ i, i < cN σ 1 → ad' 3 i = ad 3 i := fun i h => e 3 i ⟨fun z => absurd z (by decide), fun _ => h, fun z => absurd z (by decide), fun z => absurd z (by decide), fun z => absurd z (by decide)⟩
  have e4 : ∀ i, i < cN σ 2 → ad' 4 i = ad 4 i := fun i h => e 4 i ⟨fun z => absurd z (by decide), fun z => absurd z (by decide), fun _ => h, fun z => absurd z (by decide), fun z => absurd z (by decide)⟩
  have e5 : ∀ i, i < cN σ 3 → ad' 5 i = ad 5 i := fun i h => e 5 i ⟨fun z => absurd z (by decide), fun z => absurd z (by decide), fun z => absurd z (by decide), fun _ => h, fun z => absurd z (by decide)⟩
  have e6 : ∀ i, i < cN σ 3 → ad' 6 i = ad 6 i := fun i h => e 6 i ⟨fun z => absurd z (by decide), fun z => absurd z (by decide), fun z => absurd z (by decide), fun _ => h, fun z => absurd z (by decide)⟩
  have e7 : ∀ i, i < cN σ 4 → ad' 7 i = ad 7 i := fun i h => e 7 i ⟨fun z => absurd z (by decide), fun z => absurd z (by decide), fun z => absurd z (by decide), fun z => absurd z (by decide), fun _ => h⟩
  have eb : ∀ r, 8 ≤ r → ad' r = ad r := fun r hr => funext fun i => e r i ⟨fun z => absurd z (by omega), fun z => absurd z (by omega), fun z => absurd z (by omega), fun z => absurd z (by omega), fun z => absurd z (by omega)⟩
  have e8 := eb 8 (by decide)
  have e9 := eb 9 (by decide)
  have e10 := eb 10 (by decide)
  have e11 := eb 11 (by decide)
  have e12 := eb 12 (by decide)
  have i0 := hi.1
  refine ⟨?_, ?_, ⟨fun i h => ?_, fun i j h1 h2 => ?_⟩, ⟨fun i h => ?_, fun i j h1 h2 => ?_⟩, ⟨fun i h => ?_, fun i j h1 h2 => ?_⟩, fun k hk => ?_, fun k hk => ?_, ⟨fun i h => ?_, ?_, fun i h => ?_⟩, ⟨fun i h => ?_, fun i j h1 h2 => ?_⟩, ?_⟩
  · unfold CF; rw [e10, e11]; exact hF
  · unfold CC; rw [e10]; exact hC
  · rw [e10, e0 i h, e1 i h]; exact hP.1 i h
  · rw [e1 i h1, e1 j h2]; exact hP.2 i j h1 h2
  · rw [e10, e2 i h, e3 i h, e0 _ (okN_lt (hi.2.2.2.1 i h).1 (by omega))]; exact hS.1 i h
  · rw [e3 i h1, e3 j h2]; exact hS.2 i j h1 h2
  · rw [e10, e4 i h, e0 _ (okN_lt (hi.2.2.2.2.2.1 i h).1 (by omega)), e0 _ (okN_lt (hi.2.2.2.2.2.1 i h).2.1 (by omega))]; exact hO.1 i h
  · rw [e4 i h1, e4 j h2]; exact hO.2 i j h1 h2
  · rw [e10, e0 _ (okN_lt (hi.2.2.2.2.2.2.2.1 k hk) (by omega))]; exact hR k hk
  · rw [e10]; exact hT k hk
  · rw [e10, e5 i h, e6 i h]; exact hX.1 i h
  · rw [e12]; exact hX.2.1
  · rw [e6 i h, e12]; exact hX.2.2 i h
  · obtain ⟨-, q2, -, -, -, q5, -⟩ := hi.2.2.2.2.2.2.2.2.1 i h
    rw [e10, e7 i h, e2 _ (okN_lt q2 (by omega)), e5 _ (okN_lt q5 (by omega))]; exact hH.1 i h
  · rw [e7 i h1, e7 j h2]; exact hH.2 i j h1 h2
  · unfold CE; rw [e10, e8, e9]; exact hE
theorem up2_s {α : Type} (g : Nat → Nat → α) (f a : Nat) (v : α) : up2 g f a v f a = v := by simp [up2]
theorem up2_n {α : Type} {g : Nat → Nat → α} {f a f' a' : Nat} {v : α} (h : ¬ (f' = f ∧ a' = a)) : up2 g f a v f' a' = g f' a' := by simp only [up2, if_neg h]
/-- a row of references is written behind its used part -/
theorem gB_uB (S : HSt) (k a i : Nat) (v : Option Nat) (k' a' j : Nat) : gB (uB S k a i v) k' a' j = if k' = k ∧ a' = a then (if j = i then v else gB S k a j) else gB S k' a' j := by
  simp only [gB, uB, sB, up2]
  split
  · rename_i h; obtain ⟨rfl, rfl⟩ := h; rfl
  · rfl
theorem gB_uBn {S : HSt} {k a i : Nat} {v : Option Nat} {k' a' j : Nat} (h : ¬ (k' = k ∧ a' = a ∧ j = i)) : gB (uB S k a i v) k' a' j = gB S k' a' j := by
  rw [gB_uB]
  split
  · rename_i z
    split
    · rename_i w; exact absurd ⟨z.1, z.2, w⟩ h
    · rw [z.1, z.2]
  · rfl
theorem gB_uBs {S : HSt} {k a i : Nat} {v : Option Nat} : gB (uB S k a i v) k a i = v := by rw [gB_uB]; simp
