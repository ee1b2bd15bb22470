/-! the class: a whole text -/
theorem c_part {ad : AD} {x : Nat} {σ : Sg} {N : Nat} (H : HC σ N) {s : PRs} (hs : QQ N s) {q : Int32} {S : HSt} (h : CSt ad x σ N s.1 s.2.1 s.2.2 q S) {key : Int32} (hk : key ≠ -26) (hk7 : key ≠ -27) {Post : Unit → HSt → Prop} (hP : ∀ S', CSt ad x σ N (ptP (tT σ) key s).1 (ptP (tT σ) key s).2.1 (ptP (tT σ) key s).2.2 q S' → Post () S') : wp_X5_readPart (ad 10 10) key (ad 12 0) S Post := by
  unfold ptP at hP
  have errc : ∀ S1, CSt ad x σ N s.1 s.2.1 true q S1 → (∀ S', CSt ad x σ N s.1 s.2.1 true q S' → Post () S') → wp_G3 80 0 (ad 10 10) (ad 12 0) (nI 0) (nI 0) S1 (fun _ S5 => wp_X5_expect (ad 10 10) (-25) S5 (fun _ S8 => Post () S8)) := fun S1 k hQ => c_err3 H hs.1 80 0 (by decide) (by decide) S1 _ k (fun S' k' => c_exp H hs.1 k' (t := -25) (by decide) (by decide) (fun e0 => by cases e0) (fun _ S9 k9 => hQ S9 k9))
  refine c_exp H hs.1 h hk hk7 (fun e0 ek S1 k1 => ?_) (fun eo S1 k1 => ?_)
  · rw [if_neg (Bool.eq_false_iff.mp e0), if_pos ek] at hP
    have hlt := H.lt hs.1 ek hk
    have hl := hs.2 e0
    have gd := pG_ok H.end (TS_ok σ (cN σ 5)) 80 0 0 (s.1 + 1) hlt
    refine c_G3 H 80 0 0 (by decide) (by decide) (by decide) 80 (by decide) (s.1 + 1) s.2.1 q S1 _ hlt (by omega) k1 (fun S5 k5 => c_exp H gd.2.1 k5 (t := -25) (by decide) (by decide) (fun e2 t25 S' k' => ?_) (fun eo S' k' => ?_))
    · rw [if_neg (Bool.eq_false_iff.mp e2), if_pos t25] at hP
      exact hP S' k'
    · by_cases e1 : (pG (tT σ) 80 0 0 (s.1 + 1)).2.2 = true
      · rw [if_pos e1] at hP
        exact hP S' k'
      · rw [if_neg e1, if_neg (eo.resolve_left e1)] at hP
        exact hP S' k'
  · refine errc S1 k1 (fun S' k' => ?_)
    by_cases e1 : s.2.2 = true
    · rw [if_pos e1, e1] at hP; exact hP S' k'
    · rw [if_neg e1, if_neg (eo.resolve_left e1)] at hP; exact hP S' k'
theorem c_read {ad : AD} {x : Nat} {σ : Sg} {N : Nat} (H : HC σ N) {S : HSt} (hC : CR ad x S σ) {Post : Int32 → HSt → Prop} (hP : ∀ S', CR ad x S' σ → (okTx σ → gI S' 1101 (ad 12 0) = nI (rd1 (tT σ)).2.1.length ∧ gI S' 1102 (ad 12 0) = nI (rd2 (tT σ)).2.1.length ∧ ∀ j, j < (rd2 (tT σ)).2.1.length → gA S' 251 (ad 12 1) j = encO (gtL (rd2 (tT σ)).2.1 j).1 (gtL (rd2 (tT σ)).2.1 j).2) → Post (if okTx σ then -1 else nI (PS σ (cN σ 5) (rd2 (tT σ)).1)) S') : wp_X5_read (ad 10 10) (ad 12 0) S Post := by
  refine cx_split hC H.1 H.2.2 (fun S2 c2 t2 S1 e1 S4 e4 S7 e7 => ?_)
  have c7 : CR ad x S7 σ := by rw [e7, e4, e1]; exact ((c2.t1101 H.2.1 _).t1102 H.2.1 _).u607 _ _
  have t7 : TK ad σ N S7 := by rw [e7, e4, e1]; exact ((t2.ui 1101 _ _ (by decide)).ui 1102 _ _ (by decide)).ui 607 _ _ (by decide)
  refine c_to H (Nat.zero_le N) (acc := []) (q := 0) c7 t7 (by rw [e7, gI_same, if_pos rfl]) ?_ (fun j hj => absurd hj (Nat.not_lt_zero j)) ?_ rfl (fun S11 k11 => ?_)
  · rw [e7]; show gI S4 1102 _ = _; rw [e4, gI_same, if_pos rfl]; rfl
  · rw [e7]; show gI S4 1101 _ = _; rw [e4]; show gI S1 1101 _ = _; rw [e1, gI_same, if_pos rfl]
  · refine c_part (s := (0, [], false)) H ⟨Nat.zero_le _, fun _ => Nat.le_refl _⟩ k11 (key := -21) (by decide) (by decide) (fun S14 k14 S17 e17 => ?_)
    have k14 : CSt ad x σ N (rd1 (tT σ)).1 (rd1 (tT σ)).2.1 (rd1 (tT σ)).2.2 0 S14 := k14
    have k17 : CSt ad x σ N (rd1 (tT σ)).1 (rd1 (tT σ)).2.1 (rd1 (tT σ)).2.2 (nI (rd1 (tT σ)).2.1.length) S17 := by
      obtain ⟨a1, a2, a3, a4, a5, a6, a7, a8⟩ := k14
      rw [e17, a6]
      exact ⟨a1.t1101 H.2.1 _, a2.ui 1101 _ _ (by decide), a3, a4, a5, a6, a7, by rw [gI_same, if_pos rfl]⟩
    refine c_part (s := rd1 (tT σ)) H (rd1_ok H.end (TS_ok σ (cN σ 5))) k17 (key := -22) (by decide) (by decide) (fun S20 k20 => ?_)
    have k20 : CSt ad x σ N (rd2 (tT σ)).1 (rd2 (tT σ)).2.1 (rd2 (tT σ)).2.2 (nI (rd1 (tT σ)).2.1.length) S20 := k20
    have q2 := rd2_ok H.end (TS_ok σ (cN σ 5))
    refine ⟨fun z => ?_, fun nz => c_ref H q2.1 k20 (fun S24 k24 => ?_)⟩
    · have a4 := k20.2.2.2.1
      rw [z] at a4
      have e0 : (rd2 (tT σ)).2.2 = false := by
        cases he : (rd2 (tT σ)).2.2 with
        | false => rfl
        | true => rw [he] at a4; have a4 : (-26 : Int32) = -27 := a4; exact absurd a4 (by decide)
      rw [e0] at a4
      have ok : okTx σ := ⟨e0, a4.symm⟩
      have a5 := k20.2.2.2.2.1
      rw [e0] at a5
      rw [show gI S20 607 (ad 10 10) = -1 from a5]
      have := hP S20 k20.1 (fun _ => ⟨k20.2.2.2.2.2.2.2, k20.2.2.2.2.2.1, k20.2.2.2.2.2.2.1⟩)
      rw [if_pos ok] at this; exact this
    · have nok : ¬ okTx σ := by
        intro ok
        have a4 := k20.2.2.2.1
        rw [ok.1] at a4
        exact nz (a4.trans ok.2)
      rw [show gI S24 607 (ad 10 10) = nI (PS σ (cN σ 5) (rd2 (tT σ)).1) from k24.2.2.2.2.1]
      have := hP S24 k24.1 (fun ok => absurd ok nok)
      rw [if_neg nok] at this; exact this
/-- a state that only grew, but for the row of texts and what the office says of it -/
def Ey (S S' : HSt) : Prop := ∀ a, gK S a ≠ 0 → gK S' a = gK S a ∧ gN S' a = gN S a ∧ (∀ f, f ≠ 1210 → gI S' f a = gI S f a) ∧ (∀ f, f ≠ 1217 → gR S' f a = gR S f a) ∧ (∀ k, gA S' k a = gA S k a) ∧ ∀ k, k ≠ 900 → gB S' k a = gB S k a
theorem Ey.k {S S' : HSt} (e : Ey S S') {a : Nat} (h : gK S a ≠ 0) : gK S' a = gK S a := (e a h).1
theorem Ey.n {S S' : HSt} (e : Ey S S') {a : Nat} (h : gK S a ≠ 0) : gN S' a = gN S a := (e a h).2.1
theorem Ey.i {S S' : HSt} (e : Ey S S') {a : Nat} (h : gK S a ≠ 0) (f : Nat) (hf : f ≠ 1210 := by decide) : gI S' f a = gI S f a := (e a h).2.2.1 f hf
theorem Ey.r {S S' : HSt} (e : Ey S S') {a : Nat} (h : gK S a ≠ 0) (f : Nat) (hf : f ≠ 1217 := by decide) : gR S' f a = gR S f a := (e a h).2.2.2.1 f hf
theorem Ey.a {S S' : HSt} (e : Ey S S') {a : Nat} (h : gK S a ≠ 0) (k i : Nat) : gA S' k a i = gA S k a i := congrFun ((e a h).2.2.2.2.1 k) i
theorem Ey.b {S S' : HSt} (e : Ey S S') {a : Nat} (h : gK S a ≠ 0) (k i : Nat) (hk : k ≠ 900 := by decide) : gB S' k a i = gB S k a i := congrFun ((e a h).2.2.2.2.2 k hk) i
theorem CR.ey {ad : AD} {x : Nat} {S S' : HSt} {σ : Sg} (h : CR ad x S σ) (e : Ey S S') : CF ad x S' ∧ CP ad S' σ ∧ CS ad S' σ ∧ CO ad S' σ ∧ CRo ad S' σ ∧ CT ad S' σ ∧ CH ad S' σ ∧ CE ad S' σ := by
  obtain ⟨hF, hC, hP, hS, hO, hR, hT, hX, hH, hE⟩ := h
  have hx := k0 hF.2.1
  have r0 := k0 (hF.f 1200 0 600 8).2.1
  have r1 := k0 (hF.f 1201 1 800 5).2.1
  have r2 := k0 (hF.f 1202 2 500 10).2.1
  have r4 := k0 (hF.f 1204 4 400 12).2.1
  have r5 := k0 (hF.f 1205 5 700 4).2.1
  have r6 := k0 (hF.f 1206 6 601 6).2.1
  have r20 := k0 (hF.g 601 10 20 253 160).2.1
  refine ⟨?_, ⟨fun i hi => ?_, hP.2⟩, ⟨fun i hi => ?_, hS.2⟩, ⟨fun i hi => ?_, hO.2⟩, fun k hk => (e.b r6 _ _).trans (hR k hk), fun k hk => (e.a r20 _ _).trans (hT k hk), ⟨fun i hi => ?_, hH.2⟩, fun i hi => ?_, hE.2⟩
  · refine ⟨hF.1, (e.k hx).trans hF.2.1, fun r hr => ?_, fun r hr => ?_, fun i hi => ?_, hF.2.2.2.2.2⟩
    · obtain ⟨h1, h2, h3⟩ := hF.2.2.1 r hr
      obtain ⟨e1, e2, e3⟩ := fixT_ok r hr
      obtain ⟨k1, k2⟩ := hF.hk _ (fixT_h r hr)
      exact ⟨(e.r (k0 k1 k2) _ e2).trans h1, (e.k (k0 h2 e3)).trans h2, (e.n (k0 h2 e3)).trans h3⟩
    · obtain ⟨h1, h2⟩ := hF.2.2.2.1 r hr
      obtain ⟨e0, e1, e2, e3⟩ := objT_h r hr
      obtain ⟨k1, k2⟩ := hF.hk _ e0
      exact ⟨(e.r (k0 k1 k2) _ e2).trans h1, (e.k (k0 h2 e3)).trans h2⟩
    · obtain ⟨h1, h2, h3⟩ := hF.2.2.2.2.1 i hi
      exact ⟨(e.b (k0 (hF.g 103 9 17 1000 6).2.1) _ _).trans h1, (e.k (k0 h2)).trans h2, (e.n (k0 h2)).trans h3⟩
  · obtain ⟨a1, a2, a3, a4, a5, a6, a7, a8, a9⟩ := hP.1 i hi
    have u := k0 a2; have v := k0 a4
    exact ⟨(e.b r0 _ _).trans a1, (e.k u).trans a2, (e.r u _).trans a3, (e.k v).trans a4, (e.n v).trans a5, (e.i u _).trans a6, (e.i u _).trans a7, (e.i u _).trans a8, fun j hj => (e.a v _ _).trans (a9 j hj)⟩
  · obtain ⟨a1, a2, a3, a4, a5, a6, a7, a8, a9, b1, b2, b3, b4, b5⟩ := hS.1 i hi
    have u := k0 a2; have v := k0 a4
    exact ⟨(e.b r1 _ _).trans a1, (e.k u).trans a2, (e.r u _).trans a3, (e.k v).trans a4, (e.n v).trans a5, (e.i u _).trans a6, (e.i u _).trans a7, (e.i u _).trans a8, (e.i u _).trans a9, (e.r u _).trans b1, (e.i u _).trans b2, (e.i u _).trans b3, (e.i u _).trans b4, fun j hj => (e.a v _ _).trans (b5 j hj)⟩
  · obtain ⟨a1, a2, a3, a4, a5, a6, a7, a8, a9⟩ := hO.1 i hi
    have u := k0 a2
    exact ⟨(e.b r2 _ _).trans a1, (e.k u).trans a2, (e.r u _).trans a3, (e.r u _).trans a4, (e.i u _).trans a5, (e.i u _).trans a6, (e.i u _).trans a7, (e.i u _).trans a8, (e.i u _).trans a9⟩
  · obtain ⟨a1, a2, a3, a4, a5, a6, a7, a8, a9, b1, b2⟩ := hH.1 i hi
    have u := k0 a2
    exact ⟨(e.b r4 _ _).trans a1, (e.k u).trans a2, (e.i u _).trans a3, (e.r u _).trans a4, (e.i u _).trans a5, (e.i u _).trans a6, (e.r u _).trans a7, (e.i u _).trans a8, (e.i u _).trans a9, (e.i u _).trans b1, (e.i u _).trans b2⟩
  · obtain ⟨a1, a2, a3, a4, a5, a6, a7, a8⟩ := hE.1 i hi
    have u := k0 a2; have v := k0 a4
    exact ⟨(e.b r5 _ _).trans a1, (e.k u).trans a2, (e.r u _).trans a3, (e.k v).trans a4, (e.n v).trans a5, (e.i u _).trans a6, (e.i u _).trans a7, fun j hj => (e.a v _ _).trans (a8 j hj)⟩
