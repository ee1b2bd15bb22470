/-! the class reads a text -/
theorem CR.spx {ad : AD} {x : Nat} {S : HSt} {σ : Sg} (h : CR ad x S σ) (h3 : cN σ 3 ≤ 6) {i : Nat} (hi : i < cN σ 3) : ad 5 i ≠ ad 12 0 := by
  intro e
  have a := (h.2.2.2.2.2.2.2.1.1 i hi).2.2.2.2.2.1
  have b := h.2.2.2.2.2.2.2.1.2.1.2.2.2.2.2
  rw [e, b] at a
  have := nI_inj (by omega) (by omega) a
  omega
theorem CR.t1102 {ad : AD} {x : Nat} {S : HSt} {σ : Sg} (h : CR ad x S σ) (h3 : cN σ 3 ≤ 6) (v : Int32) : CR ad x (uI S 1102 (ad 12 0) v) σ := by
  have hn : ∀ {i : Nat}, i < cN σ 3 → ad 5 i ≠ ad 12 0 := fun hi => h.spx h3 hi
  obtain ⟨hF, hC, hP, hS, hO, hR, hT, hX, hH, hE⟩ := h
  refine ⟨hF.ks (Ks_uI rfl) (fun _ _ => rfl), hC, hP, hS, hO, hR, hT, ⟨fun i hi => ?_, hX.2⟩, hH, hE⟩
  obtain ⟨a1, a2, a3, a4, a5, a6, a7, a8, a9⟩ := hX.1 i hi
  exact ⟨a1, a2, a3, a4, a5, a6, a7, by rw [gI_same, if_neg (hn hi)]; exact a8, a9⟩
theorem CR.t1101 {ad : AD} {x : Nat} {S : HSt} {σ : Sg} (h : CR ad x S σ) (h3 : cN σ 3 ≤ 6) (v : Int32) : CR ad x (uI S 1101 (ad 12 0) v) σ := by
  have hn : ∀ {i : Nat}, i < cN σ 3 → ad 5 i ≠ ad 12 0 := fun hi => h.spx h3 hi
  obtain ⟨hF, hC, hP, hS, hO, hR, hT, hX, hH, hE⟩ := h
  refine ⟨hF.ks (Ks_uI rfl) (fun _ _ => rfl), hC, hP, hS, hO, hR, hT, ⟨fun i hi => ?_, hX.2⟩, hH, hE⟩
  obtain ⟨a1, a2, a3, a4, a5, a6, a7, a8, a9⟩ := hX.1 i hi
  exact ⟨a1, a2, a3, a4, a5, a6, by rw [gI_same, if_neg (hn hi)]; exact a7, a8, a9⟩
theorem CR.t251 {ad : AD} {x : Nat} {S : HSt} {σ : Sg} (h : CR ad x S σ) (j : Nat) (v : Int32) : CR ad x (uA S 251 (ad 12 1) j v) σ := by
  obtain ⟨hF, hC, hP, hS, hO, hR, hT, hX, hH, hE⟩ := h
  refine ⟨hF.ks (Ks_uA rfl) (fun _ _ => rfl), hC, hP, hS, hO, hR, hT, ⟨fun i hi => ?_, hX.2⟩, hH, hE⟩
  obtain ⟨a1, a2, a3, a4, a5, a6, a7, a8, a9⟩ := hX.1 i hi
  exact ⟨a1, a2, a3, a4, a5, a6, a7, a8, fun k hk => by rw [gA_uA, if_neg (fun y => hX.2.2 i hi y.2)]; exact a9 k hk⟩
def CSt (ad : AD) (x : Nat) (σ : Sg) (N i : Nat) (acc : List (Int32 × Int32)) (e : Bool) (q : Int32) (S : HSt) : Prop := CR ad x S σ ∧ TK ad σ N S ∧ gI S 605 (ad 10 10) = nI i ∧ gI S 606 (ad 10 10) = (if e then -27 else tT σ i) ∧ gI S 607 (ad 10 10) = (if e then nI (PS σ (cN σ 5) i) else -1) ∧ gI S 1102 (ad 12 0) = nI acc.length ∧ (∀ j, j < acc.length → gA S 251 (ad 12 1) j = encO (gtL acc j).1 (gtL acc j).2) ∧ gI S 1101 (ad 12 0) = q
def HC (σ : Sg) (N : Nat) : Prop := cN σ 5 ≤ 160 ∧ cN σ 3 ≤ 6 ∧ NT (dD σ 1323) (cN σ 5) N
theorem TK.ui {ad : AD} {σ : Sg} {N : Nat} {S : HSt} (h : TK ad σ N S) (f a : Nat) (v : Int32) (hf : f ≠ 602) : TK ad σ N (uI S f a v) := ⟨by rw [gI_uI, if_neg (fun z => hf z.1.symm)]; exact h.1, h.2⟩
theorem HC.end {σ : Sg} {N : Nat} (H : HC σ N) : tT σ N = -26 := tk_end H.2.2
theorem HC.lt {σ : Sg} {N i : Nat} (H : HC σ N) (hi : i ≤ N) {t : Int32} (e : tT σ i = t) (n : t ≠ -26) : i < N := by
  by_cases q : i = N
  · rw [q, H.end] at e; exact absurd e.symm n
  · omega
theorem HC.n {σ : Sg} {N : Nat} (H : HC σ N) : N ≤ 160 := by have := H.1; have := H.2.2.1; omega
/-- to a token -/
theorem c_to {ad : AD} {x : Nat} {σ : Sg} {N : Nat} (H : HC σ N) {i : Nat} (hi : i ≤ N) {acc : List (Int32 × Int32)} {q : Int32} {S : HSt} (hC : CR ad x S σ) (hT : TK ad σ N S) (h7 : gI S 607 (ad 10 10) = -1) (h2 : gI S 1102 (ad 12 0) = nI acc.length) (hA : ∀ j, j < acc.length → gA S 251 (ad 12 1) j = encO (gtL acc j).1 (gtL acc j).2) (h1 : gI S 1101 (ad 12 0) = q) {v : Int32} (hv : v = nI i) {Post : Unit → HSt → Prop} (hP : ∀ S', CSt ad x σ N i acc false q S' → Post () S') : wp_X5_stepTo (ad 10 10) v S Post := by
  have hN := H.n
  intro S1 e1
  subst hv
  have c1 : CR ad x S1 σ := by rw [e1]; exact hC.u605 _ _
  have t1 : TK ad σ N S1 := by rw [e1]; exact hT.ui 605 _ _ (by decide)
  have g5 : gI S1 605 (ad 10 10) = nI i := by rw [e1, gI_same, if_pos rfl]
  have g7 : gI S1 607 (ad 10 10) = -1 := by rw [e1]; exact h7
  have fin : ∀ (t : Int32), t = tT σ i → ∀ S5 : HSt, S5 = uI S1 606 (ad 10 10) t → Post () S5 := by
    intro t et S5 e5
    refine hP S5 ⟨by rw [e5]; exact c1.u606 _ _, by rw [e5]; exact t1.ui 606 _ _ (by decide), by rw [e5]; exact g5, by rw [e5, gI_same, if_pos rfl, et]; rfl, by rw [e5]; exact g7, by rw [e5, e1]; exact h2, by rw [e5, e1]; exact hA, by rw [e5, e1]; exact h1⟩
  rw [g5, t1.1]
  refine ⟨fun z => absurd z (nI_pos (by omega)), fun _ => ⟨fun le => ?_, fun gt => ?_⟩⟩
  · rw [nI_leI (by omega) (by omega)] at le
    exact fin _ (by rw [show i = N by omega]; exact H.end.symm)
  · rw [nI_leI (by omega) (by omega)] at gt
    obtain ⟨p1, p2, p3⟩ := c1.1.g 603 10 21 254 160
    refine ⟨_, p1, p2, by rw [p3]; exact vp_in_nI (by omega) (by decide), ?_⟩
    rw [nI_clamp (by omega)]
    exact fin _ (t1.2 i (by omega)).1
theorem c_nx {ad : AD} {x : Nat} {σ : Sg} {N : Nat} (H : HC σ N) {i : Nat} (hi : i < N) {acc : List (Int32 × Int32)} {q : Int32} {S : HSt} (h : CSt ad x σ N i acc false q S) {Post : Unit → HSt → Prop} (hP : ∀ S', CSt ad x σ N (i + 1) acc false q S' → Post () S') : wp_X5_stepTo (ad 10 10) (gI S 605 (ad 10 10) + 1) S Post := by
  obtain ⟨a1, a2, a3, a4, a5, a6, a7, a8⟩ := h
  exact c_to H hi a1 a2 a5 a6 a7 a8 (by rw [a3, nI_1]) hP
theorem c_ref {ad : AD} {x : Nat} {σ : Sg} {N : Nat} (H : HC σ N) {i : Nat} (hi : i ≤ N) {acc : List (Int32 × Int32)} {e : Bool} {q : Int32} {S : HSt} (h : CSt ad x σ N i acc e q S) {Post : Unit → HSt → Prop} (hP : ∀ S', CSt ad x σ N i acc true q S' → Post () S') : wp_X5_refuse (ad 10 10) S Post := by
  have hN := H.n
  obtain ⟨a1, a2, a3, a4, a5, a6, a7, a8⟩ := h
  have hPl : PS σ (cN σ 5) i ≤ cN σ 5 := plN_le i
  have hz := H.1
  have fin : ∀ (v : Int32), v = nI (PS σ (cN σ 5) i) → ∀ S6 : HSt, S6 = uI S 607 (ad 10 10) v → ∀ S9 : HSt, S9 = uI S6 606 (ad 10 10) (-27) → Post () S9 := by
    intro v ev S6 e6 S9 e9
    refine hP S9 ⟨by rw [e9, e6]; exact (a1.u607 _ _).u606 _ _, by rw [e9, e6]; exact (a2.ui 607 _ _ (by decide)).ui 606 _ _ (by decide), by rw [e9, e6]; exact a3, by rw [e9, gI_same, if_pos rfl]; rfl, ?_, by rw [e9, e6]; exact a6, by rw [e9, e6]; exact a7, by rw [e9, e6]; exact a8⟩
    rw [e9]
    show gI S6 607 _ = _
    rw [e6, gI_same, if_pos rfl, ev]; rfl
  unfold wp_X5_refuse
  rw [a5]
  cases e with
  | true =>
    have ne : ¬ nI (PS σ (cN σ 5) i) = -1 := by
      intro y
      have e9 := nI_toInt (n := PS σ (cN σ 5) i) (by omega)
      rw [y] at e9
      have e1 : (-1 : Int32).toInt = -1 := by decide
      omega
    refine ⟨fun _ S2 e2 => hP S2 ⟨by rw [e2]; exact a1.u606 _ _, by rw [e2]; exact a2.ui 606 _ _ (by decide), by rw [e2]; exact a3, by rw [e2, gI_same, if_pos rfl]; rfl, by rw [e2]; exact a5, by rw [e2]; exact a6, by rw [e2]; exact a7, by rw [e2]; exact a8⟩, fun y => absurd y ne⟩
  | false =>
    refine ⟨fun y => absurd rfl y, fun _ => ?_⟩
    rw [a3, a2.1, a1.sz]
    refine ⟨fun z => absurd z (nI_pos (by omega)), fun _ => ⟨fun le => ?_, fun gt => ?_⟩⟩
    · rw [nI_leI (by omega) (by omega)] at le
      refine fin _ ?_
      rw [show i = N by omega]
      exact congrArg nI H.2.2.2.2.symm
    · rw [nI_leI (by omega) (by omega)] at gt
      obtain ⟨p1, p2, p3⟩ := a1.1.g 604 10 22 255 160
      refine ⟨_, p1, p2, by rw [p3]; exact vp_in_nI (by omega) (by decide), ?_⟩
      rw [nI_clamp (by omega)]
      exact fin _ (a2.2 i (by omega)).2
theorem c_exp {ad : AD} {x : Nat} {σ : Sg} {N : Nat} (H : HC σ N) {i : Nat} (hi : i ≤ N) {acc : List (Int32 × Int32)} {e : Bool} {q : Int32} {S : HSt} (h : CSt ad x σ N i acc e q S) {t : Int32} (ht : t ≠ -26) (ht7 : t ≠ -27) {Post : Unit → HSt → Prop} (h1 : e = false → tT σ i = t → ∀ S', CSt ad x σ N (i + 1) acc false q S' → Post () S') (h0 : (e = true ∨ tT σ i ≠ t) → ∀ S', CSt ad x σ N i acc true q S' → Post () S') : wp_X5_expect (ad 10 10) t S Post := by
  unfold wp_X5_expect
  rw [h.2.2.2.1]
  refine ⟨fun n => c_ref H hi h (h0 ?_), fun y => ?_⟩
  · cases e with
    | true => exact Or.inl rfl
    | false => exact Or.inr n
  · cases e with
    | true => exact absurd y.symm ht7
    | false => exact c_nx H (H.lt hi y ht) h (h1 rfl y)
theorem c_ad {ad : AD} {x : Nat} {σ : Sg} {N : Nat} (H : HC σ N) {i : Nat} {acc : List (Int32 × Int32)} {e : Bool} {q : Int32} {S : HSt} (h : CSt ad x σ N i acc e q S) (hb : acc.length < 160) {v a b : Int32} (hv : v = encO a b) {Post : Unit → HSt → Prop} (hP : ∀ S', CSt ad x σ N i (acc ++ [(a, b)]) e q S' → Post () S') : wp_X10_add (ad 12 0) v S Post := by
  obtain ⟨a1, a2, a3, a4, a5, a6, a7, a8⟩ := h
  obtain ⟨s1, s2, s3, s4, s5, s6⟩ := a1.2.2.2.2.2.2.2.1.2.1
  unfold wp_X10_add
  rw [a6]
  refine ⟨fun z => absurd z (nI_ge (b := 160) hb (by decide)), fun _ => ⟨_, s3, s4, by rw [s5]; exact vp_in_nI hb (by decide), fun S6 e6 S9 e9 => ?_⟩⟩
  rw [nI_clamp (by omega)] at e6
  have g6 : gI S6 1102 (ad 12 0) = nI acc.length := by rw [e6]; exact a6
  rw [g6, nI_1] at e9
  refine hP S9 ⟨by rw [e9, e6]; exact (a1.t251 _ _).t1102 H.2.1 _, by rw [e9, e6]; exact ⟨a2.1, a2.2⟩, by rw [e9, e6]; exact a3, by rw [e9, e6]; exact a4, by rw [e9, e6]; exact a5, ?_, fun j hj => ?_, by rw [e9, e6]; exact a8⟩
  · rw [e9, gI_same, if_pos rfl, List.length_append]; rfl
  · rw [List.length_append, List.length_singleton] at hj
    rw [e9]
    show gA S6 251 (ad 12 1) j = _
    rw [e6, gA_uA, if_pos ⟨rfl, rfl⟩]
    by_cases y : j = acc.length
    · subst y
      rw [pk_us, gtL_e]; exact hv
    · rw [pk_un y, gtL_l _ _ _ (by omega)]
      exact a7 j (by omega)
theorem c_lev {t : Int32} {S : HSt} {Post : Int32 → HSt → Prop} (hp : Post (if lvT t < 5 then nI (lvT t) else -1) S) : wp_X5_levelOf t S Post := by
  refine ⟨fun e => ?_, fun n8 => ⟨fun e => ?_, fun n7 => ⟨fun e => ?_, fun n6 => ⟨fun e => ?_, fun n5 => ⟨fun e => ?_, fun n4 => ⟨fun e => ?_, fun n3 => ⟨fun e => ?_, fun n2 => ⟨fun e => ?_, fun n1 => ?_⟩⟩⟩⟩⟩⟩⟩⟩
  · rw [e, show (if lvT (-8) < 5 then nI (lvT (-8)) else -1) = (4 : Int32) by decide] at hp; exact hp
  · rw [e, show (if lvT (-7) < 5 then nI (lvT (-7)) else -1) = (3 : Int32) by decide] at hp; exact hp
  · rw [e, show (if lvT (-6) < 5 then nI (lvT (-6)) else -1) = (3 : Int32) by decide] at hp; exact hp
  · rw [e, show (if lvT (-5) < 5 then nI (lvT (-5)) else -1) = (2 : Int32) by decide] at hp; exact hp
  · rw [e, show (if lvT (-4) < 5 then nI (lvT (-4)) else -1) = (2 : Int32) by decide] at hp; exact hp
  · rw [e, show (if lvT (-3) < 5 then nI (lvT (-3)) else -1) = (-1 : Int32) by decide] at hp; exact hp
  · rw [e, show (if lvT (-2) < 5 then nI (lvT (-2)) else -1) = (1 : Int32) by decide] at hp; exact hp
  · rw [e, show (if lvT (-1) < 5 then nI (lvT (-1)) else -1) = (0 : Int32) by decide] at hp; exact hp
  · have : lvT t = 9 := by unfold lvT; rw [if_neg n1, if_neg n2, if_neg n4, if_neg n5, if_neg n6, if_neg n7, if_neg n8]
    rw [this, if_neg (by decide)] at hp; exact hp
/-- the level of a token is compared -/
theorem c_lvq {t : Int32} {lv : Nat} (hlv : lv < 5) {S : HSt} {Post : Int32 → HSt → Prop} (h1 : lvT t = lv → Post (nI lv) S) (h0 : lvT t ≠ lv → ∀ r, r ≠ nI lv → Post r S) : wp_X5_levelOf t S Post := by
  refine c_lev ?_
  by_cases e : lvT t = lv
  · rw [e, if_pos hlv]; exact h1 e
  · refine h0 e _ ?_
    split
    · rename_i h5
      intro q
      exact e (nI_inj (by omega) (by omega) q)
    · intro q
      have e9 := nI_toInt (n := lv) (by omega)
      rw [← q] at e9
      have e1 : (-1 : Int32).toInt = -1 := by decide
      omega
/-- what a reading function does -/
def CFn (ad : AD) (x : Nat) (σ : Sg) (N : Nat) (f : Nat → PRs) (W : HSt → (Unit → HSt → Prop) → Prop) : Prop := ∀ (i : Nat) (acc : List (Int32 × Int32)) (q : Int32) (S : HSt) (Post : Unit → HSt → Prop), i ≤ N → acc.length + 1 ≤ i → CSt ad x σ N i acc false q S → (∀ S', CSt ad x σ N (f i).1 (acc ++ (f i).2.1) (f i).2.2 q S' → Post () S') → W S Post
theorem enc_op {t : Int32} (h : lvT t < 5) : t = encO (1 - t) 0 := by
  unfold lvT at h
  repeat' (split at h)
  all_goals first
    | (rename_i e; subst e; decide)
    | omega
/-- a joint and what is behind it -/
theorem c_joint {ad : AD} {x : Nat} {σ : Sg} {N : Nat} (H : HC σ N) {f : Nat → PRs} {W : HSt → (Unit → HSt → Prop) → Prop} (hW : CFn ad x σ N f W) (hfok : ∀ i, i ≤ N → gdR N i (f i)) {i : Nat} {acc : List (Int32 × Int32)} {q : Int32} {S : HSt} (h : CSt ad x σ N i acc false q S) (hi : i < N) (hb : acc.length + 1 ≤ i) (hl : lvT (tT σ i) < 5) {Post : Unit → HSt → Prop} (hP : ∀ S', CSt ad x σ N (f (i + 1)).1 (acc ++ (f (i + 1)).2.1 ++ [(1 - tT σ i, 0)]) (f (i + 1)).2.2 q S' → Post () S') : wp_X5_stepTo (ad 10 10) (gI S 605 (ad 10 10) + 1) S (fun _ S13 => W S13 (fun _ S16 => wp_X10_add (ad 12 0) (tT σ i) S16 Post)) := by
  obtain ⟨g1, g2, g3, g4⟩ := hfok (i + 1) hi
  have hN := H.n
  refine c_nx H hi h (fun S13 k1 => hW (i + 1) acc q S13 _ hi (by omega) k1 (fun S16 k2 => c_ad H k2 ?_ (enc_op hl) hP))
  rw [List.length_append]
  have := e_le1 (f (i + 1)).2.2
  omega
theorem tk27 : lvT (-27) = 9 := by decide
theorem c_lpa {ad : AD} {x : Nat} {σ : Sg} {N o lv : Nat} (hlv : lv < 5) (H : HC σ N) {f : Nat → PRs} {rec : Nat → Nat → Nat → Int32 → Int32 → HSt → (Unit → HSt → Prop) → Prop} (hW : CFn ad x σ N f (rec 0 (ad 10 10) (ad 12 0) (nI (lv + 1)) (nI o))) (hfok : ∀ i, i ≤ N → gdR N i (f i)) {K : Int32 → HSt → Prop} (acc : List (Int32 × Int32)) {q : Int32} : ∀ (k w : Nat) (r : PRs) (S : HSt), w + k = 160 → r.1 ≤ N → (acc ++ r.2.1).length + 1 ≤ r.1 + (if r.2.2 then 1 else 0) → CSt ad x σ N r.1 (acc ++ r.2.1) r.2.2 q S → (∀ w S', CSt ad x σ N (lpP (tT σ) f lv k r).1 (acc ++ (lpP (tT σ) f lv k r).2.1) (lpP (tT σ) f lv k r).2.2 q S' → K w S') → lp_X5_readLevel_66a rec (ad 10 10) (nI lv) (ad 12 0) (nI o) K (k + 1) (nI w) S := by
  intro k
  induction k with
  | zero =>
    intro w r S hk hr hb h hK
    exact ⟨fun _ => hK _ S h, fun z => absurd (nI_le (a := 160) (b := w) (by omega) (by omega)) z⟩
  | succ k ih =>
    intro w r S hk hr hb h hK
    unfold lpP at hK
    unfold lp_X5_readLevel_66a
    rw [h.2.2.2.1, nI_1]
    refine ⟨fun z => absurd z (nI_ge (a := w) (b := 160) (by omega) (by decide)), fun _ => c_lvq hlv (fun el => ⟨fun z => absurd rfl z, fun _ v16 e16 => ?_⟩) (fun nl r12 hr12 => ⟨fun _ => ?_, fun z => absurd z hr12⟩)⟩
    · have e0 : r.2.2 = false := by
        cases he : r.2.2 with
        | false => rfl
        | true =>
          rw [he] at el
          have el : lvT (-27) = lv := el
          rw [tk27] at el; omega
      rw [e0] at el hb
      have el : lvT (tT σ r.1) = lv := el
      have hb : (acc ++ r.2.1).length + 1 ≤ r.1 := hb
      have h' := h
      rw [e0] at h'
      rw [if_neg (Bool.eq_false_iff.mp e0), if_pos el] at hK
      have hlt : r.1 < N := by
        by_cases y : r.1 = N
        · rw [y, H.end] at el; rw [← el] at hlv; exact absurd hlv (by decide)
        · omega
      obtain ⟨g1, g2, g3, g4⟩ := hfok (r.1 + 1) hlt
      have e16 : v16 = tT σ r.1 := by rw [e16, h'.2.2.2.1]; rfl
      subst e16
      refine c_joint H hW hfok h' hlt hb (by omega) (fun S25 k25 v27 e27 => ?_)
      rw [nI_1] at e27
      subst e27
      refine ih (w + 1) ((f (r.1 + 1)).1, r.2.1 ++ (f (r.1 + 1)).2.1 ++ [(1 - tT σ r.1, 0)], (f (r.1 + 1)).2.2) S25 (by omega) g2 ?_ ?_ hK
      · show (acc ++ (r.2.1 ++ (f (r.1 + 1)).2.1 ++ [(1 - tT σ r.1, 0)])).length + 1 ≤ (f (r.1 + 1)).1 + (if (f (r.1 + 1)).2.2 then 1 else 0)
        rw [List.length_append] at hb
        rw [List.length_append, List.length_append, List.length_append, List.length_singleton]
        omega
      · show CSt ad x σ N (f (r.1 + 1)).1 (acc ++ (r.2.1 ++ (f (r.1 + 1)).2.1 ++ [(1 - tT σ r.1, 0)])) (f (r.1 + 1)).2.2 q S25
        rw [← List.append_assoc, ← List.append_assoc]
        exact k25
    · by_cases e0 : r.2.2 = true
      · rw [if_pos e0] at hK; exact hK _ S h
      · rw [if_neg e0] at hK
        have e0' := Bool.eq_false_iff.mpr e0
        rw [e0'] at nl
        have nl : lvT (tT σ r.1) ≠ lv := nl
        rw [if_neg nl] at hK; exact hK _ S h
theorem c_lpb {ad : AD} {x : Nat} {σ : Sg} {N o lv : Nat} (hlv : lv < 5) (H : HC σ N) {f : Nat → PRs} {rec : Nat → Nat → Nat → Int32 → Int32 → HSt → (Unit → HSt → Prop) → Prop} (hW : CFn ad x σ N f (rec 0 (ad 10 10) (ad 12 0) (nI (lv + 1)) (nI o))) (hfok : ∀ i, i ≤ N → gdR N i (f i)) {K : Int32 → HSt → Prop} (acc : List (Int32 × Int32)) {q : Int32} : ∀ (k w : Nat) (r : PRs) (S : HSt), w + k = 1 → r.1 ≤ N → (acc ++ r.2.1).length + 1 ≤ r.1 + (if r.2.2 then 1 else 0) → CSt ad x σ N r.1 (acc ++ r.2.1) r.2.2 q S → (∀ w S', CSt ad x σ N (lpP (tT σ) f lv k r).1 (acc ++ (lpP (tT σ) f lv k r).2.1) (lpP (tT σ) f lv k r).2.2 q S' → K w S') → lp_X5_readLevel_66b rec (ad 10 10) (nI lv) (ad 12 0) (nI o) K (k + 1) (nI w) S := by
  intro k
  induction k with
  | zero =>
    intro w r S hk hr hb h hK
    exact ⟨fun _ => hK _ S h, fun z => absurd (nI_le (a := 1) (b := w) (by omega) (by omega)) z⟩
  | succ k ih =>
    intro w r S hk hr hb h hK
    unfold lpP at hK
    unfold lp_X5_readLevel_66b
    rw [h.2.2.2.1, nI_1]
    refine ⟨fun z => absurd z (nI_ge (a := w) (b := 1) (by omega) (by decide)), fun _ => c_lvq hlv (fun el => ⟨fun z => absurd rfl z, fun _ v16 e16 => ?_⟩) (fun nl r12 hr12 => ⟨fun _ => ?_, fun z => absurd z hr12⟩)⟩
    · have e0 : r.2.2 = false := by
        cases he : r.2.2 with
        | false => rfl
        | true =>
          rw [he] at el
          have el : lvT (-27) = lv := el
          rw [tk27] at el; omega
      rw [e0] at el hb
      have el : lvT (tT σ r.1) = lv := el
      have hb : (acc ++ r.2.1).length + 1 ≤ r.1 := hb
      have h' := h
      rw [e0] at h'
      rw [if_neg (Bool.eq_false_iff.mp e0), if_pos el] at hK
      have hlt : r.1 < N := by
        by_cases y : r.1 = N
        · rw [y, H.end] at el; rw [← el] at hlv; exact absurd hlv (by decide)
        · omega
      obtain ⟨g1, g2, g3, g4⟩ := hfok (r.1 + 1) hlt
      have e16 : v16 = tT σ r.1 := by rw [e16, h'.2.2.2.1]; rfl
      subst e16
      refine c_joint H hW hfok h' hlt hb (by omega) (fun S25 k25 v27 e27 => ?_)
      rw [nI_1] at e27
      subst e27
      refine ih (w + 1) ((f (r.1 + 1)).1, r.2.1 ++ (f (r.1 + 1)).2.1 ++ [(1 - tT σ r.1, 0)], (f (r.1 + 1)).2.2) S25 (by omega) g2 ?_ ?_ hK
      · show (acc ++ (r.2.1 ++ (f (r.1 + 1)).2.1 ++ [(1 - tT σ r.1, 0)])).length + 1 ≤ (f (r.1 + 1)).1 + (if (f (r.1 + 1)).2.2 then 1 else 0)
        rw [List.length_append] at hb
        rw [List.length_append, List.length_append, List.length_append, List.length_singleton]
        omega
      · show CSt ad x σ N (f (r.1 + 1)).1 (acc ++ (r.2.1 ++ (f (r.1 + 1)).2.1 ++ [(1 - tT σ r.1, 0)])) (f (r.1 + 1)).2.2 q S25
        rw [← List.append_assoc, ← List.append_assoc]
        exact k25
    · by_cases e0 : r.2.2 = true
      · rw [if_pos e0] at hK; exact hK _ S h
      · rw [if_neg e0] at hK
        have e0' := Bool.eq_false_iff.mpr e0
        rw [e0'] at nl
        have nl : lvT (tT σ r.1) ≠ lv := nl
        rw [if_neg nl] at hK; exact hK _ S h
