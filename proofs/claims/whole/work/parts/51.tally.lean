/-! the class works texts out -/
theorem CR.u1000 {ad : AD} {x : Nat} {S : HSt} {σ : Sg} (h : CR ad x S σ) (a : Nat) (v : Int32) : CR ad x (uI S 1000 a v) σ := ⟨h.1.ks (Ks_uI rfl) (fun _ _ => rfl), h.2⟩
theorem CR.u1001 {ad : AD} {x : Nat} {S : HSt} {σ : Sg} (h : CR ad x S σ) (a : Nat) (v : Int32) : CR ad x (uI S 1001 a v) σ := ⟨h.1.ks (Ks_uI rfl) (fun _ _ => rfl), h.2⟩
theorem CR.u1002 {ad : AD} {x : Nat} {S : HSt} {σ : Sg} (h : CR ad x S σ) (a : Nat) (v : Int32) : CR ad x (uI S 1002 a v) σ := ⟨h.1.ks (Ks_uI rfl) (fun _ _ => rfl), h.2⟩
theorem CR.u1003 {ad : AD} {x : Nat} {S : HSt} {σ : Sg} (h : CR ad x S σ) (a : Nat) (v : Int32) : CR ad x (uI S 1003 a v) σ := ⟨h.1.ks (Ks_uI rfl) (fun _ _ => rfl), h.2⟩
theorem CR.u1004 {ad : AD} {x : Nat} {S : HSt} {σ : Sg} (h : CR ad x S σ) (a : Nat) (v : Int32) : CR ad x (uI S 1004 a v) σ := ⟨h.1.ks (Ks_uI rfl) (fun _ _ => rfl), h.2⟩
theorem CR.u1005 {ad : AD} {x : Nat} {S : HSt} {σ : Sg} (h : CR ad x S σ) (a : Nat) (v : Int32) : CR ad x (uI S 1005 a v) σ := ⟨h.1.ks (Ks_uI rfl) (fun _ _ => rfl), h.2⟩
theorem CR.u263 {ad : AD} {x : Nat} {S : HSt} {σ : Sg} (h : CR ad x S σ) (a i : Nat) (v : Int32) : CR ad x (uA S 263 a i v) σ := ⟨h.1.ks (Ks_uA rfl) (fun _ _ => rfl), h.2⟩
theorem w_in {k a b : Nat} (ha : a ≤ k) (hb : k ≤ b) (h : b < 2 ^ 31) : nI a ≤ nI k ∧ nI k ≤ nI b := ⟨nI_le ha (by omega), nI_le hb h⟩
theorem bet_210 {o : Int32} (h : bet o 2 10) : o = 2 ∨ o = 3 ∨ o = 4 ∨ o = 5 ∨ o = 6 ∨ o = 7 ∨ o = 8 ∨ o = 9 ∨ o = 10 := by
  obtain ⟨h1, h2⟩ := h
  have key : ∀ k : Int32, o.toInt = k.toInt → o = k := fun k e => Int32.toInt_inj.mp e
  have e2 : (2 : Int32).toInt = 2 := by decide
  have e3 : (3 : Int32).toInt = 3 := by decide
  have e4 : (4 : Int32).toInt = 4 := by decide
  have e5 : (5 : Int32).toInt = 5 := by decide
  have e6 : (6 : Int32).toInt = 6 := by decide
  have e7 : (7 : Int32).toInt = 7 := by decide
  have e8 : (8 : Int32).toInt = 8 := by decide
  have e9 : (9 : Int32).toInt = 9 := by decide
  have e10 : (10 : Int32).toInt = 10 := by decide
  have : o.toInt = 2 ∨ o.toInt = 3 ∨ o.toInt = 4 ∨ o.toInt = 5 ∨ o.toInt = 6 ∨ o.toInt = 7 ∨ o.toInt = 8 ∨ o.toInt = 9 ∨ o.toInt = 10 := by omega
  rcases this with z | z | z | z | z | z | z | z | z
  · exact Or.inl (key 2 (z.trans e2.symm))
  · exact Or.inr (Or.inl (key 3 (z.trans e3.symm)))
  · exact Or.inr (Or.inr (Or.inl (key 4 (z.trans e4.symm))))
  · exact Or.inr (Or.inr (Or.inr (Or.inl (key 5 (z.trans e5.symm)))))
  · exact Or.inr (Or.inr (Or.inr (Or.inr (Or.inl (key 6 (z.trans e6.symm))))))
  · exact Or.inr (Or.inr (Or.inr (Or.inr (Or.inr (Or.inl (key 7 (z.trans e7.symm)))))))
  · exact Or.inr (Or.inr (Or.inr (Or.inr (Or.inr (Or.inr (Or.inl (key 8 (z.trans e8.symm))))))))
  · exact Or.inr (Or.inr (Or.inr (Or.inr (Or.inr (Or.inr (Or.inr (Or.inl (key 9 (z.trans e9.symm)))))))))
  · exact Or.inr (Or.inr (Or.inr (Or.inr (Or.inr (Or.inr (Or.inr (Or.inr (key 10 (z.trans e10.symm)))))))))
theorem bet_04 {v : Int32} (h : bet v 0 4) : v = 0 ∨ v = 1 ∨ v = 2 ∨ v = 3 ∨ v = 4 := by
  obtain ⟨h1, h2⟩ := h
  have key : ∀ k : Int32, v.toInt = k.toInt → v = k := fun k e => Int32.toInt_inj.mp e
  have e0 : (0 : Int32).toInt = 0 := by decide
  have e1 : (1 : Int32).toInt = 1 := by decide
  have e2 : (2 : Int32).toInt = 2 := by decide
  have e3 : (3 : Int32).toInt = 3 := by decide
  have e4 : (4 : Int32).toInt = 4 := by decide
  have : v.toInt = 0 ∨ v.toInt = 1 ∨ v.toInt = 2 ∨ v.toInt = 3 ∨ v.toInt = 4 := by omega
  rcases this with z | z | z | z | z
  · exact Or.inl (key 0 (z.trans e0.symm))
  · exact Or.inr (Or.inl (key 1 (z.trans e1.symm)))
  · exact Or.inr (Or.inr (Or.inl (key 2 (z.trans e2.symm))))
  · exact Or.inr (Or.inr (Or.inr (Or.inl (key 3 (z.trans e3.symm)))))
  · exact Or.inr (Or.inr (Or.inr (Or.inr (key 4 (z.trans e4.symm)))))
theorem two_2 (x y : Int32) : twoS 2 x y = if x = 0 then (if y = 0 then 0 else 1) else 1 := if_pos rfl
theorem two_3 (x y : Int32) : twoS 3 x y = if x = 0 then 0 else if y = 0 then 0 else 1 := by unfold twoS; rw [if_neg (by decide), if_pos rfl]
theorem two_5 (x y : Int32) : twoS 5 x y = if y ≤ x then 0 else 1 := by unfold twoS; rw [if_neg (by decide), if_neg (by decide), if_neg (by decide), if_pos rfl]
theorem two_6 (x y : Int32) : twoS 6 x y = if x = y then 1 else 0 := by unfold twoS; rw [if_neg (by decide), if_neg (by decide), if_neg (by decide), if_neg (by decide), if_pos rfl]
theorem two_7 (x y : Int32) : twoS 7 x y = x + y := by unfold twoS; rw [if_neg (by decide), if_neg (by decide), if_neg (by decide), if_neg (by decide), if_neg (by decide), if_pos rfl]
theorem two_8 (x y : Int32) : twoS 8 x y = x - y := by unfold twoS; rw [if_neg (by decide), if_neg (by decide), if_neg (by decide), if_neg (by decide), if_neg (by decide), if_neg (by decide), if_pos rfl]
theorem two_9 (x y : Int32) : twoS 9 x y = x * y := by unfold twoS; rw [if_neg (by decide), if_neg (by decide), if_neg (by decide), if_neg (by decide), if_neg (by decide), if_neg (by decide), if_neg (by decide)]
theorem c_joined {o a b : Int32} (ho : bet o 2 10) (n4 : ¬ o = 4) (n10 : ¬ o = 10) {S : HSt} {Post : Int32 → HSt → Prop} (hp : Post (twoS o a b) S) : wp_X9_joined (1 - o) a b S Post := by
  unfold wp_X9_joined
  rcases bet_210 ho with rfl | rfl | rfl | rfl | rfl | rfl | rfl | rfl | rfl
  · rw [two_2] at hp
    repeat (refine ⟨fun e => absurd e (by decide), fun _ => ?_⟩)
    refine ⟨fun _ => ⟨fun na => ?_, fun a0 => ⟨fun b0 => ?_, fun nb => ?_⟩⟩, fun n => absurd (by decide) n⟩
    · rw [if_neg na] at hp; exact hp
    · rw [if_pos a0, if_pos b0] at hp; exact hp
    · rw [if_pos a0, if_neg nb] at hp; exact hp
  · rw [two_3] at hp
    repeat (refine ⟨fun e => absurd e (by decide), fun _ => ?_⟩)
    refine ⟨fun _ => ⟨fun a0 => ?_, fun na => ⟨fun b0 => ?_, fun nb => ?_⟩⟩, fun n => absurd (by decide) n⟩
    · rw [if_pos a0] at hp; exact hp
    · rw [if_neg na, if_pos b0] at hp; exact hp
    · rw [if_neg na, if_neg nb] at hp; exact hp
  · exact absurd rfl n4
  · rw [two_5] at hp
    repeat (refine ⟨fun e => absurd e (by decide), fun _ => ?_⟩)
    refine ⟨fun _ => ⟨fun le => ?_, fun nl => ?_⟩, fun n => absurd (by decide) n⟩
    · rw [if_pos le] at hp; exact hp
    · rw [if_neg nl] at hp; exact hp
  · rw [two_6] at hp
    repeat (refine ⟨fun e => absurd e (by decide), fun _ => ?_⟩)
    refine ⟨fun _ => ⟨fun ne => ?_, fun e => ?_⟩, fun n => absurd (by decide) n⟩
    · rw [if_neg ne] at hp; exact hp
    · rw [if_pos e] at hp; exact hp
  · rw [two_7] at hp
    repeat (refine ⟨fun e => absurd e (by decide), fun _ => ?_⟩)
    exact ⟨fun _ => hp, fun n => absurd (by decide) n⟩
  · rw [two_8] at hp
    repeat (refine ⟨fun e => absurd e (by decide), fun _ => ?_⟩)
    exact ⟨fun _ => hp, fun n => absurd (by decide) n⟩
  · rw [two_9] at hp
    exact ⟨fun _ => hp, fun n => absurd (by decide) n⟩
  · exact absurd rfl n10
theorem CR.tl {ad : AD} {x : Nat} {S : HSt} {σ : Sg} (h : CR ad x S σ) : gR S 1006 (ad 10 11) = some (ad 10 23) ∧ gK S (ad 10 23) = 263 ∧ gN S (ad 10 23) = 160 := h.1.g 1006 11 23 263 160
/-- what the stack has -/
def TT (ad : AD) (S : HSt) (h : Nat) (p : Nat → Int32) : Prop := ∀ i, i < h → gA S 263 (ad 10 23) i = p i
theorem TT.up {ad : AD} {S : HSt} {h k : Nat} {p : Nat → Int32} {v : Int32} (t : TT ad S h p) (hk : ∀ i, i < k → i ≠ h → i < h) : ∀ q, q = h → TT ad (uA S 263 (ad 10 23) q v) k (upd p h v) := by
  intro q e i hi
  subst e
  rw [gA_uA, if_pos ⟨rfl, rfl⟩]
  by_cases h9 : i = q
  · subst h9; rw [pk_us, pk_us]
  · rw [pk_un h9, pk_un h9]; exact t i (hk i hi h9)
theorem TT.up2 {ad : AD} {S : HSt} {h k j : Nat} {p : Nat → Int32} {v : Int32} (t : TT ad S h p) (hk : k ≤ h) : TT ad (uA S 263 (ad 10 23) j v) k (upd p j v) := by
  intro i hi
  rw [gA_uA, if_pos ⟨rfl, rfl⟩]
  by_cases h9 : i = j
  · subst h9; rw [pk_us, pk_us]
  · rw [pk_un h9, pk_un h9]; exact t i (by omega)
theorem c_turn4 {ad : AD} {x : Nat} {S : HSt} {σ : Sg} (h : CR ad x S σ) {k : Nat} (h1 : 1 ≤ k) (h2 : k ≤ 160) {Post : Int32 → HSt → Prop} (hp : Post (nI k) (uA S 263 (ad 10 23) (k - 1) (if gA S 263 (ad 10 23) (k - 1) = 0 then 1 else 0))) : wp_X9_turn (ad 10 11) (-3) (nI k) S Post := by
  obtain ⟨e1, e2, e3⟩ := h.tl
  have hin : vp_in (nI k - 1) (gN S (ad 10 23)) := by rw [e3, nI_pr (by omega)]; exact vp_in_nI (by omega) (by decide)
  have hc : (nI k - 1).toNatClampNeg = k - 1 := by rw [nI_pr (by omega), nI_clamp (by omega)]
  refine c_within (fun _ => bs1 ⟨_, e1, e2, hin, fun v9 ev => ⟨_, e1, fun _ => ⟨fun n => ⟨e2, hin, fun S17 e17 => ?_⟩, fun z => ⟨e2, hin, fun S22 e22 => ?_⟩⟩, fun z => absurd z (by decide)⟩⟩) (fun nz => absurd (w_in (a := 1) (b := 160) h1 h2 (by decide)) nz)
  · rw [hc] at ev e17
    rw [e17]; rw [if_neg (by rw [← ev]; exact n)] at hp; exact hp
  · rw [hc] at ev e22
    rw [e22]; rw [if_pos (by rw [← ev]; exact z)] at hp; exact hp
theorem c_turn10 {ad : AD} {x : Nat} {S : HSt} {σ : Sg} (h : CR ad x S σ) {k : Nat} (h1 : 1 ≤ k) (h2 : k ≤ 160) {Post : Int32 → HSt → Prop} (hp : Post (nI k) (uA S 263 (ad 10 23) (k - 1) (-(gA S 263 (ad 10 23) (k - 1))))) : wp_X9_turn (ad 10 11) (-9) (nI k) S Post := by
  obtain ⟨e1, e2, e3⟩ := h.tl
  have hin : vp_in (nI k - 1) (gN S (ad 10 23)) := by rw [e3, nI_pr (by omega)]; exact vp_in_nI (by omega) (by decide)
  have hc : (nI k - 1).toNatClampNeg = k - 1 := by rw [nI_pr (by omega), nI_clamp (by omega)]
  refine c_within (fun _ => bs1 ⟨_, e1, e2, hin, fun v9 ev => ⟨_, e1, fun n => absurd rfl n, fun z => ⟨e2, hin, fun S27 e27 => ?_⟩⟩⟩) (fun nz => absurd (w_in (a := 1) (b := 160) h1 h2 (by decide)) nz)
  rw [hc] at ev e27
  rw [e27, ev]; exact hp
theorem c_join {ad : AD} {x : Nat} {S : HSt} {σ : Sg} (h : CR ad x S σ) {o : Int32} (ho : bet o 2 10) (n4 : ¬ o = 4) (n10 : ¬ o = 10) {k : Nat} (h1 : 2 ≤ k) (h2 : k ≤ 160) {Post : Int32 → HSt → Prop} (hp : Post (nI (k - 1)) (uA S 263 (ad 10 23) (k - 2) (twoS o (gA S 263 (ad 10 23) (k - 2)) (gA S 263 (ad 10 23) (k - 1))))) : wp_X9_join (ad 10 11) (1 - o) (nI k) S Post := by
  obtain ⟨e1, e2, e3⟩ := h.tl
  have q2 : nI k - 2 = nI (k - 2) := nI_sub (a := k) (b := 2) (by omega)
  have hin1 : vp_in (nI k - 1) (gN S (ad 10 23)) := by rw [e3, nI_pr (by omega)]; exact vp_in_nI (by omega) (by decide)
  have hin2 : vp_in (nI k - 2) (gN S (ad 10 23)) := by rw [e3, q2]; exact vp_in_nI (by omega) (by decide)
  have hc1 : (nI k - 1).toNatClampNeg = k - 1 := by rw [nI_pr (by omega), nI_clamp (by omega)]
  have hc2 : (nI k - 2).toNatClampNeg = k - 2 := by rw [q2, nI_clamp (by omega)]
  refine c_within (fun _ => br1 ⟨_, e1, _, e1, e2, hin2, _, e1, e2, hin1, c_joined ho n4 n10 ⟨e2, hin2, fun S20 e20 => ?_⟩⟩) (fun nz => absurd (w_in (a := 2) (b := 160) h1 h2 (by decide)) nz)
  rw [hc1, hc2] at e20
  rw [e20, nI_pr (by omega)]; exact hp
/-- what the tally knows of the hour -/
def TF (ad : AD) (S : HSt) (σ : Sg) (c hr : Nat) (over : Int32) : Prop := gI S 1000 (ad 10 11) = over ∧ gI S 1003 (ad 10 11) = dD σ 1312 (2000 * shS σ c + hr) ∧ gI S 1004 (ad 10 11) = nI hr ∧ gI S 1005 (ad 10 11) = nI hr - dD σ 1332 c
theorem TF.gi {ad : AD} {S S' : HSt} {σ : Sg} {c hr : Nat} {over : Int32} (t : TF ad S σ c hr over) (e : gI S' = gI S) : TF ad S' σ c hr over := by
  unfold TF; rw [e]; exact t
theorem c_named {ad : AD} {S : HSt} {σ : Sg} {c hr : Nat} {over v : Int32} (t : TF ad S σ c hr over) (hv : bet v 0 4) {Post : Int32 → HSt → Prop} (hp : Post (nmS σ c hr over v) S) : wp_X9_named (ad 10 11) (-10 - v) S Post := by
  obtain ⟨f0, f3, f4, f5⟩ := t
  unfold wp_X9_named
  unfold nmS at hp
  rw [f0, f3, f4, f5]
  rcases bet_04 hv with rfl | rfl | rfl | rfl | rfl
  · rw [if_pos rfl] at hp
    repeat (refine ⟨fun e => absurd e (by decide), fun _ => ?_⟩)
    exact ⟨fun _ => hp, fun n => absurd (by decide) n⟩
  · rw [if_neg (by decide), if_pos rfl] at hp
    repeat (refine ⟨fun e => absurd e (by decide), fun _ => ?_⟩)
    exact ⟨fun _ => hp, fun n => absurd (by decide) n⟩
  · rw [if_neg (by decide), if_neg (by decide), if_pos rfl] at hp
    repeat (refine ⟨fun e => absurd e (by decide), fun _ => ?_⟩)
    exact ⟨fun _ => hp, fun n => absurd (by decide) n⟩
  · rw [if_neg (by decide), if_neg (by decide), if_neg (by decide), if_pos rfl] at hp
    repeat (refine ⟨fun e => absurd e (by decide), fun _ => ?_⟩)
    exact ⟨fun _ => hp, fun n => absurd (by decide) n⟩
  · rw [if_neg (by decide), if_neg (by decide), if_neg (by decide), if_neg (by decide)] at hp
    exact ⟨fun _ => hp, fun n => absurd (by decide) n⟩
theorem c_step {ad : AD} {x : Nat} {S : HSt} {σ : Sg} (h : CR ad x S σ) {c hr : Nat} {over : Int32} (t : TF ad S σ c hr over) {o v : Int32} (ok : okC o v) {k : Nat} {Post : Int32 → HSt → Prop} (push : (o = 0 ∨ o = 1) → k ≤ 159 ∧ Post (nI (k + 1)) (uA S 263 (ad 10 23) k (if o = 0 then v else nmS σ c hr over v))) (turn : (o = 4 ∨ o = 10) → 1 ≤ k ∧ k ≤ 160 ∧ Post (nI k) (uA S 263 (ad 10 23) (k - 1) (if o = 4 then (if gA S 263 (ad 10 23) (k - 1) = 0 then 1 else 0) else -(gA S 263 (ad 10 23) (k - 1))))) (join : ¬ (o = 0 ∨ o = 1) → ¬ (o = 4 ∨ o = 10) → 2 ≤ k ∧ k ≤ 160 ∧ Post (nI (k - 1)) (uA S 263 (ad 10 23) (k - 2) (twoS o (gA S 263 (ad 10 23) (k - 2)) (gA S 263 (ad 10 23) (k - 1))))) : wp_X9_step (ad 10 11) (encO o v) (nI k) S Post := by
  obtain ⟨e1, e2, e3⟩ := h.tl
  unfold wp_X9_step
  rcases ok with ⟨rfl, hv⟩ | ⟨rfl, hv⟩ | ⟨ho, rfl⟩
  · obtain ⟨k1, hp⟩ := push (Or.inl rfl)
    rw [if_pos rfl] at hp
    have ec : encO 0 v = v := if_pos rfl
    rw [ec]
    have z0 : (0 : Int32).toInt = 0 := by decide
    have z1 : (-1 : Int32).toInt = -1 := by decide
    have hge : ¬ v < 0 := by rw [i_nlt, i_le, z0]; exact hv.1
    have n3 : ¬ v = -3 := fun z => hge (by rw [z]; decide)
    have n9 : ¬ v = -9 := fun z => hge (by rw [z]; decide)
    have hin : vp_in (nI k) (gN S (ad 10 23)) := by rw [e3]; exact vp_in_nI (by omega) (by decide)
    refine ⟨fun z => absurd z n3, fun _ => ⟨fun _ => c_within (fun ab => ?_) (fun _ => ⟨bool0, bs0 (c_within (fun _ => br1 ⟨_, e1, fun z => absurd z hge, fun _ => ⟨e2, hin, fun S27 e27 => ?_⟩⟩) (fun nz => absurd (w_in (a := 0) (b := 159) (Nat.zero_le k) k1 (by decide)) nz))⟩), fun z => absurd z n9⟩⟩
    · have := (i_le _ _).mp ab.2
      rw [z1] at this
      have := hv.1
      omega
    · rw [nI_clamp (by omega)] at e27
      rw [e27, nI_1]; exact hp
  · obtain ⟨k1, hp⟩ := push (Or.inr rfl)
    rw [if_neg (by decide)] at hp
    have ec : encO 1 v = -10 - v := by unfold encO; rw [if_neg (by decide), if_pos rfl]
    rw [ec]
    have F : ¬ (-10 - v) = -3 ∧ ¬ (-10 - v) = -9 ∧ ¬ (-8 ≤ (-10 - v) ∧ (-10 - v) ≤ -1) ∧ (-10 - v) < 0 := by
      rcases bet_04 hv with rfl | rfl | rfl | rfl | rfl <;> decide
    have hin : vp_in (nI k) (gN S (ad 10 23)) := by rw [e3]; exact vp_in_nI (by omega) (by decide)
    refine ⟨fun z => absurd z F.1, fun _ => ⟨fun _ => c_within (fun ab => absurd ab F.2.2.1) (fun _ => ⟨bool0, bs0 (c_within (fun _ => br1 ⟨_, e1, fun _ => c_named t hv ⟨e2, hin, fun S22 e22 => ?_⟩, fun z => absurd F.2.2.2 z⟩) (fun nz => absurd (w_in (a := 0) (b := 159) (Nat.zero_le k) k1 (by decide)) nz))⟩), fun z => absurd z F.2.1⟩⟩
    rw [nI_clamp (by omega)] at e22
    rw [e22, nI_1]; exact hp
  · have ec : encO o 0 = 1 - o := by
      unfold encO
      have n0 : ¬ o = 0 := fun z => by have := ho.1; rw [z] at this; revert this; decide
      have n1 : ¬ o = 1 := fun z => by have := ho.1; rw [z] at this; revert this; decide
      rw [if_neg n0, if_neg n1]
    rw [ec]
    by_cases h4 : o = 4
    · subst h4
      obtain ⟨k1, k2, hp⟩ := turn (Or.inl rfl)
      rw [if_pos rfl] at hp
      exact ⟨fun _ => c_turn4 h k1 k2 hp, fun n => absurd (by decide) n⟩
    · by_cases h10 : o = 10
      · subst h10
        obtain ⟨k1, k2, hp⟩ := turn (Or.inr rfl)
        rw [if_neg (by decide)] at hp
        exact ⟨fun z => absurd z (by decide), fun _ => ⟨fun n => absurd (by decide) n, fun _ => c_turn10 h k1 k2 hp⟩⟩
      · have n01 : ¬ (o = 0 ∨ o = 1) := by
          rcases bet_210 ho with rfl | rfl | rfl | rfl | rfl | rfl | rfl | rfl | rfl <;> decide
        obtain ⟨k1, k2, hp⟩ := join n01 (fun z => z.elim h4 h10)
        have F : ¬ (1 - o) = -3 ∧ ¬ (1 - o) = -9 ∧ (-8 ≤ (1 - o) ∧ (1 - o) ≤ -1) := by
          rcases bet_210 ho with rfl | rfl | rfl | rfl | rfl | rfl | rfl | rfl | rfl
          · decide
          · decide
          · exact absurd rfl h4
          · decide
          · decide
          · decide
          · decide
          · decide
          · exact absurd rfl h10
        exact ⟨fun z => absurd z F.1, fun _ => ⟨fun _ => c_within (fun _ => ⟨bool1, bs1 (c_join h ho h4 h10 k1 k2 hp)⟩) (fun nz => absurd F.2.2 nz), fun z => absurd z F.2.1⟩⟩
theorem c_worth_lp {ad : AD} {x : Nat} {σ : Sg} (hi : Inv σ) {c hr t : Nat} (ht : t < cN σ 3) (over : Int32) {e hf : Nat} (he2 : e ≤ p2T σ t) {K : Int32 → Int32 → HSt → Prop} : ∀ (n a h : Nat) (p : Nat → Int32) (S : HSt), a + n = e → h ≤ a → hg (opT σ t) a n h = some hf → CR ad x S σ → TF ad S σ c hr over → TT ad S h p → (∀ S', CR ad x S' σ → gI S' = gI S → TT ad S' hf (evF (opT σ t) (vlT σ t) (nmS σ c hr over) n a p h) → K (nI e) (nI hf) S') → lp_X9_worth_6a (nI e) (ad 5 t) (ad 10 11) K (n + 1) (nI a) (nI h) S := by
  have h3 := hi.1.2.2.2.1.2
  obtain ⟨k0, k1, k2, k3, k4, k5, k6⟩ := okT_of hi ht
  obtain ⟨e2, l2⟩ := bet_nI (b := 160) k2
  have l2 : p2T σ t ≤ 160 := l2
  intro n
  induction n with
  | zero =>
    intro a h p S ea hha hgg hC hF hT hK
    have hgg : some h = some hf := hgg
    cases hgg
    have : a = e := by omega
    subst this
    exact ⟨fun _ => hK S hC rfl hT, fun z => absurd (Int32.le_refl _) z⟩
  | succ n ih =>
    intro a h p S ea hha hgg hC hF hT hK
    obtain ⟨a1, a2, a3, a4, a5, a6, a7, a8, a9⟩ := hC.2.2.2.2.2.2.2.1.1 t ht
    have hlt : a < p2T σ t := by omega
    have ec : gA S 251 (ad 6 t) a = encO (opT σ t a) (vlT σ t a) := a9 a hlt
    have e8 : gI S 1102 (ad 5 t) = nI (p2T σ t) := a8.trans e2
    have hok : okC (opT σ t a) (vlT σ t a) := k4 a hlt
    unfold hg at hgg
    refine ⟨fun z => absurd z (nI_ge (by omega) (by omega)), fun _ => ⟨fun z => absurd z (nI_pos (by omega)), fun _ => ⟨fun z => absurd (e8 ▸ z) (nI_ge hlt (by omega)), fun _ => ⟨_, a3, a4, by rw [a5]; exact vp_in_nI (by omega) (by decide), ?_⟩⟩⟩⟩
    rw [nI_clamp (by omega), ec]
    refine c_step hC hF hok (fun z => ?_) (fun z => ?_) (fun n01 n410 => ?_)
    · rw [if_pos z] at hgg
      refine ⟨by omega, fun v13 e13 => ?_⟩
      rw [e13, nI_1]
      refine ih (a + 1) (h + 1) _ _ (by omega) (by omega) hgg (hC.u263 _ _ _) (hF.gi rfl) (hT.up (k := h + 1) (fun i hi1 hi2 => by omega) h rfl) (fun S' c1 c2 c3 => hK S' c1 c2 ?_)
      unfold evF
      by_cases z0 : opT σ t a = 0
      · rw [if_pos z0]; rw [if_pos z0] at c3; exact c3
      · rw [if_neg z0, if_pos (z.resolve_left z0)]; rw [if_neg z0] at c3; exact c3
    · have n01 : ¬ (opT σ t a = 0 ∨ opT σ t a = 1) := by
        rcases z with z | z <;> rw [z] <;> decide
      rw [if_neg n01, if_pos z] at hgg
      split at hgg
      case isFalse => cases hgg
      rename_i h1
      refine ⟨h1, by omega, fun v13 e13 => ?_⟩
      rw [e13, nI_1]
      refine ih (a + 1) h _ _ (by omega) (by omega) hgg (hC.u263 _ _ _) (hF.gi rfl) (hT.up2 (Nat.le_refl _)) (fun S' c1 c2 c3 => hK S' c1 c2 ?_)
      unfold evF
      rw [if_neg (fun q => n01 (Or.inl q)), if_neg (fun q => n01 (Or.inr q))]
      rw [hT (h - 1) (by omega)] at c3
      by_cases z4 : opT σ t a = 4
      · rw [if_pos z4]; rw [if_pos z4] at c3; exact c3
      · rw [if_neg z4, if_pos (z.resolve_left z4)]; rw [if_neg z4] at c3; exact c3
    · rw [if_neg n01, if_neg n410] at hgg
      split at hgg
      case isFalse => cases hgg
      rename_i h2
      refine ⟨h2, by omega, fun v13 e13 => ?_⟩
      rw [e13, nI_1]
      refine ih (a + 1) (h - 1) _ _ (by omega) (by omega) hgg (hC.u263 _ _ _) (hF.gi rfl) (hT.up2 (by omega)) (fun S' c1 c2 c3 => hK S' c1 c2 ?_)
      unfold evF
      rw [if_neg (fun q => n01 (Or.inl q)), if_neg (fun q => n01 (Or.inr q)), if_neg (fun q => n410 (Or.inl q)), if_neg (fun q => n410 (Or.inr q))]
      rw [hT (h - 1) (by omega), hT (h - 2) (by omega)] at c3
      exact c3
theorem c_worth {ad : AD} {x : Nat} {S : HSt} {σ : Sg} (h : CR ad x S σ) (hi : Inv σ) {c hr : Nat} (hc : c < cN σ 4) {over : Int32} (hF : TF ad S σ c hr over) (wh : Bool) {a b : Int32} (ha : a = if wh then nI (p1T σ (txN σ c)) else 0) (hb : b = if wh then nI (p2T σ (txN σ c)) else nI (p1T σ (txN σ c))) {Post : Int32 → HSt → Prop} (hP : ∀ S', CR ad x S' σ → gI S' = gI S → Post (wkS σ c wh hr over) S') : wp_X9_worth (ad 10 11) (ad 5 (txN σ c)) a b S Post := by
  obtain ⟨ot, tl⟩ := tx_ok hi hc
  obtain ⟨k0, k1, k2, k3, k4, k5, k6⟩ := okT_of hi tl
  have p12 : p1T σ (txN σ c) ≤ p2T σ (txN σ c) := k3
  subst ha hb
  have fin : ∀ S', CR ad x S' σ → ∀ v, gA S' 263 (ad 10 23) 0 = v → Post v S' → wp_X11_within (nI 1) (1 : Int32) (160 : Int32) S' (fun (r17 : Int32) (S18 : HSt) => ((r17 = 0 → Post (0 : Int32) S18) ∧ (¬ r17 = 0 → ∃ b21 : Nat, gR S18 1006 (ad 10 11) = some b21 ∧ gK S18 b21 = 263 ∧ vp_in (nI 1 - (1 : Int32)) (gN S18 b21) ∧ Post (gA S18 263 b21 ((nI 1 - (1 : Int32))).toNatClampNeg) S18))) := by
    intro S' hC v ev hp
    obtain ⟨e1, e2, e3⟩ := hC.tl
    refine c_within (fun _ => bs1 ⟨_, e1, e2, ?_, ?_⟩) (fun nz => absurd (w_in (k := 1) (a := 1) (b := 160) (by decide) (by decide) (by decide)) nz)
    · rw [e3]; exact vp_in_nI (n := 0) (by decide) (by decide)
    · rw [show ((nI 1 - (1 : Int32))).toNatClampNeg = 0 by decide, ev]; exact hp
  cases wh with
  | false =>
    simp only [Bool.false_eq_true, if_false]
    refine ⟨p1T σ (txN σ c) + 1, c_worth_lp hi (c := c) (hr := hr) tl over (hf := 1) p12 (p1T σ (txN σ c)) 0 0 (fun _ => 0) S (by omega) (Nat.le_refl _) k5 h hF (fun i hi' => absurd hi' (Nat.not_lt_zero i)) (fun S' c1 c2 c3 => fin S' c1 _ (c3 0 (by decide)) (hP S' c1 c2))⟩
  | true =>
    simp only [if_true]
    refine ⟨p2T σ (txN σ c) - p1T σ (txN σ c) + 1, c_worth_lp hi (c := c) (hr := hr) tl over (hf := 1) (Nat.le_refl _) (p2T σ (txN σ c) - p1T σ (txN σ c)) (p1T σ (txN σ c)) 0 (fun _ => 0) S (by omega) (Nat.zero_le _) k6 h hF (fun i hi' => absurd hi' (Nat.not_lt_zero i)) (fun S' c1 c2 c3 => fin S' c1 _ (c3 0 (by decide)) (hP S' c1 c2))⟩
