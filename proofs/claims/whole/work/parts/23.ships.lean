/-! arithmetic of places -/
theorem ix_lit {n : Nat} (h : n < 2 ^ 31) : ix (nI n) = n := nI_clamp h
theorem ix_add {a b : Int32} {i j : Nat} (ha : a = nI i) (hb : b = nI j) (h : i + j < 2 ^ 31) : ix (a + b) = i + j := by subst ha hb; rw [nI_add]; exact nI_clamp h
theorem eq_mul {a : Int32} {k i : Nat} (ha : a = nI i) : nI k * a = nI (k * i) := by subst ha; exact pk_mul k i
theorem eq_add {a b : Int32} {i j : Nat} (ha : a = nI i) (hb : b = nI j) : a + b = nI (i + j) := by subst ha hb; exact nI_add i j
theorem ix_8 {a b : Int32} {n : Nat} (ha : okN a n) (hb : okN b n) (hn : n ≤ 8) : ix ((8 : Int32) * a + b) = 8 * ix a + ix b := by
  have h1 := okN_lt ha (by omega); have h2 := okN_lt hb (by omega)
  exact ix_add (eq_mul (k := 8) (okN_eq ha (by omega))) (okN_eq hb (by omega)) (by omega)
theorem in_8 {a b : Int32} {n : Nat} (ha : okN a n) (hb : okN b n) (hn : n ≤ 8) : vp_in ((8 : Int32) * a + b) 64 := by
  have h1 := okN_lt ha (by omega); have h2 := okN_lt hb (by omega)
  show vp_in (nI 8 * a + b) 64
  rw [eq_add (eq_mul (k := 8) (okN_eq ha (by omega))) (okN_eq hb (by omega))]
  exact vp_in_nI (by omega) (by decide)
theorem bet_nI {v : Int32} {b : Nat} (h : bet v 0 b) (hb : b < 2 ^ 31 := by decide) : v = nI (ix v) ∧ ix v ≤ b := by
  obtain ⟨h1, h2⟩ := h
  have h0 : ¬ v < 0 := fun z => by rw [i_lt] at z; simp at z; omega
  obtain ⟨j, hj, rfl⟩ := nI_of h0
  rw [nI_toInt hj] at h2
  rw [ix_nI hj]
  exact ⟨rfl, by omega⟩
theorem ok_of_bet {v : Int32} {a b : Int} (h : bet v a b) (ha : 0 ≤ a) : ¬ v < 0 := fun z => by
  obtain ⟨h1, h2⟩ := h
  rw [i_lt] at z; simp at z; omega
/-! miles of ports -/
theorem c_milesTo {ad : AD} {x : Nat} {S : HSt} {σ : Sg} (h : CR ad x S σ) (hn : cN σ 0 ≤ 8) {i j : Nat} (hi : i < cN σ 0) (hj : j < cN σ 0) {Post : Int32 → HSt → Prop} (hp : Post (dD σ 1303 (8 * i + j)) S) : wp_X3_milesTo (ad 0 i) (ad 0 j) S Post := by
  obtain ⟨a1, a2, a3, a4, a5, a6, a7, a8, a9⟩ := h.2.2.1.1 i hi
  obtain ⟨b1, b2, b3, b4, b5, b6, b7, b8, b9⟩ := h.2.2.1.1 j hj
  intro v e
  rw [b6] at e; subst e
  refine ⟨fun z => absurd z (nI_pos (by omega)), fun _ => ⟨fun z => absurd z ((i_nle _ _).mpr (nI_lt (b := 8) (by omega) (by decide))), fun _ => ⟨_, a3, a4, by rw [a5]; exact vp_in_nI (by omega) (by decide), ?_⟩⟩⟩
  rw [show (nI j).toNatClampNeg = j from nI_clamp (by omega), a9 j (by omega)]
  exact hp
theorem c_putMiles {ad : AD} {x : Nat} {S : HSt} {σ : Sg} (h : CR ad x S σ) (hn : cN σ 0 ≤ 8) {i j : Nat} (hi : i < cN σ 0) (hj : j < cN σ 0) {v : Int32} {Post : Unit → HSt → Prop} (hp : Post () (uA S 250 (ad 1 i) j v)) : wp_X3_putMiles (ad 0 i) (ad 0 j) v S Post := by
  obtain ⟨a1, a2, a3, a4, a5, a6, a7, a8, a9⟩ := h.2.2.1.1 i hi
  obtain ⟨b1, b2, b3, b4, b5, b6, b7, b8, b9⟩ := h.2.2.1.1 j hj
  intro w e
  rw [b6] at e; subst e
  refine ⟨fun z => absurd z (nI_pos (by omega)), fun _ => ⟨fun z => absurd z ((i_nle _ _).mpr (nI_lt (b := 8) (by omega) (by decide))), fun _ => ⟨_, a3, a4, by rw [a5]; exact vp_in_nI (by omega) (by decide), fun S9 e => ?_⟩⟩⟩
  rw [show (nI j).toNatClampNeg = j from nI_clamp (by omega)] at e
  subst e; exact hp
theorem CR.miles {ad : AD} {x : Nat} {S : HSt} {σ : Sg} (h : CR ad x S σ) (hn : cN σ 0 ≤ 8) {i j : Nat} (hi : i < cN σ 0) (hj : j < 8) (v : Int32) : CR ad x (uA S 250 (ad 1 i) j v) (sD σ 1303 (8 * i + j) v) := by
  refine ⟨h.1.ks (Ks_uA rfl) (fun _ _ => rfl), h.2.1, ⟨fun k hk => ?_, h.2.2.1.2⟩, h.2.2.2⟩
  obtain ⟨a1, a2, a3, a4, a5, a6, a7, a8, a9⟩ := h.2.2.1.1 k hk
  refine ⟨a1, a2, a3, a4, a5, a6, a7, a8, fun q hq => ?_⟩
  rw [gA_uA, dD_same]
  by_cases hki : k = i
  · subst hki
    rw [if_pos ⟨rfl, rfl⟩]
    by_cases hqj : q = j
    · subst hqj; rw [if_pos rfl]; simp [upd]
    · rw [if_neg (by omega)]; simp [upd, hqj]; exact a9 q hq
  · rw [if_neg (fun z => hki (h.2.2.1.2 k i hk hi z.2)), if_neg (by omega)]
    exact a9 q hq
/-! way -/
def st_way (σ : Sg) (a b v : Int32) : Int32 × Sg := if okN a (cN σ 0) then if okN b (cN σ 0) then if a = b then (-2, σ) else if 1 ≤ v ∧ v ≤ 9999 then (dD σ 1303 (8 * ix a + ix b), sD (sD σ 1303 (8 * ix a + ix b) v) 1303 (8 * ix b + ix a) v) else (-2, σ) else (-2, σ) else (-2, σ)
theorem r_way {g : Nat → Nat} {m : Nat} {S : HSt} {σ : Sg} (h : MR g m S σ) (hi : Inv σ) (a b v : Int32) : wp_X12_way g m a b v S (fun r S' => r = (st_way σ a b v).1 ∧ MR g m S' (st_way σ a b v).2) := by
  have hn := hi.1.1
  unfold wp_X12_way st_way
  refine r_isPort h (by omega) (fun oa => bs1 (r_isPort h (by omega) (fun ob => bs1 ⟨fun e => ?_, fun e => r_in (fun iv => br1 ?_) (fun iv => br0 ?_)⟩) (fun ob => bs0 ?_))) (fun oa => bs0 ?_)
  · rw [if_pos oa, if_pos ob, if_pos e]; exact ⟨rfl, h⟩
  · refine ⟨in_8 oa ob hn, fun v15 e1 => ⟨in_8 oa ob hn, fun S18 e2 => ⟨in_8 ob oa hn, fun S22 e3 => ?_⟩⟩⟩
    subst e1 e2 e3
    rw [if_pos oa, if_pos ob, if_neg e, if_pos iv]
    rw [show ((8 : Int32) * a + b).toNatClampNeg = 8 * ix a + ix b from ix_8 oa ob hn, show ((8 : Int32) * b + a).toNatClampNeg = 8 * ix b + ix a from ix_8 ob oa hn]
    exact ⟨h.a 1303 203 _, (h.pA 1303 203 _ v).pA 1303 203 _ v⟩
  · rw [if_pos oa, if_pos ob, if_neg e, if_neg iv]; exact ⟨rfl, h⟩
  · rw [if_pos oa, if_neg ob]; exact ⟨rfl, h⟩
  · rw [if_neg oa]; exact ⟨rfl, h⟩
theorem c_way {ad : AD} {x : Nat} {S : HSt} {σ : Sg} (h : CR ad x S σ) (hi : Inv σ) (a b v : Int32) : wp_X11_way x a b v S (fun r S' => r = (st_way σ a b v).1 ∧ ∃ ad', CR ad' x S' (st_way σ a b v).2) := by
  have hn := hi.1.1
  unfold wp_X11_way st_way
  refine c_portAt h hi (fun oa => c_portAt h hi (fun ob => ⟨fun z => (by cases z), fun b7 e7 => ⟨fun z => (by cases z), fun b9 e9 => ⟨fun e => ?_, fun e => c_within (fun iv => br1 ?_) (fun iv => br0 ?_)⟩⟩⟩) (fun ob => ⟨fun z => (by cases z), fun b7 e7 => ⟨fun _ => ?_, fun b9 e9 => (by cases e9)⟩⟩)) (fun oa => c_portAt h hi (fun ob => ⟨fun _ => ?_, fun b7 e7 => (by cases e7)⟩) (fun ob => ⟨fun _ => ?_, fun b7 e7 => (by cases e7)⟩))
  · rw [if_pos oa, if_pos ob, if_pos e]; exact ⟨rfl, ad, h⟩
  · cases e7; cases e9
    have ha := okN_lt oa (by omega); have hb := okN_lt ob (by omega)
    refine ⟨(h.2.2.1.1 _ ha).2.1, (h.2.2.1.1 _ hb).2.1, c_milesTo h hn ha hb (c_putMiles h hn ha hb ?_)⟩
    have h1 := h.miles hn ha (j := ix b) (by omega) v
    refine c_putMiles h1 hn hb ha ?_
    have h2 := h1.miles hn (i := ix b) hb (j := ix a) (by omega) v
    rw [if_pos oa, if_pos ob, if_neg e, if_pos iv]
    exact ⟨rfl, ad, h2⟩
  · rw [if_pos oa, if_pos ob, if_neg e, if_neg iv]; exact ⟨rfl, ad, h⟩
  · rw [if_pos oa, if_neg ob]; exact ⟨rfl, ad, h⟩
  · rw [if_neg oa]; exact ⟨rfl, ad, h⟩
  · rw [if_neg oa]; exact ⟨rfl, ad, h⟩
theorem v_miles {σ : Sg} (hi : Inv σ) {i j : Nat} {v : Int32} (h1 : i < cN σ 0) (h2 : j < cN σ 0) (hne : i ≠ j) (hv : bet v 0 9999) : Inv (sD σ 1303 (8 * i + j) v) := by
  obtain ⟨i0, i1, i2, i3⟩ := hi
  refine ⟨i0, i1, fun p q hp hq => ?_, i3⟩
  have i2' := i2 p q hp hq
  have h8 := i0.1
  rw [dD_same]
  by_cases hh : 8 * p + q = 8 * i + j
  · rw [if_pos hh]
    have e1 : p = i := by omega
    have e2 : q = j := by omega
    subst e1 e2
    exact ⟨hv, fun z => (by rcases z with z | z | z; all_goals (first | exact absurd h1 (Nat.not_lt.mpr z) | exact absurd h2 (Nat.not_lt.mpr z) | exact absurd z hne))⟩
  · rw [if_neg hh]; exact i2'
theorem v_way {σ : Sg} (hi : Inv σ) (a b v : Int32) : Inv (st_way σ a b v).2 := by
  have hn := hi.1.1
  unfold st_way
  split
  · split
    · split
      · exact hi
      · split
        · rename_i oa ob e iv
          have ha := okN_lt oa (by omega); have hb := okN_lt ob (by omega)
          have hv : bet v 0 9999 := by
            have := bet_of iv (a' := 1) (b' := 9999) (by decide) (by decide)
            exact ⟨by have := this.1; omega, this.2⟩
          have hne : ix a ≠ ix b := fun z => e ((okN_eq oa (by omega)).trans ((congrArg nI z).trans (okN_eq ob (by omega)).symm))
          exact v_miles (v_miles hi ha hb hne hv) hb ha (Ne.symm hne) hv
        · exact hi
    · exact hi
  · exact hi
/-! speed -/
def st_speed (σ : Sg) (p v : Int32) : Int32 × Sg := if okN p (cN σ 1) then if 6 ≤ v ∧ v ≤ 14 then (dD σ 1310 (ix p), sD σ 1310 (ix p) v) else (-2, σ) else (-2, σ)
theorem r_speed {g : Nat → Nat} {m : Nat} {S : HSt} {σ : Sg} (h : MR g m S σ) (hi : Inv σ) (p v : Int32) : wp_X12_speed g m p v S (fun r S' => r = (st_speed σ p v).1 ∧ MR g m S' (st_speed σ p v).2) := by
  have hn := hi.1.2.1
  unfold wp_X12_speed st_speed
  refine r_isShip h (by omega) (fun ok => bs1 (r_in (fun ab => br1 ?_) (fun ab => br0 ?_))) (fun ok => bs0 ?_)
  · refine ⟨okN_in ok hn (by decide), fun v10 e => ⟨okN_in ok hn (by decide), fun S13 e13 => ?_⟩⟩
    subst e e13
    rw [if_pos ok, if_pos ab]
    exact ⟨h.a 1310 210 _, h.pA 1310 210 _ v⟩
  · rw [if_pos ok, if_neg ab]; exact ⟨rfl, h⟩
  · rw [if_neg ok]; exact ⟨rfl, h⟩
theorem c_speed {ad : AD} {x : Nat} {S : HSt} {σ : Sg} (h : CR ad x S σ) (hi : Inv σ) (p v : Int32) : wp_X11_speed x p v S (fun r S' => r = (st_speed σ p v).1 ∧ ∃ ad', CR ad' x S' (st_speed σ p v).2) := by
  have hn := hi.1.2.1
  unfold wp_X11_speed st_speed
  refine c_shipAt h hi (fun ok => ⟨fun z => (by cases z), fun b e => ?_⟩) (fun ok => ⟨fun _ => ?_, fun b e => (by cases e)⟩)
  · cases e
    refine c_within (fun ab => br1 ?_) (fun ab => br0 ?_)
    · have hp := okN_lt ok (by omega)
      have e1 := h.2.2.2.1.1 _ hp
      refine ⟨e1.2.1, fun v11 e => fun S13 e13 => ?_⟩
      subst e e13
      rw [if_pos ok, if_pos ab]
      refine ⟨e1.2.2.2.2.2.2.2.2.2.2.2.1, ad, h.1.ks (Ks_uI rfl) (fun _ _ => rfl), h.2.1, h.2.2.1, ⟨fun j hj => ?_, h.2.2.2.1.2⟩, h.2.2.2.2⟩
      obtain ⟨a1, a2, a3, a4, a5, a6, a7, a8, a9, b1, b2, b3, b4⟩ := h.2.2.2.1.1 j hj
      exact ⟨a1, a2, a3, a4, a5, a6, a7, a8, a9, b1, b2, up_like (h.2.2.2.1.inj hn hj hp) b3, b4⟩
    · rw [if_pos ok, if_neg ab]; exact ⟨rfl, ad, h⟩
  · rw [if_neg ok]; exact ⟨rfl, ad, h⟩
theorem v_speed {σ : Sg} (hi : Inv σ) (p v : Int32) : Inv (st_speed σ p v).2 := by
  unfold st_speed
  split
  · split
    · rename_i ok ab
      obtain ⟨i0, i1, i2, i3, i4⟩ := hi
      refine ⟨i0, i1, i2, fun j hj => ?_, i4⟩
      obtain ⟨a1, a2, a3, a4, a5, a6, a7⟩ := i3 j hj
      refine ⟨a1, a2, a3, a4, a5, ?_, a7⟩
      rw [dD_same]
      split
      · exact bet_of ab (by decide) (by decide)
      · exact a6
    · exact hi
  · exact hi
/-! free -/
def st_free (σ : Sg) (s p t : Int32) : Int32 × Sg := if okN s (cN σ 1) then if okN p (cN σ 0) then if 0 ≤ t ∧ t ≤ 9999 then (1, sD (sD σ 1305 (ix s) p) 1306 (ix s) t) else (-2, σ) else (-2, σ) else (-2, σ)
theorem r_free {g : Nat → Nat} {m : Nat} {S : HSt} {σ : Sg} (h : MR g m S σ) (hi : Inv σ) (s p t : Int32) : wp_X12_free g m s p t S (fun r S' => r = (st_free σ s p t).1 ∧ MR g m S' (st_free σ s p t).2) := by
  have hn := hi.1.1; have hs := hi.1.2.1
  unfold wp_X12_free st_free
  refine r_isShip h (by omega) (fun os => bs1 (r_isPort h (by omega) (fun op => bs1 (r_isHour (fun it => br1 ?_) (fun it => br0 ?_))) (fun op => bs0 ?_))) (fun os => bs0 ?_)
  · refine ⟨okN_in os hs (by decide), fun S14 e1 => ⟨okN_in os hs (by decide), fun S18 e2 => ?_⟩⟩
    subst e1 e2
    rw [if_pos os, if_pos op, if_pos it]
    exact ⟨rfl, (h.pA 1305 205 _ p).pA 1306 206 _ t⟩
  · rw [if_pos os, if_pos op, if_neg it]; exact ⟨rfl, h⟩
  · rw [if_pos os, if_neg op]; exact ⟨rfl, h⟩
  · rw [if_neg os]; exact ⟨rfl, h⟩
theorem CR.shipAt {ad : AD} {x : Nat} {S : HSt} {σ : Sg} (h : CR ad x S σ) (hs : cN σ 1 ≤ 5) {i : Nat} (hi : i < cN σ 1) (p t : Int32) : CR ad x (uI (uR S 904 (ad 2 i) (some (ad 0 (ix p)))) 905 (ad 2 i) t) (sD (sD σ 1305 i p) 1306 i t) := by
  refine ⟨h.1.ks (Ks.trans (Ks_uR rfl (Or.inl rfl)) (Ks_uI rfl)) (fun _ _ => rfl), h.2.1, h.2.2.1, ⟨fun j hj => ?_, h.2.2.2.1.2⟩, h.2.2.2.2⟩
  obtain ⟨a1, a2, a3, a4, a5, a6, a7, a8, a9, b1, b2, b3⟩ := h.2.2.2.1.1 j hj
  have hj9 := h.2.2.2.1.inj hs hj hi
  refine ⟨a1, a2, a3, a4, a5, a6, a7, a8, a9, ?_, up_like (S := uR S 904 (ad 2 i) (some (ad 0 (ix p)))) (σ := sD σ 1305 i p) hj9 b2, b3⟩
  show gR (uR S 904 (ad 2 i) (some (ad 0 (ix p)))) 904 (ad 2 j) = some (ad 0 (ix (dD (sD σ 1305 i p) 1305 j)))
  rw [gR_same, dD_same]
  by_cases h9 : j = i
  · rw [if_pos (hj9.mpr h9), if_pos h9]
  · rw [if_neg (fun z => h9 (hj9.mp z)), if_neg h9]; exact b1
theorem c_free {ad : AD} {x : Nat} {S : HSt} {σ : Sg} (h : CR ad x S σ) (hi : Inv σ) (s p t : Int32) : wp_X11_free x s p t S (fun r S' => r = (st_free σ s p t).1 ∧ ∃ ad', CR ad' x S' (st_free σ s p t).2) := by
  have hn := hi.1.1; have hs := hi.1.2.1
  unfold wp_X11_free st_free
  refine c_shipAt h hi (fun os => c_portAt h hi (fun op => ⟨fun z => (by cases z), fun b7 e7 => ⟨fun z => (by cases z), fun b9 e9 => c_isHour (fun it => br1 ?_) (fun it => br0 ?_)⟩⟩) (fun op => ⟨fun z => (by cases z), fun b7 e7 => ⟨fun _ => ?_, fun b9 e9 => (by cases e9)⟩⟩)) (fun os => c_portAt h hi (fun op => ⟨fun _ => ?_, fun b7 e7 => (by cases e7)⟩) (fun op => ⟨fun _ => ?_, fun b7 e7 => (by cases e7)⟩))
  · cases e7; cases e9
    have h1 := okN_lt os (by omega)
    refine ⟨(h.2.2.2.1.1 _ h1).2.1, fun S16 e1 S19 e2 => ?_⟩
    subst e1 e2
    rw [if_pos os, if_pos op, if_pos it]
    exact ⟨rfl, ad, h.shipAt hs h1 p t⟩
  · rw [if_pos os, if_pos op, if_neg it]; exact ⟨rfl, ad, h⟩
  · rw [if_pos os, if_neg op]; exact ⟨rfl, ad, h⟩
  · rw [if_neg os]; exact ⟨rfl, ad, h⟩
  · rw [if_neg os]; exact ⟨rfl, ad, h⟩
theorem v_shipAt {σ : Sg} (hi : Inv σ) {i : Nat} {p t : Int32} (h1 : i < cN σ 1) (hp : okN p (cN σ 0)) (ht : bet t 0 9999) : Inv (sD (sD σ 1305 i p) 1306 i t) := by
  obtain ⟨i0, i1, i2, i3, i4, i5⟩ := hi
  refine ⟨i0, i1, i2, fun j hj => ?_, fun j hj hj5 => ?_, i5⟩
  · obtain ⟨a1, a2, a3⟩ := i3 j hj
    refine ⟨?_, ?_, a3⟩
    · show okN (dD (sD σ 1305 i p) 1305 j) (cN σ 0)
      rw [dD_same]; split
      · exact hp
      · exact a1
    · show bet (dD (sD (sD σ 1305 i p) 1306 i t) 1306 j) 0 9999
      rw [dD_same]; split
      · exact ht
      · exact a2
  · have hj' : cN σ 1 ≤ j := hj
    obtain ⟨a1, a2⟩ := i4 j hj hj5
    refine ⟨?_, a2⟩
    rw [dD_same, if_neg (by omega)]; exact a1
theorem v_free {σ : Sg} (hi : Inv σ) (s p t : Int32) : Inv (st_free σ s p t).2 := by
  unfold st_free
  split
  · split
    · split
      · rename_i os op it
        exact v_shipAt hi (okN_lt os (by have := hi.1.2.1; omega)) op (bet_of it (by decide) (by decide))
      · exact hi
    · exact hi
  · exact hi
/-! clear, count -/
def st_clear (σ : Sg) : Int32 × Sg := (nI (cN σ 6), sN σ 6 0)
theorem r_clear {g : Nat → Nat} {m : Nat} {S : HSt} {σ : Sg} (h : MR g m S σ) : wp_X12_clear g m S (fun r S' => r = (st_clear σ).1 ∧ MR g m S' (st_clear σ).2) := by
  intro v e S3 e3
  subst e e3
  exact ⟨h.c 1321 6, h.pI 1321 6 0 0 nI_0.symm⟩
theorem c_clear {ad : AD} {x : Nat} {S : HSt} {σ : Sg} (h : CR ad x S σ) : wp_X11_clear x S (fun r S' => r = (st_clear σ).1 ∧ ∃ ad', CR ad' x S' (st_clear σ).2) := by
  intro v e S3 e3
  subst e e3
  refine ⟨h.2.1.2.2.2.2.2.2, ad, h.1.ks (Ks_uI rfl) (fun _ _ => rfl), ⟨h.2.1.1, h.2.1.2.1, h.2.1.2.2.1, h.2.1.2.2.2.1, h.2.1.2.2.2.2.1, h.2.1.2.2.2.2.2.1, ?_⟩, h.2.2.1, h.2.2.2.1, h.2.2.2.2.1, fun k hk => absurd hk (Nat.not_lt_zero k), h.2.2.2.2.2.2⟩
  rw [gI_same, if_pos rfl]; exact nI_0.symm
theorem v_clear {σ : Sg} (hi : Inv σ) : Inv (st_clear σ).2 := by
  obtain ⟨i0, i1, i2, i3, i4, i5, i6, i7, i8⟩ := hi
  exact ⟨⟨i0.1, i0.2.1, i0.2.2.1, i0.2.2.2.1, i0.2.2.2.2.1, i0.2.2.2.2.2.1, Nat.zero_le 6⟩, i1, i2, i3, i4, i5, i6, fun k hk => absurd hk (Nat.not_lt_zero k), i8⟩
def st_count (σ : Sg) (w : Int32) : Int32 := if w = 0 then nI (cN σ 0) else if w = 1 then nI (cN σ 1) else if w = 2 then nI (cN σ 2) else if w = 3 then nI (cN σ 3) else if w = 4 then nI (cN σ 4) else if w = 5 then nI (cN σ 5) else if w = 6 then nI (cN σ 6) else -2
theorem r_count {g : Nat → Nat} {m : Nat} {S : HSt} {σ : Sg} (h : MR g m S σ) (w : Int32) : wp_X12_count g m w S (fun r S' => r = st_count σ w ∧ S' = S) := by
  unfold wp_X12_count st_count
  refine ⟨fun e => ?_, fun n0 => ⟨fun e => ?_, fun n1 => ⟨fun e => ?_, fun n2 => ⟨fun e => ?_, fun n3 => ⟨fun e => ?_, fun n4 => ⟨fun e => ?_, fun n5 => ⟨fun e => ?_, fun n6 => ?_⟩⟩⟩⟩⟩⟩⟩
  · rw [if_pos e]; exact ⟨h.c 1300 0, rfl⟩
  · rw [if_neg n0, if_pos e]; exact ⟨h.c 1304 1, rfl⟩
  · rw [if_neg n0, if_neg n1, if_pos e]; exact ⟨h.c 1313 2, rfl⟩
  · rw [if_neg n0, if_neg n1, if_neg n2, if_pos e]; exact ⟨h.c 1325 3, rfl⟩
  · rw [if_neg n0, if_neg n1, if_neg n2, if_neg n3, if_pos e]; exact ⟨h.c 1329 4, rfl⟩
  · rw [if_neg n0, if_neg n1, if_neg n2, if_neg n3, if_neg n4, if_pos e]; exact ⟨h.c 1324 5, rfl⟩
  · rw [if_neg n0, if_neg n1, if_neg n2, if_neg n3, if_neg n4, if_neg n5, if_pos e]; exact ⟨h.c 1321 6, rfl⟩
  · rw [if_neg n0, if_neg n1, if_neg n2, if_neg n3, if_neg n4, if_neg n5, if_neg n6]; exact ⟨rfl, rfl⟩
theorem c_count {ad : AD} {x : Nat} {S : HSt} {σ : Sg} (h : CR ad x S σ) (w : Int32) : wp_X11_count x w S (fun r S' => r = st_count σ w ∧ S' = S) := by
  obtain ⟨c0, c1, c2, c3, c4, c5, c6⟩ := h.2.1
  unfold wp_X11_count st_count
  refine ⟨fun e => ?_, fun n0 => ⟨fun e => ?_, fun n1 => ⟨fun e => ?_, fun n2 => ⟨fun e => ?_, fun n3 => ⟨fun e => ?_, fun n4 => ⟨fun e => ⟨_, (h.1.o 1216 10 6).1, (h.1.o 1216 10 6).2, ?_⟩, fun n5 => ⟨fun e => ?_, fun n6 => ?_⟩⟩⟩⟩⟩⟩⟩
  · rw [if_pos e]; exact ⟨c0, rfl⟩
  · rw [if_neg n0, if_pos e]; exact ⟨c1, rfl⟩
  · rw [if_neg n0, if_neg n1, if_pos e]; exact ⟨c2, rfl⟩
  · rw [if_neg n0, if_neg n1, if_neg n2, if_pos e]; exact ⟨c3, rfl⟩
  · rw [if_neg n0, if_neg n1, if_neg n2, if_neg n3, if_pos e]; exact ⟨c4, rfl⟩
  · rw [if_neg n0, if_neg n1, if_neg n2, if_neg n3, if_neg n4, if_pos e]; exact ⟨c5, rfl⟩
  · rw [if_neg n0, if_neg n1, if_neg n2, if_neg n3, if_neg n4, if_neg n5, if_pos e]; exact ⟨c6, rfl⟩
  · rw [if_neg n0, if_neg n1, if_neg n2, if_neg n3, if_neg n4, if_neg n5, if_neg n6]; exact ⟨rfl, rfl⟩
