/-! why, estimate, fix -/
def poN (σ : Sg) (s : Nat) : Nat := ix (dD σ 1305 s)
def st_why (σ : Sg) (s o : Int32) : Int32 := if okN s (cN σ 1) then if okN o (cN σ 2) then hiI σ (ix s) (ix o) (poN σ (ix s)) (dD σ 1306 (ix s)) else -2 else -2
theorem po_ok {σ : Sg} (hi : Inv σ) {s : Int32} (os : okN s (cN σ 1)) : okN (dD σ 1305 (ix s)) (cN σ 0) := (hi.2.2.2.1 _ (okN_lt os (by have := hi.1.2.1; omega))).1
theorem r_why {g : Nat → Nat} {m : Nat} {S : HSt} {σ : Sg} (h : MR g m S σ) (hi : Inv σ) (s o : Int32) : wp_X12_why g m s o S (fun r S' => r = st_why σ s o ∧ S' = S) := by
  have hs := hi.1.2.1; have ho := hi.1.2.2.1
  unfold wp_X12_why st_why
  refine r_isShip h (by omega) (fun os => bs1 (r_isOffer h (by omega) (fun oo => bs1 ?_) (fun oo => bs0 ?_))) (fun os => bs0 ?_)
  · have his := okN_in os hs (show 5 < 2 ^ 31 by decide)
    refine ⟨his, his, ?_⟩
    rw [show gA S 205 (g 1305) s.toNatClampNeg = dD σ 1305 (ix s) from h.a 1305 205 _, show gA S 206 (g 1306) s.toNatClampNeg = dD σ 1306 (ix s) from h.a 1306 206 _]
    refine r_hinders h hi os oo (po_ok hi os) _ ?_
    rw [if_pos os, if_pos oo]; exact ⟨rfl, rfl⟩
  · rw [if_pos os, if_neg oo]; exact ⟨rfl, rfl⟩
  · rw [if_neg os]; exact ⟨rfl, rfl⟩
/-- the office's own reckoning -/
theorem c_why {ad : AD} {x : Nat} {S : HSt} {σ : Sg} (h : CR ad x S σ) (hi : Inv σ) (s o : Int32) {Post : Int32 → HSt → Prop} (h1 : okN s (cN σ 1) → okN o (cN σ 2) → Post (hiI σ (ix s) (ix o) (poN σ (ix s)) (dD σ 1306 (ix s))) (rkS σ S (ad 10 7) (ix s) (ix o) (poN σ (ix s)) (dD σ 1306 (ix s)))) (h0 : ¬ (okN s (cN σ 1) ∧ okN o (cN σ 2)) → Post (-2) S) : wp_X11_why x s o S Post := by
  have hs := hi.1.2.1; have ho := hi.1.2.2.1
  unfold wp_X11_why
  refine c_shipAt h hi (fun os => c_offerAt h hi (fun oo => ⟨fun z => (by cases z), fun b7 e7 => ⟨fun z => (by cases z), fun b9 e9 => ?_⟩⟩) (fun oo => ⟨fun z => (by cases z), fun b7 e7 => ⟨fun _ => h0 (fun z => oo z.2), fun b9 e9 => (by cases e9)⟩⟩)) (fun os => c_offerAt h hi (fun oo => ⟨fun _ => h0 (fun z => os z.1), fun b7 e7 => (by cases e7)⟩) (fun oo => ⟨fun _ => h0 (fun z => os z.1), fun b7 e7 => (by cases e7)⟩))
  cases e7; cases e9
  have hsl := okN_lt os (by omega)
  have hol := okN_lt oo (by omega)
  have hpl : poN σ (ix s) < cN σ 0 := okN_lt (po_ok hi os) (by have := hi.1.1; omega)
  obtain ⟨a1, a2, a3, a4, a5, a6, a7, a8, a9, b1, b2, -⟩ := h.2.2.2.1.1 _ hsl
  obtain ⟨q1, q2⟩ := h.1.o 1213 7 5
  refine ⟨_, q1, a2, _, b1, q2, (h.2.2.1.1 _ hpl).2.1, (h.2.2.2.2.1.1 _ hol).2.1, ?_⟩
  rw [b2]
  have hr := h.rk (ad 10 7) (ix s) (ix o) (poN σ (ix s)) (dD σ 1306 (ix s))
  refine c_reckon h hi hsl hol hpl ⟨_, (hr.1.o 1213 7 5).1, (hr.1.o 1213 7 5).2, ?_⟩
  rw [show gI (rkS σ S (ad 10 7) (ix s) (ix o) (poN σ (ix s)) (dD σ 1306 (ix s))) 500 (ad 10 7) = hiI σ (ix s) (ix o) (poN σ (ix s)) (dD σ 1306 (ix s)) by unfold rkS; rw [gI_same, if_pos rfl]]
  exact h1 os oo
theorem c_whyF {ad : AD} {x : Nat} {S : HSt} {σ : Sg} (h : CR ad x S σ) (hi : Inv σ) (s o : Int32) : wp_X11_why x s o S (fun r S' => r = st_why σ s o ∧ ∃ ad', CR ad' x S' σ) := by
  refine c_why h hi s o (fun os oo => ?_) (fun n => ?_)
  · unfold st_why; rw [if_pos os, if_pos oo]; exact ⟨rfl, ad, h.rk _ _ _ _ _⟩
  · unfold st_why
    refine ⟨?_, ad, h⟩
    by_cases os : okN s (cN σ 1)
    · rw [if_pos os, if_neg (fun z => n ⟨os, z⟩)]
    · rw [if_neg os]
def NOv : Int64 := -4611686018427387904
def st_est (σ : Sg) (s o w : Int32) : Int64 := if okN s (cN σ 1) then if okN o (cN σ 2) then if hiI σ (ix s) (ix o) (poN σ (ix s)) (dD σ 1306 (ix s)) = 0 then if w = 0 then (beI σ (ix s) (ix o) (poN σ (ix s)) (dD σ 1306 (ix s))).toInt64 else if w = 1 then (enI σ (ix s) (ix o) (poN σ (ix s)) (dD σ 1306 (ix s))).toInt64 else if w = 2 then (buI σ (ix s) (ix o) (poN σ (ix s))).toInt64 else if w = 3 then eaI σ (ix s) (ix o) (poN σ (ix s)) else NOv else NOv else NOv else NOv
theorem in03 {w : Int32} (h : 0 ≤ w ∧ w ≤ 3) (n0 : w ≠ 0) (n1 : w ≠ 1) (n2 : w ≠ 2) : w = 3 := by
  obtain ⟨j, hj, rfl⟩ := nI_of2 (M := 3) (n := 3) (by decide) (Int32.not_lt.mpr h.1) h.2
  have : j = 0 ∨ j = 1 ∨ j = 2 ∨ j = 3 := by omega
  rcases this with rfl | rfl | rfl | rfl
  · exact absurd rfl n0
  · exact absurd rfl n1
  · exact absurd rfl n2
  · rfl
theorem r_estimate {g : Nat → Nat} {m : Nat} {S : HSt} {σ : Sg} (h : MR g m S σ) (hi : Inv σ) (s o w : Int32) : wp_X12_estimate g m s o w S (fun r S' => r = st_est σ s o w ∧ S' = S) := by
  have hs := hi.1.2.1; have ho := hi.1.2.2.1
  unfold wp_X12_estimate st_est
  refine r_isShip h (by omega) (fun os => bs1 (r_isOffer h (by omega) (fun oo => bs1 (r_in (fun iw => bs1 ?_) (fun iw => bs0 ?_))) (fun oo => bs0 ?_))) (fun os => bs0 ?_)
  · have his := okN_in os hs (show 5 < 2 ^ 31 by decide)
    have e5 : gA S 205 (g 1305) s.toNatClampNeg = dD σ 1305 (ix s) := h.a 1305 205 _
    have e6 : gA S 206 (g 1306) s.toNatClampNeg = dD σ 1306 (ix s) := h.a 1306 206 _
    have op := po_ok hi os
    refine ⟨his, his, ?_⟩
    rw [e5, e6, if_pos os, if_pos oo]
    refine r_hinders h hi os oo op _ ⟨fun (c : hiI σ (ix s) (ix o) (poN σ (ix s)) _ = 0) => ⟨his, fun v20 e20 => ⟨his, fun v23 e23 => ?_⟩⟩, fun (c : ¬ hiI σ (ix s) (ix o) (poN σ (ix s)) _ = 0) => ?_⟩
    · rw [e5] at e20
      rw [e6] at e23
      subst e20 e23
      rw [if_pos c]
      refine ⟨fun n0 => ⟨fun n1 => ⟨fun n2 => r_earns h hi os oo op ⟨?_, rfl⟩, fun z2 => r_burnt h hi os oo op ⟨?_, rfl⟩⟩, fun z1 => r_ends h hi os oo op _ ⟨?_, rfl⟩⟩, fun z0 => r_begins h hi os oo op _ ⟨?_, rfl⟩⟩
      · rw [if_neg n0, if_neg n1, if_neg n2, if_pos (in03 iw n0 n1 n2)]; rfl
      · rw [if_neg n0, if_neg n1, if_pos z2]; rfl
      · rw [if_neg n0, if_pos z1]; rfl
      · rw [if_pos z0]; rfl
    · rw [if_neg c]; exact ⟨rfl, rfl⟩
  · rw [if_pos os, if_pos oo]
    refine ⟨?_, rfl⟩
    split
    · rw [if_neg, if_neg, if_neg, if_neg]
      · rfl
      · intro z; exact iw (by rw [z]; decide)
      · intro z; exact iw (by rw [z]; decide)
      · intro z; exact iw (by rw [z]; decide)
      · intro z; exact iw (by rw [z]; decide)
    · rfl
  · rw [if_pos os, if_neg oo]; exact ⟨rfl, rfl⟩
  · rw [if_neg os]; exact ⟨rfl, rfl⟩
theorem c_estimate {ad : AD} {x : Nat} {S : HSt} {σ : Sg} (h : CR ad x S σ) (hi : Inv σ) (s o w : Int32) : wp_X11_estimate x s o w S (fun r S' => r = st_est σ s o w ∧ ∃ ad', CR ad' x S' σ) := by
  unfold wp_X11_estimate st_est
  refine c_why h hi s o (fun os oo => ?_) (fun n => ?_)
  · have hr := h.rk (ad 10 7) (ix s) (ix o) (poN σ (ix s)) (dD σ 1306 (ix s))
    obtain ⟨q1, q2⟩ := hr.1.o 1213 7 5
    rw [if_pos os, if_pos oo]
    refine ⟨fun c => ?_, fun c => ?_⟩
    · rw [if_pos c]
      refine ⟨fun z0 => ⟨_, q1, q2, ?_, ad, hr⟩, fun n0 => ⟨fun z1 => ⟨_, q1, q2, ?_, ad, hr⟩, fun n1 => ⟨fun z2 => ⟨_, q1, q2, ?_, ad, hr⟩, fun n2 => ⟨fun z3 => ⟨_, q1, q2, ?_, ad, hr⟩, fun n3 => ⟨?_, ad, hr⟩⟩⟩⟩⟩
      · rw [if_pos z0]; congr 1
        simp [rkS, gI_uI, gI_uJ]
      · rw [if_neg n0, if_pos z1]; congr 1
        simp [rkS, gI_uI, gI_uJ]
      · rw [if_neg n0, if_neg n1, if_pos z2]; congr 1
        simp [rkS, gI_uI, gI_uJ]
      · rw [if_neg n0, if_neg n1, if_neg n2, if_pos z3]
        simp [rkS, gJ, uI, uJ, up2]
      · rw [if_neg n0, if_neg n1, if_neg n2, if_neg n3]; rfl
    · rw [if_neg c]; exact ⟨rfl, ad, hr⟩
  · refine ⟨fun z => absurd z (by decide), fun _ => ⟨?_, ad, h⟩⟩
    by_cases os : okN s (cN σ 1)
    · rw [if_pos os, if_neg (fun z => n ⟨os, z⟩)]; rfl
    · rw [if_neg os]; rfl
def ad_fix (σ : Sg) (s o : Nat) (t : Int32) : Sg := sD (sD (sD σ 1306 s t) 1305 s (dD σ 1315 o)) 1320 o 1
def st_fix (σ : Sg) (s o : Int32) : Int32 × Sg := if okN s (cN σ 1) then if okN o (cN σ 2) then if hiI σ (ix s) (ix o) (poN σ (ix s)) (dD σ 1306 (ix s)) = 0 then (1, ad_fix σ (ix s) (ix o) (enI σ (ix s) (ix o) (poN σ (ix s)) (dD σ 1306 (ix s)))) else (-20 - hiI σ (ix s) (ix o) (poN σ (ix s)) (dD σ 1306 (ix s)), σ) else (-2, σ) else (-2, σ)
theorem r_fix {g : Nat → Nat} {m : Nat} {S : HSt} {σ : Sg} (h : MR g m S σ) (hi : Inv σ) (s o : Int32) : wp_X12_fix g m s o S (fun r S' => r = (st_fix σ s o).1 ∧ MR g m S' (st_fix σ s o).2) := by
  have hs := hi.1.2.1; have ho := hi.1.2.2.1
  unfold wp_X12_fix st_fix
  refine r_isShip h (by omega) (fun os => bs1 (r_isOffer h (by omega) (fun oo => br1 ?_) (fun oo => br0 ?_))) (fun os => bs0 ?_)
  · have his := okN_in os hs (show 5 < 2 ^ 31 by decide)
    have hio := okN_in oo ho (show 10 < 2 ^ 31 by decide)
    have e5 : gA S 205 (g 1305) s.toNatClampNeg = dD σ 1305 (ix s) := h.a 1305 205 _
    have e6 : gA S 206 (g 1306) s.toNatClampNeg = dD σ 1306 (ix s) := h.a 1306 206 _
    have op := po_ok hi os
    refine ⟨his, his, ?_⟩
    rw [e5, e6, if_pos os, if_pos oo]
    refine r_hinders h hi os oo op _ ⟨fun (c : hiI σ (ix s) (ix o) (poN σ (ix s)) _ = 0) => ⟨his, his, ?_⟩, fun (c : ¬ hiI σ (ix s) (ix o) (poN σ (ix s)) _ = 0) => ?_⟩
    · rw [e5, e6, if_pos c]
      refine r_ends h hi os oo op _ ⟨his, fun S21 e21 => ⟨hio, his, fun S26 e26 => ⟨hio, fun S30 e30 => ?_⟩⟩⟩
      have e7 : gA S21 215 (g 1315) o.toNatClampNeg = dD σ 1315 (ix o) := by
        rw [e21, gA_uA, if_neg (fun z => absurd z.1 (by decide))]; exact h.a 1315 215 _
      rw [e7] at e26
      rw [show vp_nar .boolean (1 : Int32) = 1 by decide] at e30
      subst e21 e26 e30
      exact ⟨rfl, ((h.pA 1306 206 _ _).pA 1305 205 _ _).pA 1320 320 _ _⟩
    · rw [if_neg c]; exact ⟨rfl, h⟩
  · rw [if_pos os, if_neg oo]; exact ⟨rfl, h⟩
  · rw [if_neg os]; exact ⟨rfl, h⟩
theorem CO.inj {ad : AD} {S : HSt} {σ : Sg} (h : CO ad S σ) {i j : Nat} (hi : i < cN σ 2) (hj : j < cN σ 2) : ad 4 i = ad 4 j ↔ i = j := ⟨h.2 i j hi hj, fun e => by rw [e]⟩
theorem CR.gone {ad : AD} {x : Nat} {S : HSt} {σ : Sg} (h : CR ad x S σ) {o : Nat} (ho : o < cN σ 2) (v : Int32) : CR ad x (uI S 306 (ad 4 o) v) (sD σ 1320 o v) := by
  obtain ⟨hF, hC, hP, hS, hO, hR, hT, hX, hH, hE⟩ := h
  refine ⟨hF.ks (Ks_uI rfl) (fun _ _ => rfl), hC, hP, hS, ⟨fun k hk => ?_, hO.2⟩, hR, hT, hX, hH, hE⟩
  obtain ⟨a1, a2, a3, a4, a5, a6, a7, a8, a9⟩ := hO.1 k hk
  exact ⟨a1, a2, a3, a4, a5, a6, a7, a8, up_like (hO.inj hk ho) a9⟩
theorem sD_comm (σ : Sg) {f i f' i' : Nat} {v v' : Int32} (h : f ≠ f') : sD (sD σ f i v) f' i' v' = sD (sD σ f' i' v') f i v := by
  refine Prod.ext rfl ?_
  funext a b
  show (if a = f' ∧ b = i' then v' else if a = f ∧ b = i then v else σ.2 a b) = (if a = f ∧ b = i then v else if a = f' ∧ b = i' then v' else σ.2 a b)
  by_cases h1 : a = f' ∧ b = i'
  · rw [if_pos h1, if_neg (fun z => h (z.1.symm.trans h1.1)), if_pos h1]
  · rw [if_neg h1, if_neg h1]
theorem c_fix {ad : AD} {x : Nat} {S : HSt} {σ : Sg} (h : CR ad x S σ) (hi : Inv σ) (s o : Int32) : wp_X11_fix x s o S (fun r S' => r = (st_fix σ s o).1 ∧ ∃ ad', CR ad' x S' (st_fix σ s o).2) := by
  have hs := hi.1.2.1; have ho := hi.1.2.2.1
  unfold wp_X11_fix st_fix
  refine c_shipAt h hi (fun os => c_offerAt h hi (fun oo => ⟨fun z => (by cases z), fun b7 e7 => ⟨fun z => (by cases z), fun b9 e9 => ?_⟩⟩) (fun oo => ⟨fun z => (by cases z), fun b7 e7 => ⟨fun _ => ?_, fun b9 e9 => (by cases e9)⟩⟩)) (fun os => c_offerAt h hi (fun oo => ⟨fun _ => ?_, fun b7 e7 => (by cases e7)⟩) (fun oo => ⟨fun _ => ?_, fun b7 e7 => (by cases e7)⟩))
  · cases e7; cases e9
    have hsl := okN_lt os (by omega)
    have hol := okN_lt oo (by omega)
    have hpl : poN σ (ix s) < cN σ 0 := okN_lt (po_ok hi os) (by have := hi.1.1; omega)
    obtain ⟨a1, a2, a3, a4, a5, a6, a7, a8, a9, b1, b2, -⟩ := h.2.2.2.1.1 _ hsl
    obtain ⟨q1, q2⟩ := h.1.o 1213 7 5
    rw [if_pos os, if_pos oo]
    refine ⟨_, q1, a2, _, b1, q2, (h.2.2.1.1 _ hpl).2.1, (h.2.2.2.2.1.1 _ hol).2.1, ?_⟩
    rw [b2]
    have hr := h.rk (ad 10 7) (ix s) (ix o) (poN σ (ix s)) (dD σ 1306 (ix s))
    obtain ⟨p1, p2⟩ := hr.1.o 1213 7 5
    refine c_reckon h hi hsl hol hpl ⟨_, p1, p2, ?_⟩
    rw [show gI (rkS σ S (ad 10 7) (ix s) (ix o) (poN σ (ix s)) (dD σ 1306 (ix s))) 500 (ad 10 7) = hiI σ (ix s) (ix o) (poN σ (ix s)) (dD σ 1306 (ix s)) by unfold rkS; rw [gI_same, if_pos rfl]]
    refine ⟨fun c => ⟨_, (hr.2.2.2.2.1.1 _ hol).2.2.2.1, fun S28 e28 => ?_⟩, fun c => ⟨_, p1, p2, ?_⟩⟩
    · rw [if_pos c]
      have hr2 : gR S28 1213 x = some (ad 10 7) := by rw [e28, gR_uR, if_neg (fun z => absurd z.1 (by decide))]; exact p1
      have k2 : gK S28 (ad 10 7) = 5 := by rw [e28]; exact p2
      refine ⟨_, hr2, k2, fun S34 e34 S37 e37 => ?_⟩
      have e9 : gI S28 502 (ad 10 7) = enI σ (ix s) (ix o) (poN σ (ix s)) (dD σ 1306 (ix s)) := by
        rw [e28]
        show gI (rkS σ S (ad 10 7) (ix s) (ix o) (poN σ (ix s)) (dD σ 1306 (ix s))) 502 (ad 10 7) = _
        simp [rkS, gI_uI, gI_uJ]
      rw [e9] at e34
      subst e28 e34 e37
      refine ⟨rfl, ad, ?_⟩
      have := (hr.shipAt hs hsl (dD σ 1315 (ix o)) (enI σ (ix s) (ix o) (poN σ (ix s)) (dD σ 1306 (ix s)))).gone (o := ix o) hol 1
      unfold ad_fix
      rw [sD_comm σ (f := 1306) (f' := 1305) (by decide)]
      exact this
    · rw [if_neg c, show gI (rkS σ S (ad 10 7) (ix s) (ix o) (poN σ (ix s)) (dD σ 1306 (ix s))) 500 (ad 10 7) = hiI σ (ix s) (ix o) (poN σ (ix s)) (dD σ 1306 (ix s)) by unfold rkS; rw [gI_same, if_pos rfl]]
      exact ⟨rfl, ad, hr⟩
  · rw [if_pos os, if_neg oo]; exact ⟨rfl, ad, h⟩
  · rw [if_neg os]; exact ⟨rfl, ad, h⟩
  · rw [if_neg os]; exact ⟨rfl, ad, h⟩
theorem up_bet {a b : Int32} {A B : Nat} (ha : bet a 0 A) (hb : bet b 1 B) (hA : A + B < 2 ^ 31) : bet (upI a b) 0 A ∧ upI a b = nI ((ix a + ix b - 1) / ix b) := by
  obtain ⟨ea, la⟩ := bet_nI ha (by omega)
  obtain ⟨eb, lb⟩ := bet_nI (b := B) ⟨by have := hb.1; omega, hb.2⟩ (by omega)
  have hb1 : 1 ≤ ix b := by
    have h1 := hb.1
    rw [eb, nI_toInt (by omega)] at h1
    omega
  have e : upI a b = nI ((ix a + ix b - 1) / ix b) := by
    unfold upI
    rw [ea, eb, nI_add, nI_pr (by omega), pk_div (by omega) (by omega) (by omega), ix_nI (by omega), ix_nI (by omega)]
  refine ⟨?_, e⟩
  rw [e]
  have hq : (ix a + ix b - 1) / ix b ≤ ix a := by
    rw [← Nat.lt_succ_iff, Nat.div_lt_iff_lt_mul (by omega)]
    have h2 : ix a * 1 ≤ ix a * ix b := Nat.mul_le_mul_left _ hb1
    have h3 : (ix a).succ * ix b = ix a * ix b + ix b := Nat.succ_mul _ _
    omega
  have := bet_n (n := (ix a + ix b - 1) / ix b) (N := A) (by omega) (by omega)
  exact this
theorem hr_bet {σ : Sg} (hi : Inv σ) {s p q : Nat} (hs : s < cN σ 1) (hp : p < 8) (hq : q < 8) : bet (hrI σ s p q) 0 9999 :=
  (up_bet (A := 9999) (B := 14) (hi.2.2.1 p q hp hq).1 ⟨by have := (hi.2.2.2.1 s hs).2.2.2.2.2.1.1; omega, (hi.2.2.2.1 s hs).2.2.2.2.2.1.2⟩ (by decide)).1
theorem be_bet {σ : Sg} (hi : Inv σ) {s o p : Nat} (hs : s < cN σ 1) (ho : o < cN σ 2) (hp : p < 8) {t : Int32} (ht : bet t 0 9999) : bet (beI σ s o p t) 0 19998 := by
  obtain ⟨f1, f2, a3, a4, a5, -⟩ := hi.2.2.2.2.2.1 o ho
  have h0 := hi.1.1
  have hf : frN σ o < 8 := by have := okN_lt f1 (by omega); unfold frN; omega
  have hh := hr_bet hi hs hp hf
  have e : (t + hrI σ s p (frN σ o)).toInt = t.toInt + (hrI σ s p (frN σ o)).toInt := fb_addI (by have := ht.1; have := hh.1; omega) (by have := ht.2; have := hh.2; omega)
  unfold beI
  split
  · exact ⟨a5.1, by have := a5.2; omega⟩
  · exact ⟨by rw [e]; have := ht.1; have := hh.1; omega, by rw [e]; have := ht.2; have := hh.2; omega⟩
theorem en_bet {σ : Sg} (hi : Inv σ) {s o p : Nat} (hs : s < cN σ 1) (ho : o < cN σ 2) (hp : p < 8) {t : Int32} (ht : bet t 0 9999) : bet (enI σ s o p t) 0 59994 := by
  obtain ⟨f1, f2, a3, -⟩ := hi.2.2.2.2.2.1 o ho
  have h0 := hi.1.1
  have f1' := okN_lt f1 (by omega)
  have f2' := okN_lt f2 (by omega)
  have hf : frN σ o < 8 := by unfold frN; omega
  have hg : toN σ o < 8 := by unfold toN; omega
  have b1 := be_bet hi hs ho hp ht
  have b2 := hr_bet hi hs hf hg
  have g1 := (hi.2.1 _ f1').1
  have g2 := (hi.2.1 _ f2').1
  have t0 : bet (dD σ 1316 o) 0 9999 := ⟨by have := a3.1; omega, a3.2⟩
  have b3 : bet (upI (dD σ 1316 o) (dD σ 1301 (frN σ o))) 0 9999 := (up_bet (A := 9999) (B := 999) t0 ⟨by have : (10 : Int) ≤ _ := g1.1; exact Int.le_trans (by decide) this, g1.2⟩ (by decide)).1
  have b4 : bet (upI (dD σ 1316 o) (dD σ 1301 (toN σ o))) 0 9999 := (up_bet (A := 9999) (B := 999) t0 ⟨by have : (10 : Int) ≤ _ := g2.1; exact Int.le_trans (by decide) this, g2.2⟩ (by decide)).1
  obtain ⟨l1, u1⟩ := b1
  obtain ⟨l2, u2⟩ := b2
  obtain ⟨l3, u3⟩ := b3
  obtain ⟨l4, u4⟩ := b4
  unfold enI
  have e1 := fb_addI (x := beI σ s o p t) (y := upI (dD σ 1316 o) (dD σ 1301 (frN σ o))) (by omega) (by omega)
  have e2 := fb_addI (x := beI σ s o p t + upI (dD σ 1316 o) (dD σ 1301 (frN σ o))) (y := hrI σ s (frN σ o) (toN σ o)) (by omega) (by omega)
  have e3 := fb_addI (x := beI σ s o p t + upI (dD σ 1316 o) (dD σ 1301 (frN σ o)) + hrI σ s (frN σ o) (toN σ o)) (y := upI (dD σ 1316 o) (dD σ 1301 (toN σ o))) (by omega) (by omega)
  exact ⟨by rw [e3]; omega, by rw [e3]; omega⟩
theorem hi0_en {σ : Sg} {s o p : Nat} {t : Int32} (h : hiI σ s o p t = 0) : enI σ s o p t ≤ 9999 := by
  unfold hiI at h
  split at h
  · split at h
    · split at h
      · split at h
        · split at h
          · exact absurd h (by decide)
          · split at h
            · split at h
              · split at h
                · split at h
                  · assumption
                  · exact absurd h (by decide)
                · exact absurd h (by decide)
              · exact absurd h (by decide)
            · exact absurd h (by decide)
        · exact absurd h (by decide)
      · exact absurd h (by decide)
    · exact absurd h (by decide)
  · exact absurd h (by decide)
theorem hi0_bet {σ : Sg} (hi : Inv σ) {s o p : Nat} (hs : s < cN σ 1) (ho : o < cN σ 2) (hp : p < 8) {t : Int32} (ht : bet t 0 9999) (h : hiI σ s o p t = 0) : bet (enI σ s o p t) 0 9999 := by
  have h1 := (en_bet hi hs ho hp ht).1
  have h2 := (i_le _ _).mp (hi0_en h)
  have e : (9999 : Int32).toInt = 9999 := by decide
  exact ⟨h1, by omega⟩
theorem v_fix {σ : Sg} (hi : Inv σ) (s o : Int32) : Inv (st_fix σ s o).2 := by
  have hs := hi.1.2.1; have ho := hi.1.2.2.1; have h0 := hi.1.1
  unfold st_fix
  split
  · rename_i os
    split
    · rename_i oo
      split
      · rename_i c
        have hsl := okN_lt os (by omega)
        have hol := okN_lt oo (by omega)
        have hpl : poN σ (ix s) < 8 := by have := okN_lt (po_ok hi os) (by omega); unfold poN; omega
        have hb := hi0_bet hi hsl hol hpl (hi.2.2.2.1 _ hsl).2.1 c
        show Inv (ad_fix σ (ix s) (ix o) (enI σ (ix s) (ix o) (poN σ (ix s)) (dD σ 1306 (ix s))))
        unfold ad_fix
        rw [sD_comm σ (f := 1306) (f' := 1305) (by decide)]
        have hv := v_shipAt hi hsl (fr_ok hi oo).2 hb
        obtain ⟨i0, i1, i2, i3, i4, i5, i6, i7⟩ := hv
        refine ⟨i0, i1, i2, i3, i4, fun k hk => ?_, fun k hk hk2 => ?_, i7⟩
        · obtain ⟨a1, a2, a3, a4, a5, a6, a7⟩ := i5 k hk
          refine ⟨a1, a2, a3, a4, a5, a6, ?_⟩
          rw [dD_same]
          split
          · exact Or.inr rfl
          · exact a7
        · have hk : cN σ 2 ≤ k := hk
          rw [dD_same, if_neg (by omega)]
          exact i6 k hk hk2
      · exact hi
    · exact hi
  · exact hi
