theorem gI_uI (S : HSt) (f a : Nat) (v : Int32) (f' a' : Nat) : gI (uI S f a v) f' a' = if f' = f ∧ a' = a then v else gI S f' a' := rfl
theorem gR_uR (S : HSt) (f a : Nat) (v : Option Nat) (f' a' : Nat) : gR (uR S f a v) f' a' = if f' = f ∧ a' = a then v else gR S f' a' := rfl
theorem gI_same (S : HSt) (f a : Nat) (v : Int32) (b : Nat) : gI (uI S f a v) f b = if b = a then v else gI S f b := by rw [gI_uI]; simp
theorem gR_same (S : HSt) (f a : Nat) (v : Option Nat) (b : Nat) : gR (uR S f a v) f b = if b = a then v else gR S f b := by rw [gR_uR]; simp
theorem dD_same (σ : Sg) (f i : Nat) (v : Int32) (j : Nat) : dD (sD σ f i v) f j = if j = i then v else dD σ f j := by rw [dD_sD]; simp
/-- a field and a row are written alike -/
theorem up_like {S : HSt} {σ : Sg} {f a fr i j b : Nat} {v : Int32} (hb : b = a ↔ j = i) (h : gI S f b = dD σ fr j) : gI (uI S f a v) f b = dD (sD σ fr i v) fr j := by
  rw [gI_same, dD_same, h]
  by_cases h9 : j = i
  · rw [if_pos (hb.mpr h9), if_pos h9]
  · rw [if_neg (fun z => h9 (hb.mp z)), if_neg h9]
theorem nI_inj {a b : Nat} (ha : a < 2 ^ 31) (hb : b < 2 ^ 31) (h : nI a = nI b) : a = b := (nI_eq ha hb).mp h
theorem CP.inj {ad : AD} {S : HSt} {σ : Sg} (h : CP ad S σ) (hn : cN σ 0 ≤ 8) {i j : Nat} (hi : i < cN σ 0) (hj : j < cN σ 0) : ad 0 i = ad 0 j ↔ i = j := by
  constructor
  · intro e
    have h1 := (h.1 i hi).2.2.2.2.2.1
    have h2 := (h.1 j hj).2.2.2.2.2.1
    rw [e] at h1
    exact nI_inj (by omega) (by omega) (h1.symm.trans h2)
  · intro e; rw [e]
theorem CS.inj {ad : AD} {S : HSt} {σ : Sg} (h : CS ad S σ) (hn : cN σ 1 ≤ 5) {i j : Nat} (hi : i < cN σ 1) (hj : j < cN σ 1) : ad 2 i = ad 2 j ↔ i = j := by
  constructor
  · intro e
    have h1 := (h.1 i hi).2.2.2.2.2.1
    have h2 := (h.1 j hj).2.2.2.2.2.1
    rw [e] at h1
    exact nI_inj (by omega) (by omega) (h1.symm.trans h2)
  · intro e; rw [e]
/-! price -/
def st_price (σ : Sg) (p v : Int32) : Int32 × Sg := if okN p (cN σ 0) then if 0 ≤ v ∧ v ≤ 99 then (dD σ 1302 (ix p), sD σ 1302 (ix p) v) else (-2, σ) else (-2, σ)
theorem r_price {g : Nat → Nat} {m : Nat} {S : HSt} {σ : Sg} (h : MR g m S σ) (hi : Inv σ) (p v : Int32) : wp_X12_price g m p v S (fun r S' => r = (st_price σ p v).1 ∧ MR g m S' (st_price σ p v).2) := by
  have hn := hi.1.1
  unfold wp_X12_price st_price
  refine r_isPort h (by omega) (fun ok => bs1 (r_in (fun ab => br1 ?_) (fun ab => br0 ?_))) (fun ok => bs0 ?_)
  · refine ⟨okN_in ok hn (by decide), fun v10 e => ⟨okN_in ok hn (by decide), fun S13 e13 => ?_⟩⟩
    subst e e13
    rw [if_pos ok, if_pos ab]
    exact ⟨h.a 1302 202 _, h.pA 1302 202 _ v⟩
  · rw [if_pos ok, if_neg ab]; exact ⟨rfl, h⟩
  · rw [if_neg ok]; exact ⟨rfl, h⟩
theorem c_price {ad : AD} {x : Nat} {S : HSt} {σ : Sg} (h : CR ad x S σ) (hi : Inv σ) (p v : Int32) : wp_X11_price x p v S (fun r S' => r = (st_price σ p v).1 ∧ ∃ ad', CR ad' x S' (st_price σ p v).2) := by
  have hn := hi.1.1
  unfold wp_X11_price st_price
  refine c_portAt h hi (fun ok => ⟨fun z => (by cases z), fun b e => ?_⟩) (fun ok => ⟨fun _ => ?_, fun b e => (by cases e)⟩)
  · cases e
    refine c_within (fun ab => br1 ?_) (fun ab => br0 ?_)
    · have hp := okN_lt ok (by omega)
      have e1 := h.2.2.1.1 _ hp
      refine ⟨e1.2.1, fun v11 e => fun S13 e13 => ?_⟩
      subst e e13
      rw [if_pos ok, if_pos ab]
      refine ⟨e1.2.2.2.2.2.2.2.1, ad, h.1.ks (Ks_uI rfl) (fun _ _ => rfl), h.2.1, ⟨fun j hj => ?_, h.2.2.1.2⟩, h.2.2.2⟩
      obtain ⟨a1, a2, a3, a4, a5, a6, a7, a8, a9⟩ := h.2.2.1.1 j hj
      exact ⟨a1, a2, a3, a4, a5, a6, a7, up_like (h.2.2.1.inj hn hj hp) a8, a9⟩
    · rw [if_pos ok, if_neg ab]; exact ⟨rfl, ad, h⟩
  · rw [if_neg ok]; exact ⟨rfl, ad, h⟩
theorem bet_of {v : Int32} {a b : Int32} {a' b' : Int} (h : a ≤ v ∧ v ≤ b) (ha : a.toInt = a') (hb : b.toInt = b') : bet v a' b' := ⟨by rw [← ha]; exact (i_le _ _).mp h.1, by rw [← hb]; exact (i_le _ _).mp h.2⟩
theorem v_price {σ : Sg} (hi : Inv σ) (p v : Int32) : Inv (st_price σ p v).2 := by
  unfold st_price
  split
  · split
    · rename_i ok ab
      obtain ⟨i0, i1, i2⟩ := hi
      refine ⟨i0, fun j hj => ⟨(i1 j hj).1, ?_⟩, i2⟩
      show bet (dD (sD σ 1302 (ix p) v) 1302 j) 0 99
      rw [dD_same]
      split
      · exact bet_of ab (by decide) (by decide)
      · exact (i1 j hj).2
    · exact hi
  · exact hi
