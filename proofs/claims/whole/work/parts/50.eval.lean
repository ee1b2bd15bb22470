/-! texts are worked out -/
def twoS (o x y : Int32) : Int32 := if o = 2 then (if x = 0 then (if y = 0 then 0 else 1) else 1) else if o = 3 then (if x = 0 then 0 else if y = 0 then 0 else 1) else if o = 4 then x * y else if o = 5 then (if y ≤ x then 0 else 1) else if o = 6 then (if x = y then 1 else 0) else if o = 7 then x + y else if o = 8 then x - y else x * y
def evF (op vl : Nat → Int32) (nm : Int32 → Int32) : Nat → Nat → (Nat → Int32) → Nat → (Nat → Int32)
  | 0, _, p, _ => p
  | n + 1, a, p, h => if op a = 0 then evF op vl nm n (a + 1) (upd p h (vl a)) (h + 1) else if op a = 1 then evF op vl nm n (a + 1) (upd p h (nm (vl a))) (h + 1) else if op a = 4 then evF op vl nm n (a + 1) (upd p (h - 1) (if p (h - 1) = 0 then 1 else 0)) h else if op a = 10 then evF op vl nm n (a + 1) (upd p (h - 1) (-(p (h - 1)))) h else evF op vl nm n (a + 1) (upd p (h - 2) (twoS (op a) (p (h - 2)) (p (h - 1)))) (h - 1)
theorem r_two {o x y : Int32} {S : HSt} {Post : Int32 → HSt → Prop} (hp : Post (twoS o x y) S) : wp_X12_two o x y S Post := by
  unfold twoS at hp
  refine ⟨fun e => ?_, fun n2 => ⟨fun e => ?_, fun n3 => ⟨fun e => ?_, fun n4 => ⟨fun e => ?_, fun n5 => ⟨fun e => ?_, fun n6 => ⟨fun e => ?_, fun n7 => ⟨fun e => ?_, fun n8 => ?_⟩⟩⟩⟩⟩⟩⟩
  · rw [if_pos e] at hp
    refine ⟨fun nx => ?_, fun x0 => ⟨fun y0 => ?_, fun ny => ?_⟩⟩
    · rw [if_neg nx] at hp; exact hp
    · rw [if_pos x0, if_pos y0] at hp; exact hp
    · rw [if_pos x0, if_neg ny] at hp; exact hp
  · rw [if_neg n2, if_pos e] at hp
    refine ⟨fun x0 => ?_, fun nx => ⟨fun y0 => ?_, fun ny => ?_⟩⟩
    · rw [if_pos x0] at hp; exact hp
    · rw [if_neg nx, if_pos y0] at hp; exact hp
    · rw [if_neg nx, if_neg ny] at hp; exact hp
  · rw [if_neg n2, if_neg n3, if_pos e] at hp; exact hp
  · rw [if_neg n2, if_neg n3, if_neg n4, if_pos e] at hp
    refine ⟨fun le => ?_, fun nl => ?_⟩
    · rw [if_pos le] at hp; exact hp
    · rw [if_neg nl] at hp; exact hp
  · rw [if_neg n2, if_neg n3, if_neg n4, if_neg n5, if_pos e] at hp
    refine ⟨fun ne => ?_, fun eq => ?_⟩
    · rw [if_neg ne] at hp; exact hp
    · rw [if_pos eq] at hp; exact hp
  · rw [if_neg n2, if_neg n3, if_neg n4, if_neg n5, if_neg n6, if_pos e] at hp; exact hp
  · rw [if_neg n2, if_neg n3, if_neg n4, if_neg n5, if_neg n6, if_neg n7, if_pos e] at hp; exact hp
  · rw [if_neg n2, if_neg n3, if_neg n4, if_neg n5, if_neg n6, if_neg n7, if_neg n8] at hp; exact hp
/-- what a name stands for -/
def nmS (σ : Sg) (c h : Nat) (over v : Int32) : Int32 := if v = 0 then dD σ 1312 (2000 * ix (dD σ 1331 c) + h) else if v = 1 then nI h / 24 - nI h / 24 / 7 * 7 else if v = 2 then nI h - nI h / 24 * 24 else if v = 3 then nI h - dD σ 1332 c else over
def shS (σ : Sg) (c : Nat) : Nat := ix (dD σ 1331 c)
theorem sh_ok {σ : Sg} (hi : Inv σ) {c : Nat} (hc : c < cN σ 4) : okN (dD σ 1331 c) (cN σ 1) ∧ shS σ c < cN σ 1 := by
  have := (hi.2.2.2.2.2.2.2.2.1 c hc).2.1
  exact ⟨this, okN_lt this (by have := hi.1.2.1; omega)⟩
theorem r_named {g : Nat → Nat} {m : Nat} {S : HSt} {σ : Sg} (h : MR g m S σ) (hi : Inv σ) {c hr : Nat} (hc : c < cN σ 4) (hh : hr < lgN σ (shS σ c)) (over v : Int32) {Post : Int32 → HSt → Prop} (hp : Post (nmS σ c hr over v) S) : wp_X12_named g m v (nI c) (nI hr) over S Post := by
  have h4 := hi.1.2.2.2.2.1
  have h1 := hi.1.2.1
  obtain ⟨os, ol⟩ := sh_ok hi hc
  have hl := (lg_eq hi ol).2
  have hin : vp_in (nI c) 12 := vp_in_nI (by omega) (by decide)
  have e1 : gA S 231 (g 1331) (nI c).toNatClampNeg = dD σ 1331 c := (h.a 1331 231 _).trans (by rw [nI_clamp (by omega)])
  have e2 : gA S 232 (g 1332) (nI c).toNatClampNeg = dD σ 1332 c := (h.a 1332 232 _).trans (by rw [nI_clamp (by omega)])
  unfold wp_X12_named
  unfold nmS at hp
  rw [e1, e2]
  have hs5 : shS σ c < 5 := by omega
  have ei : (2000 : Int32) * dD σ 1331 c + nI hr = nI (2000 * shS σ c + hr) := eq_add (eq_mul (k := 2000) (okN_eq os (by omega))) rfl
  refine ⟨fun e => ⟨hin, ?_⟩, fun n0 => ⟨fun e => ?_, fun n1 => ⟨fun e => ?_, fun n2 => ⟨fun e => ⟨hin, ?_⟩, fun n3 => ?_⟩⟩⟩⟩
  · rw [if_pos e] at hp
    rw [ei, nI_clamp (by omega), h.a 1312 112]
    exact ⟨vp_in_nI (by omega) (by decide), hp⟩
  · rw [if_neg n0, if_pos e] at hp; exact hp
  · rw [if_neg n0, if_neg n1, if_pos e] at hp; exact hp
  · rw [if_neg n0, if_neg n1, if_neg n2, if_pos e] at hp; exact hp
  · rw [if_neg n0, if_neg n1, if_neg n2, if_neg n3] at hp; exact hp
def txN (σ : Sg) (c : Nat) : Nat := ix (dD σ 1334 c)
def opT (σ : Sg) (t j : Nat) : Int32 := dD σ 1326 (160 * t + j)
def vlT (σ : Sg) (t j : Nat) : Int32 := dD σ 1327 (160 * t + j)
def p1T (σ : Sg) (t : Nat) : Nat := ix (dD σ 1328 (3 * t + 1))
def p2T (σ : Sg) (t : Nat) : Nat := ix (dD σ 1328 (3 * t + 2))
theorem tx_ok {σ : Sg} (hi : Inv σ) {c : Nat} (hc : c < cN σ 4) : okN (dD σ 1334 c) (cN σ 3) ∧ txN σ c < cN σ 3 := by
  have := (hi.2.2.2.2.2.2.2.2.1 c hc).2.2.2.2.2.1
  exact ⟨this, okN_lt this (by have := hi.1.2.2.2.1.2; omega)⟩
theorem okT_of {σ : Sg} (hi : Inv σ) {t : Nat} (ht : t < cN σ 3) : okT (opT σ t) (vlT σ t) (dD σ 1328 (3 * t)) (dD σ 1328 (3 * t + 1)) (dD σ 1328 (3 * t + 2)) := hi.2.2.2.2.2.2.2.2.2.2.2.2 t ht
def PT (g : Nat → Nat) (S : HSt) (h : Nat) (p : Nat → Int32) : Prop := ∀ i, i < h → gA S 259 (g 1359) i = p i
theorem r_worked_lp {g : Nat → Nat} {m : Nat} {σ : Sg} (hi : Inv σ) {c hr t : Nat} (hc : c < cN σ 4) (hh : hr < lgN σ (shS σ c)) (over : Int32) (ht : t < cN σ 3) {wh : Int32} {q e hf : Nat} (hq : (3 : Int32) * nI t + wh + 1 = nI q) (hqs : q < 3 * cN σ 3) (he : dD σ 1328 q = nI e) (he2 : e ≤ p2T σ t) (hp2 : p2T σ t ≤ 160) {K : Int32 → Int32 → HSt → Prop} : ∀ (n a h : Nat) (p : Nat → Int32) (S : HSt), a + n = e → h ≤ a → hg (opT σ t) a n h = some hf → MR g m S σ → PT g S h p → (∀ w S', MR g m S' σ → gI S' 1360 m = gI S 1360 m → gI S' 1361 m = gI S 1361 m → gI S' 1362 m = gI S 1362 m → PT g S' hf (evF (opT σ t) (vlT σ t) (nmS σ c hr over) n a p h) → K w (nI hf) S') → lp_X12_worked_31a g (nI t) wh m (nI c) (nI hr) over K (n + 1) (nI (160 * t + a)) (nI h) S := by
  have h3 := hi.1.2.2.2.1.2
  intro n
  induction n with
  | zero =>
    intro a h p S ea hha hg hM hP hK
    have hg : some h = some hf := hg
    cases hg
    have e1 : gA S 228 (g 1328) ((3 : Int32) * nI t + wh + 1).toNatClampNeg = nI e := by rw [hq, nI_clamp (by omega), hM.2.2.2.2.1 q hqs, he]
    have e2 : (160 : Int32) * nI t + nI e = nI (160 * t + e) := by rw [show (160 : Int32) * nI t = nI (160 * t) from pk_mul 160 t, nI_add]
    unfold lp_X12_worked_31a
    rw [e1, e2, hq]
    refine ⟨vp_in_nI (by omega) (by decide), fun _ => hK _ S hM rfl rfl rfl hP, fun z => ?_⟩
    rw [show a = e by omega] at z; exact absurd (Int32.le_refl _) z
  | succ n ih =>
    intro a h p S ea hha hgg hM hP hK
    have e1 : gA S 228 (g 1328) ((3 : Int32) * nI t + wh + 1).toNatClampNeg = nI e := by rw [hq, nI_clamp (by omega), hM.2.2.2.2.1 q hqs, he]
    have e2 : (160 : Int32) * nI t + nI e = nI (160 * t + e) := by rw [show (160 : Int32) * nI t = nI (160 * t) from pk_mul 160 t, nI_add]
    have hx : 160 * t + a < 160 * cN σ 3 := by omega
    have g1 : gA S 226 (g 1326) (nI (160 * t + a)).toNatClampNeg = opT σ t a := by rw [nI_clamp (by omega), (hM.2.2.2.1 _ hx).1]; rfl
    have g2 : gA S 227 (g 1327) (nI (160 * t + a)).toNatClampNeg = vlT σ t a := by rw [nI_clamp (by omega), (hM.2.2.2.1 _ hx).2]; rfl
    have hvx : vp_in (nI (160 * t + a)) 1120 := vp_in_nI (by omega) (by decide)
    have hne : ∀ v : Int32, v = nI (160 * t + a) + 1 → v = nI (160 * t + (a + 1)) := fun v hv => by rw [hv, nI_1]; rfl
    unfold lp_X12_worked_31a
    rw [e1, e2, hq]
    refine ⟨vp_in_nI (by omega) (by decide), fun z => absurd z (nI_ge (by omega) (by omega)), fun _ => ⟨hvx, fun v15 e15 => ?_⟩⟩
    rw [g1] at e15
    subst e15
    rw [g2]
    unfold hg at hgg
    -- the ways on
    have push : ∀ val : Int32, hg (opT σ t) (a + 1) n (h + 1) = some hf → (∀ w S', MR g m S' σ → gI S' 1360 m = gI S 1360 m → gI S' 1361 m = gI S 1361 m → gI S' 1362 m = gI S 1362 m → PT g S' hf (evF (opT σ t) (vlT σ t) (nmS σ c hr over) n (a + 1) (upd p h val) (h + 1)) → K w (nI hf) S') → vp_in (nI h) 180 ∧ ∀ S24 : HSt, S24 = uA S 259 (g 1359) (nI h).toNatClampNeg val → ∀ v27 : Int32, v27 = nI h + 1 → ∀ v29 : Int32, v29 = nI (160 * t + a) + 1 → lp_X12_worked_31a g (nI t) wh m (nI c) (nI hr) over K (n + 1) v29 v27 S24 := by
      intro val hgn hK
      refine ⟨vp_in_nI (by omega) (by decide), fun S24 e24 v27 e27 v29 e29 => ?_⟩
      rw [hne v29 e29, e27, nI_1]
      rw [nI_clamp (by omega)] at e24
      have hM2 : MR g m S24 σ := by rw [e24]; exact hM.pA0 259 _ _ _
      refine ih (a + 1) (h + 1) (upd p h val) S24 (by omega) (by omega) hgn hM2 (fun i hi' => ?_) (fun w S' k1 k2 k3 k4 k5 => hK w S' k1 (by rw [k2, e24]; rfl) (by rw [k3, e24]; rfl) (by rw [k4, e24]; rfl) k5)
      rw [e24, gA_uA, if_pos ⟨rfl, rfl⟩]
      by_cases h9 : i = h
      · subst h9; rw [pk_us, pk_us]
      · rw [pk_un h9, pk_un h9]; exact hP i (by omega)
    have turn : ∀ val : Int32, 1 ≤ h → hg (opT σ t) (a + 1) n h = some hf → (∀ w S', MR g m S' σ → gI S' 1360 m = gI S 1360 m → gI S' 1361 m = gI S 1361 m → gI S' 1362 m = gI S 1362 m → PT g S' hf (evF (opT σ t) (vlT σ t) (nmS σ c hr over) n (a + 1) (upd p (h - 1) val) h) → K w (nI hf) S') → vp_in (nI h - 1) 180 ∧ ∀ S24 : HSt, S24 = uA S 259 (g 1359) (nI h - 1).toNatClampNeg val → ∀ v29 : Int32, v29 = nI (160 * t + a) + 1 → lp_X12_worked_31a g (nI t) wh m (nI c) (nI hr) over K (n + 1) v29 (nI h) S24 := by
      intro val h1 hgn hK
      rw [nI_pr (by omega)]
      refine ⟨vp_in_nI (by omega) (by decide), fun S24 e24 v29 e29 => ?_⟩
      rw [hne v29 e29]
      rw [nI_clamp (by omega)] at e24
      have hM2 : MR g m S24 σ := by rw [e24]; exact hM.pA0 259 _ _ _
      refine ih (a + 1) h (upd p (h - 1) val) S24 (by omega) (by omega) hgn hM2 (fun i hi' => ?_) (fun w S' k1 k2 k3 k4 k5 => hK w S' k1 (by rw [k2, e24]; rfl) (by rw [k3, e24]; rfl) (by rw [k4, e24]; rfl) k5)
      rw [e24, gA_uA, if_pos ⟨rfl, rfl⟩]
      by_cases h9 : i = h - 1
      · subst h9; rw [pk_us, pk_us]
      · rw [pk_un h9, pk_un h9]; exact hP i (by omega)
    have hnm : opT σ t a = 0 ∨ opT σ t a = 1 → hg (opT σ t) (a + 1) n (h + 1) = some hf := fun z => by rw [if_pos z] at hgg; exact hgg
    have htn : opT σ t a = 4 ∨ opT σ t a = 10 → ¬ (opT σ t a = 0 ∨ opT σ t a = 1) → 1 ≤ h ∧ hg (opT σ t) (a + 1) n h = some hf := fun z nz => by
      rw [if_neg nz, if_pos z] at hgg
      split at hgg
      · exact ⟨by assumption, hgg⟩
      · cases hgg
    refine ⟨fun z0 => ⟨fun n0 => absurd z0 n0, fun _ => ⟨hvx, push _ (hnm (Or.inl z0)) (fun w S' k1 k2 k3 k4 k5 => hK w S' k1 k2 k3 k4 (by unfold evF; rw [if_pos z0]; exact k5))⟩⟩, fun n0 => ⟨fun n1 => ⟨fun n4 => ⟨fun n10 v43 e43 => ?_, fun z10 => ?_⟩, fun z4 => ?_⟩, fun z1 => ⟨fun _ => ⟨hvx, r_named hM hi hc hh over _ (push _ (hnm (Or.inr z1)) (fun w S' k1 k2 k3 k4 k5 => hK w S' k1 k2 k3 k4 (by unfold evF; rw [if_neg n0, if_pos z1]; exact k5)))⟩, fun z0 => absurd z0 n0⟩⟩⟩
    · have n01 : ¬ (opT σ t a = 0 ∨ opT σ t a = 1) := fun z => z.elim n0 n1
      have n410 : ¬ (opT σ t a = 4 ∨ opT σ t a = 10) := fun z => z.elim n4 n10
      rw [if_neg n01, if_neg n410] at hgg
      split at hgg
      case isFalse => cases hgg
      rename_i h2
      have e43' : v43 = nI (h - 1) := by rw [e43]; obtain ⟨k, rfl⟩ : ∃ k, h = k + 1 := ⟨h - 1, by omega⟩; exact pk_m1 k
      clear e43
      subst e43'
      rw [nI_pr (n := h - 1) (by omega), nI_clamp (by omega), nI_clamp (by omega), hP _ (by omega), hP _ (by omega)]
      refine ⟨vp_in_nI (by omega) (by decide), vp_in_nI (by omega) (by decide), r_two ⟨vp_in_nI (by omega) (by decide), fun S51 e51 v54 e54 => ?_⟩⟩
      rw [hne v54 e54]
      have hM2 : MR g m S51 σ := by rw [e51]; exact hM.pA0 259 _ _ _
      refine ih (a + 1) (h - 1) (upd p (h - 2) (twoS (opT σ t a) (p (h - 2)) (p (h - 1)))) S51 (by omega) (by omega) hgg hM2 (fun i hi' => ?_) (fun w S' k1 k2 k3 k4 k5 => hK w S' k1 (by rw [k2, e51]; rfl) (by rw [k3, e51]; rfl) (by rw [k4, e51]; rfl) (by unfold evF; rw [if_neg n0, if_neg n1, if_neg n4, if_neg n10]; exact k5))
      rw [e51, gA_uA, if_pos ⟨rfl, rfl⟩]
      by_cases h9 : i = h - 2
      · subst h9
        rw [show h - 1 - 1 = h - 2 by omega, pk_us, pk_us]
      · rw [pk_un (by omega), pk_un h9]; exact hP i (by omega)
    · obtain ⟨h1, hgn⟩ := htn (Or.inr z10) (fun z => z.elim n0 n1)
      rw [show gA S 259 (g 1359) (nI h - 1).toNatClampNeg = p (h - 1) by rw [nI_pr (by omega), nI_clamp (by omega)]; exact hP _ (by omega)]
      have := turn (-(p (h - 1))) h1 hgn (fun w S' k1 k2 k3 k4 k5 => hK w S' k1 k2 k3 k4 (by unfold evF; rw [if_neg n0, if_neg n1, if_neg n4, if_pos z10]; exact k5))
      exact ⟨this.1, this⟩
    · obtain ⟨h1, hgn⟩ := htn (Or.inl z4) (fun z => z.elim n0 n1)
      rw [show gA S 259 (g 1359) (nI h - 1).toNatClampNeg = p (h - 1) by rw [nI_pr (by omega), nI_clamp (by omega)]; exact hP _ (by omega)]
      have hin : vp_in (nI h - 1) 180 := by rw [nI_pr (by omega)]; exact vp_in_nI (by omega) (by decide)
      refine ⟨hin, fun nz => turn 0 h1 hgn (fun w S' k1 k2 k3 k4 k5 => hK w S' k1 k2 k3 k4 (by unfold evF; rw [if_neg n0, if_neg n1, if_pos z4, if_neg nz]; exact k5)), fun z => turn 1 h1 hgn (fun w S' k1 k2 k3 k4 k5 => hK w S' k1 k2 k3 k4 (by unfold evF; rw [if_neg n0, if_neg n1, if_pos z4, if_pos z]; exact k5))⟩
/-- the worth of a part of a charter's text at an hour -/
def wkS (σ : Sg) (c : Nat) (wh : Bool) (hr : Nat) (over : Int32) : Int32 := if wh then evF (opT σ (txN σ c)) (vlT σ (txN σ c)) (nmS σ c hr over) (p2T σ (txN σ c) - p1T σ (txN σ c)) (p1T σ (txN σ c)) (fun _ => 0) 0 0 else evF (opT σ (txN σ c)) (vlT σ (txN σ c)) (nmS σ c hr over) (p1T σ (txN σ c)) 0 (fun _ => 0) 0 0
theorem r_worked {g : Nat → Nat} {m : Nat} {S : HSt} {σ : Sg} (h : MR g m S σ) (hi : Inv σ) {c hr : Nat} (hc : c < cN σ 4) (hh : hr < lgN σ (shS σ c)) (over : Int32) (wh : Bool) {Post : Int32 → HSt → Prop} (hP : ∀ S', MR g m S' σ → gI S' 1360 m = gI S 1360 m → gI S' 1361 m = gI S 1361 m → gI S' 1362 m = gI S 1362 m → Post (wkS σ c wh hr over) S') : wp_X12_worked g m (if wh then 1 else 0) (nI c) (nI hr) over S Post := by
  have h3 := hi.1.2.2.2.1.2
  have h4 := hi.1.2.2.2.2.1
  obtain ⟨ot, tl⟩ := tx_ok hi hc
  obtain ⟨k0, k1, k2, k3, k4, k5, k6⟩ := okT_of hi tl
  obtain ⟨e1, l1⟩ := bet_nI (b := 160) k1
  obtain ⟨e2, l2⟩ := bet_nI (b := 160) k2
  have z0 : ((0 : Int32)).toNatClampNeg = 0 := by decide
  refine ⟨vp_in_nI (by omega) (by decide), fun v2 ev2 => ?_⟩
  rw [show gA S 234 (g 1334) (nI c).toNatClampNeg = nI (txN σ c) from (h.a 1334 234 _).trans (by rw [nI_clamp (by omega)]; exact okN_eq ot (by omega))] at ev2
  subst ev2
  have e3t : (3 : Int32) * nI (txN σ c) = nI (3 * txN σ c) := pk_mul 3 _
  have e160 : (160 : Int32) * nI (txN σ c) = nI (160 * txN σ c) := pk_mul 160 _
  have p12 : p1T σ (txN σ c) ≤ p2T σ (txN σ c) := k3
  have p2l : p2T σ (txN σ c) ≤ 160 := l2
  cases wh with
  | false =>
    simp only [Bool.false_eq_true, if_false]
    have eq0 : (3 : Int32) * nI (txN σ c) + 0 = nI (3 * txN σ c) := by rw [e3t]; exact nI_add _ 0
    rw [eq0, nI_clamp (by omega), h.2.2.2.2.1 _ (show 3 * txN σ c < 3 * cN σ 3 by omega), k0, e160]
    refine ⟨vp_in_nI (by omega) (by decide), fun v5 ev5 => ?_⟩
    rw [show nI (160 * txN σ c) + (0 : Int32) = nI (160 * txN σ c + 0) from nI_add _ 0] at ev5
    subst ev5
    refine ⟨p1T σ (txN σ c) + 1, r_worked_lp hi hc hh over tl (q := 3 * txN σ c + 1) (e := p1T σ (txN σ c)) (hf := 1) (by rw [eq0, nI_1]) (by omega) e1 p12 p2l (p1T σ (txN σ c)) 0 0 (fun _ => 0) S (by omega) (Nat.le_refl _) k5 h (fun i hi' => absurd hi' (Nat.not_lt_zero i)) (fun w S' m1 m2 m3 m4 m5 => ⟨vp_in_nI (n := 0) (by decide) (by decide), ?_⟩)⟩
    rw [z0, m5 0 (by decide)]
    exact hP S' m1 m2 m3 m4
  | true =>
    simp only [if_true]
    have eq0 : (3 : Int32) * nI (txN σ c) + 1 = nI (3 * txN σ c + 1) := by rw [e3t, nI_1]
    rw [eq0, nI_clamp (by omega), h.2.2.2.2.1 _ (show 3 * txN σ c + 1 < 3 * cN σ 3 by omega), e1, e160]
    refine ⟨vp_in_nI (by omega) (by decide), fun v5 ev5 => ?_⟩
    rw [show nI (160 * txN σ c) + nI (ix (dD σ 1328 (3 * txN σ c + 1))) = nI (160 * txN σ c + p1T σ (txN σ c)) from nI_add _ _] at ev5
    subst ev5
    refine ⟨p2T σ (txN σ c) - p1T σ (txN σ c) + 1, r_worked_lp hi hc hh over tl (q := 3 * txN σ c + 2) (e := p2T σ (txN σ c)) (hf := 1) (by rw [eq0, nI_1]) (by omega) e2 (Nat.le_refl _) p2l (p2T σ (txN σ c) - p1T σ (txN σ c)) (p1T σ (txN σ c)) 0 (fun _ => 0) S (by omega) (Nat.zero_le _) k6 h (fun i hi' => absurd hi' (Nat.not_lt_zero i)) (fun w S' m1 m2 m3 m4 m5 => ⟨vp_in_nI (n := 0) (by decide) (by decide), ?_⟩)⟩
    rw [z0, m5 0 (by decide)]
    exact hP S' m1 m2 m3 m4
