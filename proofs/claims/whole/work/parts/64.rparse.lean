/-! the reference reads a text -/
def gtL : List (Int32 × Int32) → Nat → Int32 × Int32
  | [], _ => (0, 0)
  | p :: _, 0 => p
  | _ :: L, n + 1 => gtL L n
theorem gtL_l : ∀ (A L : List (Int32 × Int32)) (j : Nat), j < A.length → gtL (A ++ L) j = gtL A j := by
  intro A
  induction A with
  | nil => intro L j h; exact absurd h (Nat.not_lt_zero j)
  | cons p A ih =>
    intro L j h
    cases j with
    | zero => rfl
    | succ j => exact ih L j (Nat.lt_of_succ_lt_succ h)
theorem gtL_e : ∀ (A : List (Int32 × Int32)) (p : Int32 × Int32) (L : List (Int32 × Int32)), gtL (A ++ p :: L) A.length = p := by
  intro A
  induction A with
  | nil => intro p L; rfl
  | cons q A ih => intro p L; exact ih p L
def HH (σ : Sg) (z N : Nat) : Prop := z ≤ 160 ∧ (∀ k, k < z → bet (dD σ 1323 k) 0 255) ∧ cN σ 3 ≤ 5 ∧ NT (dD σ 1323) z N
def TS (σ : Sg) (z i : Nat) : Int32 := tkN (dD σ 1323) z i
def PS (σ : Sg) (z i : Nat) : Nat := plN (dD σ 1323) z i
/-- the codes so far -/
def RA (g : Nat → Nat) (σ : Sg) (acc : List (Int32 × Int32)) (S : HSt) : Prop := ∀ j, j < acc.length → gA S 226 (g 1326) (160 * cN σ 3 + j) = (gtL acc j).1 ∧ gA S 227 (g 1327) (160 * cN σ 3 + j) = (gtL acc j).2
def RS (g : Nat → Nat) (m : Nat) (σ : Sg) (z i : Nat) (acc : List (Int32 × Int32)) (o : Nat) (e : Bool) (S : HSt) : Prop := RP g m σ z S ∧ gI S 1356 m = (if e then nI (PS σ z i) else -1) ∧ (e = false → gI S 1357 m = nI o ∧ RD (dD σ 1323) z (psN (dD σ 1323) z i) m S) ∧ gI S 1358 m = nI acc.length ∧ RA g σ acc S
theorem RS.tk {g : Nat → Nat} {m : Nat} {σ : Sg} {z i o : Nat} {acc : List (Int32 × Int32)} {S : HSt} (h : RS g m σ z i acc o false S) : gI S 1354 m = rtk (TS σ z i) := (h.2.2.1 rfl).2.2.2.1
theorem RS.tl {g : Nat → Nat} {m : Nat} {σ : Sg} {z i o : Nat} {acc : List (Int32 × Int32)} {S : HSt} (h : RS g m σ z i acc o false S) (v : isV (TS σ z i)) : gI S 1355 m = tld (TS σ z i) := (h.2.2.1 rfl).2.2.2.2 v
theorem TS_ok (σ : Sg) (z i : Nat) : okTk (TS σ z i) := tkN_ok
theorem PS_le (σ : Sg) (z i : Nat) : PS σ z i ≤ z := plN_le i
theorem r_wr {g : Nat → Nat} {m : Nat} {σ : Sg} {z i o : Nat} {acc : List (Int32 × Int32)} {e : Bool} {S : HSt} (hz : z ≤ 160) (h : RS g m σ z i acc o e S) {Post : Int32 → HSt → Prop} (h0 : e = false → Post 0 S) (h1 : e = true → Post 1 S) : wp_X12_isWrong g m S Post := by
  unfold wp_X12_isWrong
  rw [h.2.1]
  cases e with
  | false => exact ⟨fun _ => h0 rfl, fun n => absurd rfl n⟩
  | true =>
    refine ⟨fun q => ?_, fun _ => h1 rfl⟩
    have q : nI (PS σ z i) = -1 := q
    have := PS_le σ z i
    have e9 := nI_toInt (n := PS σ z i) (by omega)
    rw [q] at e9
    have e1 : (-1 : Int32).toInt = -1 := by decide
    omega
theorem r_nx {g : Nat → Nat} {m : Nat} {σ : Sg} {z N i o : Nat} {acc : List (Int32 × Int32)} {S : HSt} (H : HH σ z N) (h : RS g m σ z i acc o false S) {Post : Unit → HSt → Prop} (hP : ∀ S', RS g m σ z (i + 1) acc o false S' → Post () S') : wp_X12_next g m S Post := by
  refine r_next H.1 H.2.1 (p := psN (dD σ 1323) z (i + 1)) (psN_le _) h.1 (h.2.2.1 rfl).2.2.1 (fun S' k1 k2 k3 => hP S' ⟨k1, ?_, fun _ => ⟨?_, k3⟩, ?_, ?_⟩)
  · rw [k2.2 1356 (by decide) (by decide) (by decide) (by decide)]; exact h.2.1
  · rw [k2.2 1357 (by decide) (by decide) (by decide) (by decide)]; exact (h.2.2.1 rfl).1
  · rw [k2.2 1358 (by decide) (by decide) (by decide) (by decide)]; exact h.2.2.2.1
  · unfold RA; rw [k2.1]; exact h.2.2.2.2
theorem RP.a226 {g : Nat → Nat} {m : Nat} {σ : Sg} {z q : Nat} {S : HSt} (h : RP g m σ z S) (hq : 160 * cN σ 3 ≤ q) (v : Int32) : RP g m σ z (uA S 226 (g 1326) q v) := by
  refine ⟨⟨⟨h.1.1.1.ks (Ks_uA rfl), h.1.1.2.1, fun r hr j => ?_, fun j hj => ?_, fun j hj => ?_, fun j hj => ?_⟩, h.1.2⟩, h.2⟩
  · rw [gA_uA, if_neg (fun y => (mpers_no r hr).2.2.2.1 y.1)]; exact h.1.1.2.2.1 r hr j
  · rw [gA_uA, gA_uA, if_pos ⟨rfl, rfl⟩, if_neg (fun y => absurd y.1 (by decide)), pk_un (by omega)]; exact h.1.1.2.2.2.1 j hj
  · rw [gA_uA, if_neg (fun y => absurd y.1 (by decide))]; exact h.1.1.2.2.2.2.1 j hj
  · rw [gA_uA, if_neg (fun y => absurd y.1 (by decide))]; exact h.1.1.2.2.2.2.2 j hj
theorem RP.a227 {g : Nat → Nat} {m : Nat} {σ : Sg} {z q : Nat} {S : HSt} (h : RP g m σ z S) (hq : 160 * cN σ 3 ≤ q) (v : Int32) : RP g m σ z (uA S 227 (g 1327) q v) := by
  refine ⟨⟨⟨h.1.1.1.ks (Ks_uA rfl), h.1.1.2.1, fun r hr j => ?_, fun j hj => ?_, fun j hj => ?_, fun j hj => ?_⟩, h.1.2⟩, h.2⟩
  · rw [gA_uA, if_neg (fun y => (mpers_no r hr).2.2.2.2.1 y.1)]; exact h.1.1.2.2.1 r hr j
  · rw [gA_uA, gA_uA, if_neg (fun y => absurd y.1 (by decide)), if_pos ⟨rfl, rfl⟩, pk_un (by omega)]; exact h.1.1.2.2.2.1 j hj
  · rw [gA_uA, if_neg (fun y => absurd y.1 (by decide))]; exact h.1.1.2.2.2.2.1 j hj
  · rw [gA_uA, if_neg (fun y => absurd y.1 (by decide))]; exact h.1.1.2.2.2.2.2 j hj
theorem RP.a228 {g : Nat → Nat} {m : Nat} {σ : Sg} {z : Nat} {S : HSt} (h : RP g m σ z S) (q : Nat) (v : Int32) : RP g m (sD σ 1328 q v) z (uA S 228 (g 1328) q v) := by
  have key : ∀ i, gA (uA S 228 (g 1328) q v) 228 (g 1328) i = dD (sD σ 1328 q v) 1328 i := by
    intro i
    rw [gA_uA, if_pos ⟨rfl, rfl⟩, dD_same]
    by_cases y : i = q
    · subst y; rw [pk_us, if_pos rfl]
    · rw [pk_un y, if_neg y]; exact h.1.2 i
  refine ⟨⟨⟨h.1.1.1.ks (Ks_uA rfl), h.1.1.2.1, fun r hr j => ?_, fun j hj => ?_, fun j hj => key j, fun j hj => ?_⟩, key⟩, h.2⟩
  · rw [gA_uA, if_neg (fun y => (mpers_no r hr).2.2.2.2.2.1 y.1), dD_sD, if_neg (fun y => (mpers_no r hr).2.2.1 y.1)]; exact h.1.1.2.2.1 r hr j
  · rw [gA_uA, gA_uA, dD_sD, dD_sD, if_neg (fun y => absurd y.1 (by decide)), if_neg (fun y => absurd y.1 (by decide)), if_neg (fun y => absurd y.1 (by decide)), if_neg (fun y => absurd y.1 (by decide))]; exact h.1.1.2.2.2.1 j hj
  · rw [gA_uA, if_neg (fun y => absurd y.1 (by decide))]; exact h.1.1.2.2.2.2.2 j hj
theorem r_emit {g : Nat → Nat} {m : Nat} {σ : Sg} {z N i o : Nat} {acc : List (Int32 × Int32)} {e : Bool} {S : HSt} (H : HH σ z N) (h : RS g m σ z i acc o e S) (hb : acc.length ≤ 300) (a b : Int32) {Post : Unit → HSt → Prop} (hP : ∀ S', RS g m σ z i (acc ++ [(a, b)]) o e S' → Post () S') : wp_X12_emit g m a b S Post := by
  have ht := H.2.2.1
  have ei : (160 : Int32) * gI S 1351 m + gI S 1358 m = nI (160 * cN σ 3 + acc.length) := by
    rw [h.1.2.2, h.2.2.2.1, show (160 : Int32) * nI (cN σ 3) = nI (160 * cN σ 3) from pk_mul 160 _, nI_add]
  have hin : vp_in (nI (160 * cN σ 3 + acc.length)) 1120 := vp_in_nI (by omega) (by decide)
  have hc : (nI (160 * cN σ 3 + acc.length)).toNatClampNeg = 160 * cN σ 3 + acc.length := nI_clamp (by omega)
  unfold wp_X12_emit
  rw [ei, hc]
  refine ⟨hin, fun S2 e2 => ?_⟩
  have ei2 : (160 : Int32) * gI S2 1351 m + gI S2 1358 m = nI (160 * cN σ 3 + acc.length) := by rw [e2]; exact ei
  rw [ei2, hc]
  refine ⟨hin, fun S6 e6 S9 e9 => hP S9 ?_⟩
  have gi : gI S6 = gI S := by rw [e6, e2]; rfl
  have h6 : RP g m σ z S6 := by rw [e6, e2]; exact (h.1.a226 (by omega) _).a227 (by omega) _
  refine ⟨by rw [e9]; exact h6.u 1358 _ (by decide) (by decide), ?_, fun ef => ⟨?_, ?_⟩, ?_, fun j hj => ?_⟩
  · rw [e9]
    show gI S6 1356 m = _
    rw [gi]; exact h.2.1
  · rw [e9]
    show gI S6 1357 m = _
    rw [gi]; exact (h.2.2.1 ef).1
  · have r := (h.2.2.1 ef).2
    unfold RD at r ⊢
    rw [e9]
    show gI S6 1353 m = _ ∧ gI S6 1352 m = _ ∧ gI S6 1354 m = _ ∧ (_ → gI S6 1355 m = _)
    rw [gi]; exact r
  · rw [e9, gI_same, if_pos rfl, gi, h.2.2.2.1, nI_1, List.length_append]; rfl
  · rw [List.length_append, List.length_singleton] at hj
    rw [e9]
    show gA S6 226 (g 1326) _ = _ ∧ gA S6 227 (g 1327) _ = _
    have ea : gA S6 226 (g 1326) = upd (gA S 226 (g 1326)) (160 * cN σ 3 + acc.length) a := by
      rw [e6, gA_uA, if_neg (fun y => absurd y.1 (by decide)), e2, gA_uA, if_pos ⟨rfl, rfl⟩]
    have eb : gA S6 227 (g 1327) = upd (gA S 227 (g 1327)) (160 * cN σ 3 + acc.length) b := by
      rw [e6, gA_uA, if_pos ⟨rfl, rfl⟩, e2, gA_uA, if_neg (fun y => absurd y.1 (by decide))]
    rw [ea, eb]
    by_cases q : j = acc.length
    · subst q
      rw [pk_us, pk_us, gtL_e]; exact ⟨rfl, rfl⟩
    · rw [pk_un (by omega), pk_un (by omega), gtL_l _ _ _ (by omega)]
      exact h.2.2.2.2 j (by omega)
theorem RS.o {g : Nat → Nat} {m : Nat} {σ : Sg} {z i o o' : Nat} {acc : List (Int32 × Int32)} {S : HSt} (h : RS g m σ z i acc o true S) : RS g m σ z i acc o' true S := ⟨h.1, h.2.1, fun q => (by cases q), h.2.2.2⟩
theorem r_cant {g : Nat → Nat} {m : Nat} {σ : Sg} {z i o : Nat} {acc : List (Int32 × Int32)} {S : HSt} (h : RS g m σ z i acc o false S) {Post : Unit → HSt → Prop} (hP : ∀ S', RS g m σ z i acc o true S' → gI S' 1357 m = gI S 1357 m → Post () S') : wp_X12_cannot g m S Post := by
  refine ⟨fun n => absurd h.2.1 n, fun _ S5 e5 => hP S5 ⟨by rw [e5]; exact h.1.u 1356 _ (by decide) (by decide), ?_, fun q => (by cases q), by rw [e5]; exact h.2.2.2.1, by rw [e5]; exact h.2.2.2.2⟩ (by rw [e5]; rfl)⟩
  rw [e5, gI_same, if_pos rfl]
  exact (h.2.2.1 rfl).2.1
theorem r_need {g : Nat → Nat} {m : Nat} {σ : Sg} {z N i o : Nat} {acc : List (Int32 × Int32)} {e : Bool} {S : HSt} (H : HH σ z N) (h : RS g m σ z i acc o e S) {c t : Int32} (hc : ∀ {t' : Int32}, okTk t' → (rtk t' = c ↔ t' = t)) {Post : Unit → HSt → Prop} (h1 : e = true → Post () S) (h2 : e = false → TS σ z i = t → ∀ S', RS g m σ z (i + 1) acc o false S' → Post () S') (h3 : e = false → TS σ z i ≠ t → ∀ S', RS g m σ z i acc o true S' → Post () S') : wp_X12_need g m c S Post := by
  refine r_wr H.1 h (fun e0 => ⟨fun _ => ?_, fun q => absurd rfl q⟩) (fun e1 => ⟨fun q => absurd q (by decide), fun _ => h1 e1⟩)
  subst e0
  rw [h.tk]
  refine ⟨fun q => r_nx H h (fun S' k => h2 rfl ((hc (TS_ok σ z i)).mp q) S' k), fun q => r_cant h (fun S' k _ => h3 rfl (fun y => q ((hc (TS_ok σ z i)).mpr y)) S' k)⟩
theorem RS.u57 {g : Nat → Nat} {m : Nat} {σ : Sg} {z i o : Nat} {acc : List (Int32 × Int32)} {e : Bool} {S : HSt} (h : RS g m σ z i acc o e S) (o' : Nat) (v : Int32) (hv : e = false → v = nI o') : RS g m σ z i acc o' e (uI S 1357 m v) := by
  refine ⟨h.1.u 1357 _ (by decide) (by decide), h.2.1, fun ef => ⟨by rw [gI_same, if_pos rfl]; exact hv ef, (h.2.2.1 ef).2⟩, h.2.2.2.1, h.2.2.2.2⟩
theorem r_op {g : Nat → Nat} {m : Nat} {σ : Sg} {z N i o : Nat} {acc : List (Int32 × Int32)} {S : HSt} (H : HH σ z N) (ho : o ≤ 5) (h : RS g m σ z i acc o false S) {Post : Unit → HSt → Prop} (h1 : o < 5 → ∀ S', RS g m σ z (i + 1) acc (o + 1) false S' → Post () S') (h0 : ¬ o < 5 → ∀ S', RS g m σ z i acc (o + 1) true S' → Post () S') : wp_X12_opens g m S Post := by
  unfold wp_X12_opens
  rw [(h.2.2.1 rfl).1]
  refine ⟨fun n S2 e2 => ?_, fun q => r_cant h (fun S13 k kk S15 e15 => ?_)⟩
  · have hlt : o < 5 := by
      by_cases y : o < 5
      · exact y
      · exact absurd (show nI o = 5 by rw [show o = 5 by omega]; rfl) n
    have hs : RS g m σ z i acc (o + 1) false S2 := by rw [e2]; exact h.u57 _ _ (fun _ => nI_1 _)
    exact r_wr H.1 hs (fun _ => ⟨fun y => absurd rfl y, fun _ => r_nx H hs (fun S' k => h1 hlt S' k)⟩) (fun e1 => by cases e1)
  · have hge : ¬ o < 5 := by
      intro y
      have := nI_inj (a := o) (b := 5) (by omega) (by decide) q
      omega
    have hs : RS g m σ z i acc (o + 1) true S15 := by rw [e15]; exact k.u57 _ _ (fun q => by cases q)
    exact r_wr H.1 hs (fun e1 => by cases e1) (fun _ => ⟨fun _ => h0 hge _ hs, fun y => absurd y (by decide)⟩)
theorem lv_0 {t : Int32} : lvT t = 0 ↔ t = -1 := by
  unfold lvT
  constructor
  · intro h
    repeat' (split at h)
    all_goals first
      | assumption
      | omega
  · intro h; subst h; decide
theorem lv_1 {t : Int32} : lvT t = 1 ↔ t = -2 := by
  unfold lvT
  constructor
  · intro h
    repeat' (split at h)
    all_goals first
      | assumption
      | omega
  · intro h; subst h; decide
theorem lv_4 {t : Int32} : lvT t = 4 ↔ t = -8 := by
  unfold lvT
  constructor
  · intro h
    repeat' (split at h)
    all_goals first
      | assumption
      | omega
  · intro h; subst h; decide
theorem lv_2 {t : Int32} : lvT t = 2 ↔ (t = -4 ∨ t = -5) := by
  unfold lvT
  constructor
  · intro h
    repeat' (split at h)
    all_goals first
      | (apply Or.inl; assumption)
      | (apply Or.inr; assumption)
      | omega
  · intro h; rcases h with h | h <;> subst h <;> decide
theorem lv_3 {t : Int32} : lvT t = 3 ↔ (t = -6 ∨ t = -7) := by
  unfold lvT
  constructor
  · intro h
    repeat' (split at h)
    all_goals first
      | (apply Or.inl; assumption)
      | (apply Or.inr; assumption)
      | omega
  · intro h; rcases h with h | h <;> subst h <;> decide
/-- what a reading function does -/
def RF (g : Nat → Nat) (m : Nat) (σ : Sg) (z N o : Nat) (f : Nat → PRs) (W : HSt → (Unit → HSt → Prop) → Prop) : Prop := ∀ (i : Nat) (acc : List (Int32 × Int32)) (S : HSt) (Post : Unit → HSt → Prop), i ≤ N → acc.length + 1 ≤ i → RS g m σ z i acc o false S → (∀ S', RS g m σ z (f i).1 (acc ++ (f i).2.1) o (f i).2.2 S' → Post () S') → W S Post
/-- a joint and what is behind it -/
theorem r_joint {g : Nat → Nat} {m : Nat} {σ : Sg} {z N o : Nat} (H : HH σ z N) {f : Nat → PRs} {W : HSt → (Unit → HSt → Prop) → Prop} (hW : RF g m σ z N o f W) (hfok : ∀ i, i ≤ N → gdR N i (f i)) {i : Nat} {acc : List (Int32 × Int32)} {S : HSt} (h : RS g m σ z i acc o false S) (hi : i < N) (hb : acc.length + 1 ≤ i) (op : Int32) {Post : Unit → HSt → Prop} (hP : ∀ S', RS g m σ z (f (i + 1)).1 (acc ++ (f (i + 1)).2.1 ++ [(op, 0)]) o (f (i + 1)).2.2 S' → Post () S') : wp_X12_next g m S (fun _ S13 => W S13 (fun _ S16 => wp_X12_emit g m op 0 S16 Post)) := by
  obtain ⟨g1, g2, g3, g4⟩ := hfok (i + 1) hi
  have hN := H.2.2.2.1
  have hz := H.1
  refine r_nx H h (fun S13 k1 => hW (i + 1) acc S13 _ hi (by omega) k1 (fun S16 k2 => r_emit H k2 ?_ op 0 hP))
  rw [List.length_append]
  have : (if (f (i + 1)).2.2 = true then 1 else 0) ≤ 1 := by split <;> omega
  omega
theorem r_lp_either {g : Nat → Nat} {m : Nat} {σ : Sg} {z N o : Nat} (H : HH σ z N) {f : Nat → PRs} {rec : Nat → Nat → HSt → (Unit → HSt → Prop) → Prop} (hW : RF g m σ z N o f (rec 1 m)) (hfok : ∀ i, i ≤ N → gdR N i (f i)) {K : HSt → Prop} (acc : List (Int32 × Int32)) : ∀ (k : Nat) (r : PRs) (S : HSt), N ≤ r.1 + k → r.1 ≤ N → (acc ++ r.2.1).length + 1 ≤ r.1 + (if r.2.2 then 1 else 0) → RS g m σ z r.1 (acc ++ r.2.1) o r.2.2 S → (∀ S', RS g m σ z (lpP (TS σ z) f 0 k r).1 (acc ++ (lpP (TS σ z) f 0 k r).2.1) o (lpP (TS σ z) f 0 k r).2.2 S' → K S') → lp_X12_either_4a g rec m K (k + 1) S := by
  intro k
  induction k with
  | zero =>
    intro r S hk hr hb h hK
    refine r_wr H.1 h (fun e0 => ⟨fun q => absurd rfl q, fun _ => ?_⟩) (fun e1 => ⟨fun _ => hK S h, fun q => absurd q (by decide)⟩)
    have h' := h
    rw [e0] at h'
    rw [h'.tk]
    refine ⟨fun _ => hK S h, fun q => ?_⟩
    have t0 : TS σ z r.1 = -26 := by rw [show r.1 = N by omega]; exact tk_end H.2.2.2
    rw [t0] at q
    exact absurd q (by decide)
  | succ k ih =>
    intro r S hk hr hb h hK
    unfold lpP at hK
    refine r_wr H.1 h (fun e0 => ⟨fun q => absurd rfl q, fun _ => ?_⟩) (fun e1 => ⟨fun _ => ?_, fun q => absurd q (by decide)⟩)
    · have h' := h
      rw [e0] at h' hb
      rw [h'.tk]
      rw [if_neg (Bool.eq_false_iff.mp e0)] at hK
      refine ⟨fun q => ?_, fun q => ?_⟩
      · rw [if_neg (fun y => q ((rtk_or (TS_ok σ z r.1)).mpr (lv_0.mp y)))] at hK
        exact hK S h
      · have et := (rtk_or (TS_ok σ z r.1)).mp q
        have hlt : r.1 < N := by
          by_cases y : r.1 = N
          · rw [y, show TS σ z N = -26 from tk_end H.2.2.2] at et; exact absurd et (by decide)
          · omega
        rw [if_pos (lv_0.mpr et)] at hK
        have hb : (acc ++ r.2.1).length + 1 ≤ r.1 := hb
        obtain ⟨g1, g2, g3, g4⟩ := hfok (r.1 + 1) hlt
        refine r_joint H hW hfok h' hlt hb 2 (fun S19 k19 => ih ((f (r.1 + 1)).1, r.2.1 ++ (f (r.1 + 1)).2.1 ++ [(1 - TS σ z r.1, 0)], (f (r.1 + 1)).2.2) S19 ?_ g2 ?_ ?_ hK)
        · show N ≤ (f (r.1 + 1)).1 + k
          omega
        · show (acc ++ (r.2.1 ++ (f (r.1 + 1)).2.1 ++ [(1 - TS σ z r.1, 0)])).length + 1 ≤ (f (r.1 + 1)).1 + (if (f (r.1 + 1)).2.2 then 1 else 0)
          rw [List.length_append] at hb
          rw [List.length_append, List.length_append, List.length_append, List.length_singleton]
          omega
        · show RS g m σ z (f (r.1 + 1)).1 (acc ++ (r.2.1 ++ (f (r.1 + 1)).2.1 ++ [(1 - TS σ z r.1, 0)])) o (f (r.1 + 1)).2.2 S19
          rw [et, ← List.append_assoc, ← List.append_assoc]
          exact k19
    · rw [if_pos e1] at hK
      exact hK S h
theorem r_lp_both {g : Nat → Nat} {m : Nat} {σ : Sg} {z N o : Nat} (H : HH σ z N) {f : Nat → PRs} {rec : Nat → Nat → HSt → (Unit → HSt → Prop) → Prop} (hW : RF g m σ z N o f (rec 2 m)) (hfok : ∀ i, i ≤ N → gdR N i (f i)) {K : HSt → Prop} (acc : List (Int32 × Int32)) : ∀ (k : Nat) (r : PRs) (S : HSt), N ≤ r.1 + k → r.1 ≤ N → (acc ++ r.2.1).length + 1 ≤ r.1 + (if r.2.2 then 1 else 0) → RS g m σ z r.1 (acc ++ r.2.1) o r.2.2 S → (∀ S', RS g m σ z (lpP (TS σ z) f 1 k r).1 (acc ++ (lpP (TS σ z) f 1 k r).2.1) o (lpP (TS σ z) f 1 k r).2.2 S' → K S') → lp_X12_both_4a g rec m K (k + 1) S := by
  intro k
  induction k with
  | zero =>
    intro r S hk hr hb h hK
    refine r_wr H.1 h (fun e0 => ⟨fun q => absurd rfl q, fun _ => ?_⟩) (fun e1 => ⟨fun _ => hK S h, fun q => absurd q (by decide)⟩)
    have h' := h
    rw [e0] at h'
    rw [h'.tk]
    refine ⟨fun _ => hK S h, fun q => ?_⟩
    have t0 : TS σ z r.1 = -26 := by rw [show r.1 = N by omega]; exact tk_end H.2.2.2
    rw [t0] at q
    exact absurd q (by decide)
  | succ k ih =>
    intro r S hk hr hb h hK
    unfold lpP at hK
    refine r_wr H.1 h (fun e0 => ⟨fun q => absurd rfl q, fun _ => ?_⟩) (fun e1 => ⟨fun _ => ?_, fun q => absurd q (by decide)⟩)
    · have h' := h
      rw [e0] at h' hb
      rw [h'.tk]
      rw [if_neg (Bool.eq_false_iff.mp e0)] at hK
      refine ⟨fun q => ?_, fun q => ?_⟩
      · rw [if_neg (fun y => q ((rtk_and (TS_ok σ z r.1)).mpr (lv_1.mp y)))] at hK
        exact hK S h
      · have et := (rtk_and (TS_ok σ z r.1)).mp q
        have hlt : r.1 < N := by
          by_cases y : r.1 = N
          · rw [y, show TS σ z N = -26 from tk_end H.2.2.2] at et; exact absurd et (by decide)
          · omega
        rw [if_pos (lv_1.mpr et)] at hK
        have hb : (acc ++ r.2.1).length + 1 ≤ r.1 := hb
        obtain ⟨g1, g2, g3, g4⟩ := hfok (r.1 + 1) hlt
        refine r_joint H hW hfok h' hlt hb 3 (fun S19 k19 => ih ((f (r.1 + 1)).1, r.2.1 ++ (f (r.1 + 1)).2.1 ++ [(1 - TS σ z r.1, 0)], (f (r.1 + 1)).2.2) S19 ?_ g2 ?_ ?_ hK)
        · show N ≤ (f (r.1 + 1)).1 + k
          omega
        · show (acc ++ (r.2.1 ++ (f (r.1 + 1)).2.1 ++ [(1 - TS σ z r.1, 0)])).length + 1 ≤ (f (r.1 + 1)).1 + (if (f (r.1 + 1)).2.2 then 1 else 0)
          rw [List.length_append] at hb
          rw [List.length_append, List.length_append, List.length_append, List.length_singleton]
          omega
        · show RS g m σ z (f (r.1 + 1)).1 (acc ++ (r.2.1 ++ (f (r.1 + 1)).2.1 ++ [(1 - TS σ z r.1, 0)])) o (f (r.1 + 1)).2.2 S19
          rw [et, ← List.append_assoc, ← List.append_assoc]
          exact k19
    · rw [if_pos e1] at hK
      exact hK S h
theorem r_lp_term {g : Nat → Nat} {m : Nat} {σ : Sg} {z N o : Nat} (H : HH σ z N) {f : Nat → PRs} {rec : Nat → Nat → HSt → (Unit → HSt → Prop) → Prop} (hW : RF g m σ z N o f (rec 5 m)) (hfok : ∀ i, i ≤ N → gdR N i (f i)) {K : HSt → Prop} (acc : List (Int32 × Int32)) : ∀ (k : Nat) (r : PRs) (S : HSt), N ≤ r.1 + k → r.1 ≤ N → (acc ++ r.2.1).length + 1 ≤ r.1 + (if r.2.2 then 1 else 0) → RS g m σ z r.1 (acc ++ r.2.1) o r.2.2 S → (∀ S', RS g m σ z (lpP (TS σ z) f 4 k r).1 (acc ++ (lpP (TS σ z) f 4 k r).2.1) o (lpP (TS σ z) f 4 k r).2.2 S' → K S') → lp_X12_term_4a g rec m K (k + 1) S := by
  intro k
  induction k with
  | zero =>
    intro r S hk hr hb h hK
    refine r_wr H.1 h (fun e0 => ⟨fun q => absurd rfl q, fun _ => ?_⟩) (fun e1 => ⟨fun _ => hK S h, fun q => absurd q (by decide)⟩)
    have h' := h
    rw [e0] at h'
    rw [h'.tk]
    refine ⟨fun _ => hK S h, fun q => ?_⟩
    have t0 : TS σ z r.1 = -26 := by rw [show r.1 = N by omega]; exact tk_end H.2.2.2
    rw [t0] at q
    exact absurd q (by decide)
  | succ k ih =>
    intro r S hk hr hb h hK
    unfold lpP at hK
    refine r_wr H.1 h (fun e0 => ⟨fun q => absurd rfl q, fun _ => ?_⟩) (fun e1 => ⟨fun _ => ?_, fun q => absurd q (by decide)⟩)
    · have h' := h
      rw [e0] at h' hb
      rw [h'.tk]
      rw [if_neg (Bool.eq_false_iff.mp e0)] at hK
      refine ⟨fun q => ?_, fun q => ?_⟩
      · rw [if_neg (fun y => q ((rtk_ti (TS_ok σ z r.1)).mpr (lv_4.mp y)))] at hK
        exact hK S h
      · have et := (rtk_ti (TS_ok σ z r.1)).mp q
        have hlt : r.1 < N := by
          by_cases y : r.1 = N
          · rw [y, show TS σ z N = -26 from tk_end H.2.2.2] at et; exact absurd et (by decide)
          · omega
        rw [if_pos (lv_4.mpr et)] at hK
        have hb : (acc ++ r.2.1).length + 1 ≤ r.1 := hb
        obtain ⟨g1, g2, g3, g4⟩ := hfok (r.1 + 1) hlt
        refine r_joint H hW hfok h' hlt hb 9 (fun S19 k19 => ih ((f (r.1 + 1)).1, r.2.1 ++ (f (r.1 + 1)).2.1 ++ [(1 - TS σ z r.1, 0)], (f (r.1 + 1)).2.2) S19 ?_ g2 ?_ ?_ hK)
        · show N ≤ (f (r.1 + 1)).1 + k
          omega
        · show (acc ++ (r.2.1 ++ (f (r.1 + 1)).2.1 ++ [(1 - TS σ z r.1, 0)])).length + 1 ≤ (f (r.1 + 1)).1 + (if (f (r.1 + 1)).2.2 then 1 else 0)
          rw [List.length_append] at hb
          rw [List.length_append, List.length_append, List.length_append, List.length_singleton]
          omega
        · show RS g m σ z (f (r.1 + 1)).1 (acc ++ (r.2.1 ++ (f (r.1 + 1)).2.1 ++ [(1 - TS σ z r.1, 0)])) o (f (r.1 + 1)).2.2 S19
          rw [et, ← List.append_assoc, ← List.append_assoc]
          exact k19
    · rw [if_pos e1] at hK
      exact hK S h
theorem r_lp_added {g : Nat → Nat} {m : Nat} {σ : Sg} {z N o : Nat} (H : HH σ z N) {f : Nat → PRs} {rec : Nat → Nat → HSt → (Unit → HSt → Prop) → Prop} (hW : RF g m σ z N o f (rec 4 m)) (hfok : ∀ i, i ≤ N → gdR N i (f i)) {K : HSt → Prop} (acc : List (Int32 × Int32)) : ∀ (k : Nat) (r : PRs) (S : HSt), N ≤ r.1 + k → r.1 ≤ N → (acc ++ r.2.1).length + 1 ≤ r.1 + (if r.2.2 then 1 else 0) → RS g m σ z r.1 (acc ++ r.2.1) o r.2.2 S → (∀ S', RS g m σ z (lpP (TS σ z) f 3 k r).1 (acc ++ (lpP (TS σ z) f 3 k r).2.1) o (lpP (TS σ z) f 3 k r).2.2 S' → K S') → lp_X12_added_4a g rec m K (k + 1) S := by
  intro k
  induction k with
  | zero =>
    intro r S hk hr hb h hK
    refine r_wr H.1 h (fun e0 => ⟨fun q => absurd rfl q, fun _ => ?_⟩) (fun e1 => ⟨fun _ => hK S h, fun q => absurd q (by decide)⟩)
    have h' := h
    rw [e0] at h'
    rw [h'.tk]
    have t0 : TS σ z r.1 = -26 := by rw [show r.1 = N by omega]; exact tk_end H.2.2.2
    rw [t0]
    exact ⟨fun q => absurd q (by decide), fun _ => ⟨fun _ => hK S h, fun q => absurd q (by decide)⟩⟩
  | succ k ih =>
    intro r S hk hr hb h hK
    unfold lpP at hK
    refine r_wr H.1 h (fun e0 => ⟨fun q => absurd rfl q, fun _ => ?_⟩) (fun e1 => ⟨fun _ => ?_, fun q => absurd q (by decide)⟩)
    · have h' := h
      rw [e0] at h' hb
      rw [h'.tk]
      rw [if_neg (Bool.eq_false_iff.mp e0)] at hK
      have hb : (acc ++ r.2.1).length + 1 ≤ r.1 := hb
      have go : ∀ op : Int32, lvT (TS σ z r.1) = 3 → 1 - TS σ z r.1 = op → wp_X12_next g m S (fun _ S13 => rec 4 m S13 (fun _ S16 => wp_X12_emit g m op 0 S16 (fun _ S19 => lp_X12_added_4a g rec m K (k + 1) S19))) := by
        intro op el eo
        have hlt : r.1 < N := by
          by_cases y : r.1 = N
          · rw [y, show TS σ z N = -26 from tk_end H.2.2.2] at el; exact absurd el (by decide)
          · omega
        rw [if_pos el] at hK
        obtain ⟨g1, g2, g3, g4⟩ := hfok (r.1 + 1) hlt
        refine r_joint H hW hfok h' hlt hb op (fun S19 k19 => ih ((f (r.1 + 1)).1, r.2.1 ++ (f (r.1 + 1)).2.1 ++ [(1 - TS σ z r.1, 0)], (f (r.1 + 1)).2.2) S19 ?_ g2 ?_ ?_ hK)
        · show N ≤ (f (r.1 + 1)).1 + k
          omega
        · show (acc ++ (r.2.1 ++ (f (r.1 + 1)).2.1 ++ [(1 - TS σ z r.1, 0)])).length + 1 ≤ (f (r.1 + 1)).1 + (if (f (r.1 + 1)).2.2 then 1 else 0)
          rw [List.length_append] at hb
          rw [List.length_append, List.length_append, List.length_append, List.length_singleton]
          omega
        · show RS g m σ z (f (r.1 + 1)).1 (acc ++ (r.2.1 ++ (f (r.1 + 1)).2.1 ++ [(1 - TS σ z r.1, 0)])) o (f (r.1 + 1)).2.2 S19
          rw [eo, ← List.append_assoc, ← List.append_assoc]
          exact k19
      refine ⟨fun q => ⟨fun y => absurd q y, fun _ => ?_⟩, fun q => ⟨fun y => ?_, fun y => ⟨fun _ => ?_, fun u => absurd u q⟩⟩⟩
      · have et := (rtk_pl (TS_ok σ z r.1)).mp q
        exact go 7 (lv_3.mpr (Or.inl et)) (by rw [et]; decide)
      · rw [if_neg (fun u => (lv_3.mp u).elim (fun v => q ((rtk_pl (TS_ok σ z r.1)).mpr v)) (fun v => y ((rtk_mi (TS_ok σ z r.1)).mpr v)))] at hK
        exact hK S h
      · have et := (rtk_mi (TS_ok σ z r.1)).mp y
        exact go 8 (lv_3.mpr (Or.inr et)) (by rw [et]; decide)
    · rw [if_pos e1] at hK
      exact hK S h
theorem r_err {g : Nat → Nat} {m : Nat} {σ : Sg} {z i o : Nat} {acc : List (Int32 × Int32)} {S : HSt} (hz : z ≤ 160) (h : RS g m σ z i acc o true S) : ∀ (d lv : Nat), lv ≤ 5 → 6 - lv ≤ d → ∀ (Post : Unit → HSt → Prop), Post () S → wp_G1 g d lv m S Post := by
  have w1 : ∀ {Q : Int32 → HSt → Prop}, Q 1 S → wp_X12_isWrong g m S Q := fun {Q} q => r_wr hz h (fun e => by cases e) (fun _ => q)
  have n1 : ¬ (1 : Int32) = 0 := by decide
  intro d
  induction d with
  | zero => intro lv h1 h2; omega
  | succ d ih =>
    intro lv h1 h2 Post hP
    have hc : lv = 0 ∨ lv = 1 ∨ lv = 2 ∨ lv = 3 ∨ lv = 4 ∨ lv = 5 := by omega
    rcases hc with rfl | rfl | rfl | rfl | rfl | rfl
    · exact ih 1 (by omega) (by omega) _ ⟨1, w1 ⟨fun _ => hP, fun q => absurd q n1⟩⟩
    · exact ih 2 (by omega) (by omega) _ ⟨1, w1 ⟨fun _ => hP, fun q => absurd q n1⟩⟩
    · exact w1 ⟨fun q => absurd q n1, fun _ => hP⟩
    · exact ih 4 (by omega) (by omega) _ ⟨1, w1 ⟨fun _ => hP, fun q => absurd q n1⟩⟩
    · exact ih 5 (by omega) (by omega) _ ⟨1, w1 ⟨fun _ => hP, fun q => absurd q n1⟩⟩
    · exact w1 ⟨fun q => absurd q n1, fun _ => hP⟩
