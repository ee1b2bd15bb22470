/-! how a ship reaches an offer -/
def upI (a b : Int32) : Int32 := (a + b - 1) / b
def hrI (σ : Sg) (s p q : Nat) : Int32 := upI (dD σ 1303 (8 * p + q)) (dD σ 1310 s)
def bnI (σ : Sg) (s : Nat) (h : Int32) : Int32 := upI (h * (dD σ 1309 s + (dD σ 1310 s * dD σ 1310 s * dD σ 1310 s) / 100)) 24
def brI (σ : Sg) (s p q : Nat) : Int32 := bnI σ s (hrI σ s p q)
def frN (σ : Sg) (o : Nat) : Nat := ix (dD σ 1314 o)
def toN (σ : Sg) (o : Nat) : Nat := ix (dD σ 1315 o)
def beI (σ : Sg) (s o p : Nat) (h : Int32) : Int32 := if h + hrI σ s p (frN σ o) ≤ dD σ 1318 o then dD σ 1318 o else h + hrI σ s p (frN σ o)
def enI (σ : Sg) (s o p : Nat) (h : Int32) : Int32 := beI σ s o p h + upI (dD σ 1316 o) (dD σ 1301 (frN σ o)) + hrI σ s (frN σ o) (toN σ o) + upI (dD σ 1316 o) (dD σ 1301 (toN σ o))
def buI (σ : Sg) (s o p : Nat) : Int32 := brI σ s p (frN σ o) + brI σ s (frN σ o) (toN σ o)
def eaI (σ : Sg) (s o p : Nat) : Int64 := (dD σ 1317 o).toInt64 * (dD σ 1316 o).toInt64 - (brI σ s p (frN σ o)).toInt64 * (dD σ 1302 p).toInt64 - (brI σ s (frN σ o) (toN σ o)).toInt64 * (dD σ 1302 (frN σ o)).toInt64
def lkI (σ : Sg) (p q : Nat) : Int32 := if p = q then 0 else if dD σ 1303 (8 * p + q) = 0 then 1 else 0
def clI (σ : Sg) (p : Nat) (a : Int32) : Int32 := if a ≤ 0 then 0 else if dD σ 1302 p = 0 then 1 else 0
def hiI (σ : Sg) (s o p : Nat) (h : Int32) : Int32 := if dD σ 1316 o ≤ dD σ 1307 s then if lkI σ p (frN σ o) = 0 then if lkI σ (frN σ o) (toN σ o) = 0 then if beI σ s o p h ≤ dD σ 1319 o then if dD σ 1308 s < brI σ s p (frN σ o) then 4 else if brI σ s (frN σ o) (toN σ o) ≤ dD σ 1308 s then if clI σ p (brI σ s p (frN σ o)) = 0 then if clI σ (frN σ o) (brI σ s (frN σ o) (toN σ o)) = 0 then if enI σ s o p h ≤ 9999 then if dD σ 1320 o = 0 then 0 else 7 else 6 else 5 else 5 else 4 else 3 else 2 else 2 else 1
theorem bet_ne0 {v : Int32} {a b : Int} (h : bet v a b) (ha : 0 < a) : ¬ v = 0 := fun z => by
  rw [z] at h
  have e0 : (0 : Int32).toInt = 0 := by decide
  have := h.1; omega
theorem bet_ge1 {v : Int32} {a b : Int} (h : bet v a b) (ha : 0 < a) : (1 : Int32) ≤ v := by
  rw [i_le]
  have e0 : (1 : Int32).toInt = 1 := by decide
  have := h.1; omega
theorem r_hours {g : Nat → Nat} {m : Nat} {S : HSt} {σ : Sg} (h : MR g m S σ) (hi : Inv σ) {s p q : Int32} (os : okN s (cN σ 1)) (op : okN p (cN σ 0)) (oq : okN q (cN σ 0)) {Post : Int32 → HSt → Prop} (hp : Post (hrI σ (ix s) (ix p) (ix q)) S) : wp_X12_hours g m s p q S Post := by
  have h0 := hi.1.1; have h1 := hi.1.2.1
  unfold wp_X12_hours wp_X12_up
  rw [show gA S 203 (g 1303) ((8 : Int32) * p + q).toNatClampNeg = dD σ 1303 (8 * ix p + ix q) from (h.a 1303 203 _).trans (by rw [show ((8 : Int32) * p + q).toNatClampNeg = 8 * ix p + ix q from ix_8 op oq h0]), show gA S 210 (g 1310) s.toNatClampNeg = dD σ 1310 (ix s) from h.a 1310 210 _]
  exact ⟨in_8 op oq h0, okN_in os h1 (by decide), bet_ne0 (hi.2.2.2.1 _ (okN_lt os (by omega))).2.2.2.2.2.1 (by decide), hp⟩
theorem r_burns {g : Nat → Nat} {m : Nat} {S : HSt} {σ : Sg} (h : MR g m S σ) (hi : Inv σ) {s p q : Int32} (os : okN s (cN σ 1)) (op : okN p (cN σ 0)) (oq : okN q (cN σ 0)) {Post : Int32 → HSt → Prop} (hp : Post (brI σ (ix s) (ix p) (ix q)) S) : wp_X12_burns g m s p q S Post := by
  have hin := okN_in os hi.1.2.1 (show 5 < 2 ^ 31 by decide)
  refine ⟨hin, fun v2 e2 => r_hours h hi os op oq ⟨hin, by decide, ?_⟩⟩
  rw [show gA S 210 (g 1310) s.toNatClampNeg = dD σ 1310 (ix s) from h.a 1310 210 _] at e2
  subst e2
  rw [show gA S 209 (g 1309) s.toNatClampNeg = dD σ 1309 (ix s) from h.a 1309 209 _]
  exact hp
theorem ok_eqN {p q : Int32} {n : Nat} (hn : n < 2 ^ 31) (op : okN p n) (oq : okN q n) : p = q ↔ ix p = ix q := ⟨fun e => by rw [e], fun e => by rw [okN_eq op hn, okN_eq oq hn, e]⟩
theorem r_lacks {g : Nat → Nat} {m : Nat} {S : HSt} {σ : Sg} (h : MR g m S σ) (hi : Inv σ) {p q : Int32} (op : okN p (cN σ 0)) (oq : okN q (cN σ 0)) {Post : Int32 → HSt → Prop} (hp : Post (lkI σ (ix p) (ix q)) S) : wp_X12_lacks g m p q S Post := by
  have h0 := hi.1.1
  have he := ok_eqN (by omega) op oq
  unfold wp_X12_lacks
  unfold lkI at hp
  rw [show gA S 203 (g 1303) ((8 : Int32) * p + q).toNatClampNeg = dD σ 1303 (8 * ix p + ix q) from (h.a 1303 203 _).trans (by rw [show ((8 : Int32) * p + q).toNatClampNeg = 8 * ix p + ix q from ix_8 op oq h0])]
  refine ⟨fun e => ?_, fun ne => ⟨in_8 op oq h0, fun n0 => ?_, fun e0 => ?_⟩⟩
  · rw [if_pos (he.mp e)] at hp; exact hp
  · rw [if_neg (fun z => ne (he.mpr z)), if_neg n0] at hp; exact hp
  · rw [if_neg (fun z => ne (he.mpr z)), if_pos e0] at hp; exact hp
/-- an offer's ports -/
theorem fr_ok {σ : Sg} (hi : Inv σ) {o : Int32} (oo : okN o (cN σ 2)) : okN (dD σ 1314 (ix o)) (cN σ 0) ∧ okN (dD σ 1315 (ix o)) (cN σ 0) := by
  have := hi.2.2.2.2.2.1 (ix o) (okN_lt oo (by have := hi.1.2.2.1; omega))
  exact ⟨this.1, this.2.1⟩
theorem r_begins {g : Nat → Nat} {m : Nat} {S : HSt} {σ : Sg} (h : MR g m S σ) (hi : Inv σ) {s o p : Int32} (os : okN s (cN σ 1)) (oo : okN o (cN σ 2)) (op : okN p (cN σ 0)) (t : Int32) {Post : Int32 → HSt → Prop} (hp : Post (beI σ (ix s) (ix o) (ix p) t) S) : wp_X12_begins g m s o p t S Post := by
  have hin := okN_in oo hi.1.2.2.1 (show 10 < 2 ^ 31 by decide)
  obtain ⟨f1, f2⟩ := fr_ok hi oo
  unfold wp_X12_begins
  unfold beI frN at hp
  rw [show gA S 214 (g 1314) o.toNatClampNeg = dD σ 1314 (ix o) from h.a 1314 214 _]
  refine ⟨hin, r_hours h hi os op f1 (fun v5 e5 => ?_)⟩
  subst e5
  rw [show gA S 218 (g 1318) o.toNatClampNeg = dD σ 1318 (ix o) from h.a 1318 218 _]
  refine ⟨hin, fun le => ⟨hin, ?_⟩, fun nl => ?_⟩
  · rw [if_pos le] at hp; exact hp
  · rw [if_neg nl] at hp; exact hp
theorem r_ends {g : Nat → Nat} {m : Nat} {S : HSt} {σ : Sg} (h : MR g m S σ) (hi : Inv σ) {s o p : Int32} (os : okN s (cN σ 1)) (oo : okN o (cN σ 2)) (op : okN p (cN σ 0)) (t : Int32) {Post : Int32 → HSt → Prop} (hp : Post (enI σ (ix s) (ix o) (ix p) t) S) : wp_X12_ends g m s o p t S Post := by
  have hin := okN_in oo hi.1.2.2.1 (show 10 < 2 ^ 31 by decide)
  have h0 := hi.1.1
  obtain ⟨f1, f2⟩ := fr_ok hi oo
  unfold wp_X12_ends
  refine r_begins h hi os oo op t ?_
  rw [show gA S 214 (g 1314) o.toNatClampNeg = dD σ 1314 (ix o) from h.a 1314 214 _, show gA S 216 (g 1316) o.toNatClampNeg = dD σ 1316 (ix o) from h.a 1316 216 _]
  rw [show gA S 201 (g 1301) (dD σ 1314 (ix o)).toNatClampNeg = dD σ 1301 (frN σ (ix o)) from h.a 1301 201 _]
  refine ⟨hin, hin, okN_in f1 h0 (by decide), bet_ne0 (hi.2.1 _ (okN_lt f1 (by omega))).1 (by decide), hin, hin, ?_⟩
  rw [show gA S 214 (g 1314) o.toNatClampNeg = dD σ 1314 (ix o) from h.a 1314 214 _, show gA S 215 (g 1315) o.toNatClampNeg = dD σ 1315 (ix o) from h.a 1315 215 _]
  refine r_hours h hi os f1 f2 ⟨hin, hin, ?_⟩
  rw [show gA S 215 (g 1315) o.toNatClampNeg = dD σ 1315 (ix o) from h.a 1315 215 _, show gA S 216 (g 1316) o.toNatClampNeg = dD σ 1316 (ix o) from h.a 1316 216 _]
  rw [show gA S 201 (g 1301) (dD σ 1315 (ix o)).toNatClampNeg = dD σ 1301 (toN σ (ix o)) from h.a 1301 201 _]
  exact ⟨okN_in f2 h0 (by decide), bet_ne0 (hi.2.1 _ (okN_lt f2 (by omega))).1 (by decide), hp⟩
theorem r_burnt {g : Nat → Nat} {m : Nat} {S : HSt} {σ : Sg} (h : MR g m S σ) (hi : Inv σ) {s o p : Int32} (os : okN s (cN σ 1)) (oo : okN o (cN σ 2)) (op : okN p (cN σ 0)) {Post : Int32 → HSt → Prop} (hp : Post (buI σ (ix s) (ix o) (ix p)) S) : wp_X12_burnt g m s o p S Post := by
  have hin := okN_in oo hi.1.2.2.1 (show 10 < 2 ^ 31 by decide)
  obtain ⟨f1, f2⟩ := fr_ok hi oo
  have e1 : gA S 214 (g 1314) o.toNatClampNeg = dD σ 1314 (ix o) := h.a 1314 214 _
  have e2 : gA S 215 (g 1315) o.toNatClampNeg = dD σ 1315 (ix o) := h.a 1315 215 _
  unfold wp_X12_burnt
  rw [e1]
  refine ⟨hin, r_burns h hi os op f1 ⟨hin, hin, ?_⟩⟩
  rw [e1, e2]
  exact r_burns h hi os f1 f2 hp
theorem r_earns {g : Nat → Nat} {m : Nat} {S : HSt} {σ : Sg} (h : MR g m S σ) (hi : Inv σ) {s o p : Int32} (os : okN s (cN σ 1)) (oo : okN o (cN σ 2)) (op : okN p (cN σ 0)) {Post : Int64 → HSt → Prop} (hp : Post (eaI σ (ix s) (ix o) (ix p)) S) : wp_X12_earns g m s o p S Post := by
  have hin := okN_in oo hi.1.2.2.1 (show 10 < 2 ^ 31 by decide)
  have h0 := hi.1.1
  obtain ⟨f1, f2⟩ := fr_ok hi oo
  have e1 : gA S 214 (g 1314) o.toNatClampNeg = dD σ 1314 (ix o) := h.a 1314 214 _
  have e2 : gA S 215 (g 1315) o.toNatClampNeg = dD σ 1315 (ix o) := h.a 1315 215 _
  unfold wp_X12_earns
  rw [e1]
  refine ⟨hin, hin, hin, r_burns h hi os op f1 ⟨okN_in op h0 (by decide), hin, hin, ?_⟩⟩
  rw [e1, e2]
  refine r_burns h hi os f1 f2 ⟨hin, ?_⟩
  rw [e1]
  refine ⟨okN_in f1 h0 (by decide), ?_⟩
  rw [show gA S 217 (g 1317) o.toNatClampNeg = dD σ 1317 (ix o) from h.a 1317 217 _, show gA S 216 (g 1316) o.toNatClampNeg = dD σ 1316 (ix o) from h.a 1316 216 _, show gA S 202 (g 1302) p.toNatClampNeg = dD σ 1302 (ix p) from h.a 1302 202 _, show gA S 202 (g 1302) (dD σ 1314 (ix o)).toNatClampNeg = dD σ 1302 (frN σ (ix o)) from h.a 1302 202 _]
  exact hp
theorem r_hinders {g : Nat → Nat} {m : Nat} {S : HSt} {σ : Sg} (h : MR g m S σ) (hi : Inv σ) {s o p : Int32} (os : okN s (cN σ 1)) (oo : okN o (cN σ 2)) (op : okN p (cN σ 0)) (t : Int32) {Post : Int32 → HSt → Prop} (hp : Post (hiI σ (ix s) (ix o) (ix p) t) S) : wp_X12_hinders g m s o p t S Post := by
  have hin := okN_in oo hi.1.2.2.1 (show 10 < 2 ^ 31 by decide)
  have his := okN_in os hi.1.2.1 (show 5 < 2 ^ 31 by decide)
  have h0 := hi.1.1
  obtain ⟨f1, f2⟩ := fr_ok hi oo
  have e1 : gA S 214 (g 1314) o.toNatClampNeg = dD σ 1314 (ix o) := h.a 1314 214 _
  have e2 : gA S 215 (g 1315) o.toNatClampNeg = dD σ 1315 (ix o) := h.a 1315 215 _
  have e3 : gA S 216 (g 1316) o.toNatClampNeg = dD σ 1316 (ix o) := h.a 1316 216 _
  have e4 : gA S 219 (g 1319) o.toNatClampNeg = dD σ 1319 (ix o) := h.a 1319 219 _
  have e5 : gA S 320 (g 1320) o.toNatClampNeg = dD σ 1320 (ix o) := h.a 1320 320 _
  have e6 : gA S 207 (g 1307) s.toNatClampNeg = dD σ 1307 (ix s) := h.a 1307 207 _
  have e7 : gA S 208 (g 1308) s.toNatClampNeg = dD σ 1308 (ix s) := h.a 1308 208 _
  have e8 : gA S 202 (g 1302) p.toNatClampNeg = dD σ 1302 (ix p) := h.a 1302 202 _
  have e9 : gA S 202 (g 1302) (dD σ 1314 (ix o)).toNatClampNeg = dD σ 1302 (frN σ (ix o)) := h.a 1302 202 _
  unfold hiI at hp
  unfold wp_X12_hinders
  rw [e3, e6, e1]
  refine ⟨hin, his, fun c1 => ?_, fun c1 => ?_⟩
  case refine_2 => rw [if_neg c1] at hp; exact hp
  rw [if_pos c1] at hp
  refine ⟨hin, r_lacks h hi op f1 ⟨fun (c2 : ¬ lkI σ (ix p) (frN σ (ix o)) = 0) => ?_, fun (c2 : lkI σ (ix p) (frN σ (ix o)) = 0) => ⟨hin, hin, ?_⟩⟩⟩
  · rw [if_neg c2] at hp; exact hp
  rw [if_pos c2] at hp
  rw [e1, e2]
  refine r_lacks h hi f1 f2 ⟨fun (c3 : lkI σ (frN σ (ix o)) (toN σ (ix o)) = 0) => r_begins h hi os oo op t ⟨hin, ?_⟩, fun (c3 : ¬ lkI σ (frN σ (ix o)) (toN σ (ix o)) = 0) => ?_⟩
  case refine_2 => rw [if_neg c3] at hp; exact hp
  rw [if_pos c3] at hp
  rw [e4]
  refine ⟨fun c4 => ⟨hin, ?_⟩, fun c4 => ?_⟩
  case refine_2 => rw [if_neg c4] at hp; exact hp
  rw [if_pos c4] at hp
  rw [e1]
  refine r_burns h hi os op f1 ⟨hin, hin, ?_⟩
  rw [e1, e2]
  refine r_burns h hi os f1 f2 ⟨his, ?_⟩
  rw [e7]
  refine ⟨fun (c5 : dD σ 1308 (ix s) < brI σ (ix s) (ix p) (frN σ (ix o))) => ?_, fun (c5 : ¬ dD σ 1308 (ix s) < brI σ (ix s) (ix p) (frN σ (ix o))) => ⟨his, fun (c6 : brI σ (ix s) (frN σ (ix o)) (toN σ (ix o)) ≤ dD σ 1308 (ix s)) => ?_, fun (c6 : ¬ brI σ (ix s) (frN σ (ix o)) (toN σ (ix o)) ≤ dD σ 1308 (ix s)) => ?_⟩⟩
  · rw [if_pos c5] at hp; exact hp
  case refine_3 => rw [if_neg c5, if_neg c6] at hp; exact hp
  rw [if_neg c5, if_pos c6] at hp
  rw [e1, e8, e9]
  have tail : clI σ (ix p) (brI σ (ix s) (ix p) (frN σ (ix o))) = 0 → clI σ (frN σ (ix o)) (brI σ (ix s) (frN σ (ix o)) (toN σ (ix o))) = 0 → wp_X12_ends g m s o p t S (fun (r35 : Int32) (S36 : HSt) => ((r35 ≤ (9999 : Int32) → vp_in o 10 ∧ (((gA S36 320 (g 1320) (o).toNatClampNeg) = 0 → Post (0 : Int32) S36) ∧ (¬ (gA S36 320 (g 1320) (o).toNatClampNeg) = 0 → Post (7 : Int32) S36))) ∧ (¬ r35 ≤ (9999 : Int32) → Post (6 : Int32) S36))) := by
    intro c7 c8
    rw [if_pos c7, if_pos c8] at hp
    refine r_ends h hi os oo op t ⟨fun c9 => ⟨hin, ?_⟩, fun c9 => ?_⟩
    · rw [if_pos c9] at hp
      rw [e5]
      refine ⟨fun c => ?_, fun c => ?_⟩
      · rw [if_pos c] at hp; exact hp
      · rw [if_neg c] at hp; exact hp
    · rw [if_neg c9] at hp; exact hp
  have five : ¬ (clI σ (ix p) (brI σ (ix s) (ix p) (frN σ (ix o))) = 0 ∧ clI σ (frN σ (ix o)) (brI σ (ix s) (frN σ (ix o)) (toN σ (ix o))) = 0) → Post 5 S := by
    intro c
    by_cases c7 : clI σ (ix p) (brI σ (ix s) (ix p) (frN σ (ix o))) = 0
    · rw [if_pos c7, if_neg (fun z => c ⟨c7, z⟩)] at hp; exact hp
    · rw [if_neg c7] at hp; exact hp
  have cl0 : ∀ {q : Nat} {a : Int32}, a ≤ 0 → clI σ q a = 0 := fun h => if_pos h
  have cl1 : ∀ {q : Nat} {a : Int32}, ¬ dD σ 1302 q = 0 → clI σ q a = 0 := fun h => by
    unfold clI; rw [if_neg h]; split <;> rfl
  have cl2 : ∀ {q : Nat} {a : Int32}, ¬ a ≤ 0 → dD σ 1302 q = 0 → ¬ clI σ q a = 0 := fun h h2 => by
    unfold clI; rw [if_neg h, if_pos h2]; decide
  refine ⟨fun a0 => ⟨fun b0 => tail (cl0 a0) (cl0 b0), fun b1 => ⟨hin, okN_in f1 h0 (by decide), fun p1 => tail (cl0 a0) (cl1 p1), fun p0 => five (fun z => cl2 b1 p0 z.2)⟩⟩, fun a1 => ⟨okN_in op h0 (by decide), fun p0 => five (fun z => cl2 a1 p0 z.1), fun p1 => ⟨fun b0 => tail (cl1 p1) (cl0 b0), fun b1 => ⟨hin, okN_in f1 h0 (by decide), fun p1' => tail (cl1 p1) (cl1 p1'), fun p0 => five (fun z => cl2 b1 p0 z.2)⟩⟩⟩⟩
/-! the class's side -/
theorem c_up {a b : Int32} {S : HSt} {Post : Int32 → HSt → Prop} (hb : (1 : Int32) ≤ b) (h0 : ¬ b = 0) (hp : Post (upI a b) S) : wp_X11_roundedUp a b S Post := ⟨fun _ => ⟨h0, hp⟩, fun z => absurd hb z⟩
theorem c_hoursFor {ad : AD} {x : Nat} {S : HSt} {σ : Sg} (h : CR ad x S σ) (hi : Inv σ) {s : Nat} (hs : s < cN σ 1) {m : Int32} {Post : Int32 → HSt → Prop} (hp : Post (upI m (dD σ 1310 s)) S) : wp_X8_hoursFor (ad 2 s) m S Post := by
  have b := (hi.2.2.2.1 s hs).2.2.2.2.2.1
  unfold wp_X8_hoursFor
  rw [(h.2.2.2.1.1 s hs).2.2.2.2.2.2.2.2.2.2.2.1]
  exact c_up (bet_ge1 b (by decide)) (bet_ne0 b (by decide)) hp
theorem c_burnFor {ad : AD} {x : Nat} {S : HSt} {σ : Sg} (h : CR ad x S σ) (hi : Inv σ) {s : Nat} (hs : s < cN σ 1) {m : Int32} {Post : Int32 → HSt → Prop} (hp : Post (bnI σ s (upI m (dD σ 1310 s))) S) : wp_X8_burnFor (ad 2 s) m S Post := by
  obtain ⟨a1, a2, a3, a4, a5, a6, a7, a8, a9, b1, b2, b3, b4, b5⟩ := h.2.2.2.1.1 s hs
  refine c_hoursFor h hi hs ?_
  rw [b3, a9]
  exact c_up (by decide) (by decide) hp
theorem c_lacks {ad : AD} {x : Nat} {S : HSt} {σ : Sg} (h : CR ad x S σ) (hi : Inv σ) {p q : Nat} (hp : p < cN σ 0) (hq : q < cN σ 0) {Post : Int32 → HSt → Prop} (hP : Post (lkI σ p q) S) : wp_X3_lacksWayTo (ad 0 p) (ad 0 q) S Post := by
  have h0 := hi.1.1
  unfold wp_X3_lacksWayTo
  unfold lkI at hP
  rw [(h.2.2.1.1 p hp).2.2.2.2.2.1, (h.2.2.1.1 q hq).2.2.2.2.2.1]
  have he : nI q = nI p ↔ p = q := ⟨fun z => (nI_inj (by omega) (by omega) z).symm, fun z => by rw [z]⟩
  refine ⟨fun e => ?_, fun ne => c_milesTo h h0 hp hq ⟨fun n0 => ?_, fun e0 => ?_⟩⟩
  · rw [if_pos (he.mp e)] at hP; exact hP
  · rw [if_neg (fun z => ne (he.mpr z)), if_neg n0] at hP; exact hP
  · rw [if_neg (fun z => ne (he.mpr z)), if_pos e0] at hP; exact hP
theorem c_coal {ad : AD} {x : Nat} {S : HSt} {σ : Sg} (h : CR ad x S σ) {p : Nat} (hp : p < cN σ 0) {a : Int32} {Post : Int32 → HSt → Prop} (hP : Post (clI σ p a) S) : wp_X4_lacksCoal (ad 0 p) a S Post := by
  unfold wp_X4_lacksCoal
  unfold clI at hP
  rw [(h.2.2.1.1 p hp).2.2.2.2.2.2.2.1]
  refine ⟨fun e => ?_, fun ne => ⟨fun n0 => ?_, fun e0 => ?_⟩⟩
  · rw [if_pos e] at hP; exact hP
  · rw [if_neg ne, if_neg n0] at hP; exact hP
  · rw [if_neg ne, if_pos e0] at hP; exact hP
theorem c_refusal {ad : AD} {x : Nat} {S : HSt} {σ : Sg} (h : CR ad x S σ) (hi : Inv σ) {r s o p : Nat} (hs : s < cN σ 1) (ho : o < cN σ 2) (hp : p < cN σ 0) {t : Int32} (q1 : gI S 501 r = beI σ s o p t) (q2 : gI S 502 r = enI σ s o p t) {Post : Int32 → HSt → Prop} (hP : Post (hiI σ s o p t) S) : wp_X4_refusal r (ad 2 s) (ad 0 p) (ad 4 o) (brI σ s p (frN σ o)) (brI σ s (frN σ o) (toN σ o)) S Post := by
  have h0 := hi.1.1
  obtain ⟨a1, a2, a3, a4, a5, a6, a7, a8, a9⟩ := h.2.2.2.2.1.1 o ho
  obtain ⟨s1, s2, s3, s4, s5, s6, s7, s8, s9⟩ := h.2.2.2.1.1 s hs
  obtain ⟨f1, f2, -⟩ := hi.2.2.2.2.2.1 o ho
  have f1' : frN σ o < cN σ 0 := okN_lt f1 (by omega)
  have f2' : toN σ o < cN σ 0 := okN_lt f2 (by omega)
  have k1 := (h.2.2.1.1 _ f1').2.1
  have k2 := (h.2.2.1.1 _ f2').2.1
  unfold hiI at hP
  unfold wp_X4_refusal
  refine ⟨_, a3, ?_⟩
  rw [a5, s7]
  refine ⟨fun c1 => ⟨k1, c_lacks h hi hp f1' ⟨fun (c2 : ¬ lkI σ p (frN σ o) = 0) => ?_, fun (c2 : lkI σ p (frN σ o) = 0) => ⟨_, a4, k2, c_lacks h hi f1' f2' ⟨fun (c3 : lkI σ (frN σ o) (toN σ o) = 0) => ?_, fun (c3 : ¬ lkI σ (frN σ o) (toN σ o) = 0) => ?_⟩⟩⟩⟩, fun c1 => ?_⟩
  · rw [if_pos c1, if_neg c2] at hP; exact hP
  · rw [if_pos c1, if_pos c2, if_pos c3] at hP
    rw [q1, a8, s8]
    refine ⟨fun c4 => ⟨fun c5 => ?_, fun c5 => ⟨fun c6 => c_coal h hp ⟨fun c7 => ?_, fun c7 => c_coal h f1' ⟨fun (c8 : clI σ (frN σ o) _ = 0) => ?_, fun (c8 : ¬ clI σ (frN σ o) _ = 0) => ?_⟩⟩, fun c6 => ?_⟩⟩, fun c4 => ?_⟩
    · rw [if_pos c4, if_pos c5] at hP; exact hP
    · rw [if_pos c4, if_neg c5, if_pos c6, if_neg c7] at hP; exact hP
    · rw [if_pos c4, if_neg c5, if_pos c6, if_pos c7, if_pos c8] at hP
      rw [q2, a9]
      refine ⟨fun c9 => ⟨fun d => ?_, fun d => ?_⟩, fun c9 => ?_⟩
      · rw [if_pos c9, if_pos d] at hP; exact hP
      · rw [if_pos c9, if_neg d] at hP; exact hP
      · rw [if_neg c9] at hP; exact hP
    · rw [if_pos c4, if_neg c5, if_pos c6, if_pos c7, if_neg c8] at hP; exact hP
    · rw [if_pos c4, if_neg c5, if_neg c6] at hP; exact hP
    · rw [if_neg c4] at hP; exact hP
  · rw [if_pos c1, if_pos c2, if_neg c3] at hP; exact hP
  · rw [if_neg c1] at hP; exact hP
theorem gI_uJ (S : HSt) (f a : Nat) (v : Int64) (f' a' : Nat) : gI (uJ S f a v) f' a' = gI S f' a' := rfl
/-- what a reckoning leaves -/
def rkS (σ : Sg) (S : HSt) (r s o p : Nat) (t : Int32) : HSt := uI (uJ (uI (uI (uI S 501 r (beI σ s o p t)) 502 r (enI σ s o p t)) 503 r (buI σ s o p)) 504 r (eaI σ s o p)) 500 r (hiI σ s o p t)
theorem CR.rk {ad : AD} {x : Nat} {S : HSt} {σ : Sg} (h : CR ad x S σ) (r s o p : Nat) (t : Int32) : CR ad x (rkS σ S r s o p t) σ :=
  ⟨h.1.ks (Ks.trans (Ks.trans (Ks.trans (Ks.trans (Ks_uI rfl) (Ks_uI rfl)) (Ks_uI rfl)) (Ks_uJ rfl)) (Ks_uI rfl)) (fun _ _ => rfl), h.2⟩
theorem c_reckon {ad : AD} {x : Nat} {S : HSt} {σ : Sg} (h : CR ad x S σ) (hi : Inv σ) {r s o p : Nat} (hs : s < cN σ 1) (ho : o < cN σ 2) (hp : p < cN σ 0) {t : Int32} {Post : Unit → HSt → Prop} (hP : Post () (rkS σ S r s o p t)) : wp_X4_reckon r (ad 2 s) (ad 0 p) t (ad 4 o) S Post := by
  have h0 := hi.1.1
  obtain ⟨a1, a2, a3, a4, a5, a6, a7, a8, a9⟩ := h.2.2.2.2.1.1 o ho
  obtain ⟨f1, f2, -⟩ := hi.2.2.2.2.2.1 o ho
  have f1' : frN σ o < cN σ 0 := okN_lt f1 (by omega)
  have f2' : toN σ o < cN σ 0 := okN_lt f2 (by omega)
  obtain ⟨p1, p2, p3, p4, p5, p6, p7, p8, p9⟩ := h.2.2.1.1 _ f1'
  obtain ⟨q1, q2, q3, q4, q5, q6, q7, q8, q9⟩ := h.2.2.1.1 _ f2'
  obtain ⟨u1, u2, u3, u4, u5, u6, u7, u8, u9⟩ := h.2.2.1.1 _ hp
  have g1 := (hi.2.1 _ f1').1
  have g2 := (hi.2.1 _ f2').1
  refine ⟨_, a3, p2, c_milesTo h h0 hp f1' ⟨_, a4, q2, c_milesTo h h0 f1' f2' (c_burnFor h hi hs (c_burnFor h hi hs ?_))⟩⟩
  rw [show gI S 401 (ad 0 (ix (dD σ 1314 o))) = dD σ 1301 (frN σ o) from p7, a5]
  refine c_up (bet_ge1 g1 (by decide)) (bet_ne0 g1 (by decide)) ⟨_, a4, q2, ?_⟩
  rw [show gI S 401 (ad 0 (ix (dD σ 1315 o))) = dD σ 1301 (toN σ o) from q7, a5]
  refine c_up (bet_ge1 g2 (by decide)) (bet_ne0 g2 (by decide)) (c_hoursFor h hi hs (fun S31 e31 => ?_))
  have eb : (if (t + upI (dD σ 1303 (8 * p + frN σ o)) (dD σ 1310 s)) < gI S 304 (ad 4 o) then gI S 304 (ad 4 o) else (t + upI (dD σ 1303 (8 * p + frN σ o)) (dD σ 1310 s))) = beI σ s o p t := by
    rw [a7]
    unfold beI hrI
    by_cases c1 : t + upI (dD σ 1303 (8 * p + frN σ o)) (dD σ 1310 s) < dD σ 1318 o
    · rw [if_pos c1, if_pos (Int32.le_of_lt c1)]
    · rw [if_neg c1]
      by_cases c2 : t + upI (dD σ 1303 (8 * p + frN σ o)) (dD σ 1310 s) ≤ dD σ 1318 o
      · rw [if_pos c2]; exact Int32.le_antisymm c2 (Int32.not_lt.mp c1)
      · rw [if_neg c2]
  rw [eb] at e31
  have h31 : CR ad x S31 σ := by rw [e31]; exact ⟨h.1.ks (Ks_uI rfl) (fun _ _ => rfl), h.2⟩
  refine c_hoursFor h31 hi hs (fun S37 e37 S40 e40 S43 e43 => ?_)
  rw [show gI S31 501 r = beI σ s o p t by rw [e31, gI_same, if_pos rfl]] at e37
  have i3 : gI S40 303 (ad 4 o) = dD σ 1317 o := by rw [e40, e37, e31]; exact a6
  have i2 : gI S40 302 (ad 4 o) = dD σ 1316 o := by rw [e40, e37, e31]; exact a5
  have i4 : gI S40 402 (ad 0 p) = dD σ 1302 p := by rw [e40, e37, e31]; exact u8
  have i5 : gI S40 402 (ad 0 (ix (dD σ 1314 o))) = dD σ 1302 (frN σ o) := by rw [e40, e37, e31]; exact p8
  rw [i3, i2, i4, i5] at e43
  have h43 : CR ad x S43 σ := by rw [e43, e40, e37, e31]; exact ⟨h.1.ks (Ks.trans (Ks.trans (Ks.trans (Ks_uI rfl) (Ks_uI rfl)) (Ks_uI rfl)) (Ks_uJ rfl)) (fun _ _ => rfl), h.2⟩
  have j1 : gI S43 501 r = beI σ s o p t := by
    rw [e43, e40, e37, e31]
    simp [gI_uI, gI_uJ]
  have j2 : gI S43 502 r = enI σ s o p t := by
    rw [e43, e40, e37]
    simp [gI_uI, gI_uJ]; rfl
  refine c_refusal h43 hi hs ho hp j1 j2 (fun S49 e49 => ?_)
  subst e31 e37 e40 e43 e49
  exact hP
