/-! WHAT A METHOD NEVER CHANGES: kinds, lengths, references that were set once -/
def Ks (S S' : HSt) : Prop := ∀ a, gK S a ≠ 0 → gK S' a = gK S a ∧ gN S' a = gN S a ∧ ∀ f b, f ≠ 904 → f ≠ 1217 → gR S f a = some b → gR S' f a = some b
theorem Ks.rf {S : HSt} : Ks S S := fun _ _ => ⟨rfl, rfl, fun _ _ _ _ h => h⟩
theorem Ks.trans {S1 S2 S3 : HSt} (h1 : Ks S1 S2) (h2 : Ks S2 S3) : Ks S1 S3 := fun a h => by
  obtain ⟨p1, p2, p3⟩ := h1 a h
  obtain ⟨q1, q2, q3⟩ := h2 a (by rw [p1]; exact h)
  exact ⟨q1.trans p1, q2.trans p2, fun f b h1 h2 h3 => q3 f b h1 h2 (p3 f b h1 h2 h3)⟩
theorem Ks.k {S S' : HSt} {a kd : Nat} (h : Ks S S') (hk : gK S a = kd) (h0 : kd ≠ 0 := by decide) : gK S' a = kd := (h a (by rw [hk]; exact h0)).1.trans hk
theorem Ks.n {S S' : HSt} {a kd n : Nat} (h : Ks S S') (hk : gK S a = kd) (hn : gN S a = n) (h0 : kd ≠ 0 := by decide) : gN S' a = n := (h a (by rw [hk]; exact h0)).2.1.trans hn
theorem Ks.r {S S' : HSt} {a kd f b : Nat} (h : Ks S S') (hk : gK S a = kd) (hr : gR S f a = some b) (h0 : kd ≠ 0 := by decide) (h1 : f ≠ 904 := by decide) (h2 : f ≠ 1217 := by decide) : gR S' f a = some b := (h a (by rw [hk]; exact h0)).2.2 f b h1 h2 hr
theorem Ks_uI {S S1 : HSt} {f a : Nat} {v : Int32} (e : S1 = uI S f a v) : Ks S S1 := by subst e; exact fun _ _ => ⟨rfl, rfl, fun _ _ _ _ h => h⟩
theorem Ks_uJ {S S1 : HSt} {f a : Nat} {v : Int64} (e : S1 = uJ S f a v) : Ks S S1 := by subst e; exact fun _ _ => ⟨rfl, rfl, fun _ _ _ _ h => h⟩
theorem Ks_sA {S S1 : HSt} {f a : Nat} {v : Nat → Int32} (e : S1 = sA S f a v) : Ks S S1 := by subst e; exact fun _ _ => ⟨rfl, rfl, fun _ _ _ _ h => h⟩
theorem Ks_uA {S S1 : HSt} {f a i : Nat} {v : Int32} (e : S1 = uA S f a i v) : Ks S S1 := Ks_sA e
theorem Ks_sB {S S1 : HSt} {f a : Nat} {v : Nat → Option Nat} (e : S1 = sB S f a v) : Ks S S1 := by subst e; exact fun _ _ => ⟨rfl, rfl, fun _ _ _ _ h => h⟩
theorem Ks_uB {S S1 : HSt} {f a i : Nat} {v : Option Nat} (e : S1 = uB S f a i v) : Ks S S1 := Ks_sB e
theorem Ks_uR {S S1 : HSt} {f a : Nat} {v : Option Nat} (e : S1 = uR S f a v) (h : f = 904 ∨ f = 1217 ∨ gR S f a = none) : Ks S S1 := by
  subst e
  refine fun a' _ => ⟨rfl, rfl, fun f' b h1 h2 h3 => ?_⟩
  show up2 S.2.2.2.1 f a v f' a' = some b
  by_cases hh : f' = f ∧ a' = a
  · obtain ⟨rfl, rfl⟩ := hh
    rcases h with h | h | h
    · exact absurd h h1
    · exact absurd h h2
    · rw [h] at h3; cases h3
  · unfold up2; rw [if_neg hh]; exact h3
theorem Ks_nO {S S1 : HSt} {k q : Nat} (h0 : gK S q = 0) (e : S1 = nO S k q) : Ks S S1 := by
  subst e
  intro a h
  have hn : a ≠ q := fun z => h (by rw [z]; exact h0)
  exact ⟨va_up_ne _ _ hn, rfl, fun f b _ _ h3 => by show cl2 S.2.2.2.1 q none f a = some b; rw [cl2_ne _ _ _ hn]; exact h3⟩
theorem Ks_nA {S S1 : HSt} {k q n : Nat} (h0 : gK S q = 0) (e : S1 = nA S k q n) : Ks S S1 := by
  subst e
  intro a h
  have hn : a ≠ q := fun z => h (by rw [z]; exact h0)
  exact ⟨va_up_ne _ _ hn, va_up_ne _ _ hn, fun f b _ _ h3 => h3⟩
theorem gK_nO {S S1 : HSt} {k q : Nat} (e : S1 = nO S k q) : gK S1 q = k := by subst e; exact va_up_self _ _ _
theorem gK_nA {S S1 : HSt} {k q n : Nat} (e : S1 = nA S k q n) : gK S1 q = k := by subst e; exact va_up_self _ _ _
theorem gN_nA {S S1 : HSt} {k q n : Nat} (e : S1 = nA S k q n) : gN S1 q = n := by subst e; exact va_up_self _ _ _
/-- the reference's rows: field, kind, length -/
def mtab : List (Nat × Nat × Nat) := [(1301, 201, 8), (1302, 202, 8), (1303, 203, 64), (1305, 205, 5), (1306, 206, 5), (1307, 207, 5), (1308, 208, 5), (1309, 209, 5), (1310, 210, 5), (1311, 211, 5), (1312, 112, 10000), (1314, 214, 10), (1315, 215, 10), (1316, 216, 10), (1317, 217, 10), (1318, 218, 10), (1319, 219, 10), (1320, 320, 10), (1322, 222, 6), (1323, 223, 160), (1326, 226, 1120), (1327, 227, 1120), (1328, 228, 21), (1330, 230, 12), (1331, 231, 12), (1332, 232, 12), (1333, 233, 12), (1334, 234, 12), (1335, 235, 12), (1336, 236, 12), (1337, 237, 12), (1338, 238, 12), (1339, 239, 4), (1340, 240, 4), (1341, 241, 160), (1342, 242, 32), (1346, 246, 3), (1347, 247, 3), (1348, 248, 6000), (1349, 249, 48), (1359, 259, 180)]
/-- the reference's rows lie where g says -/
def MI (g : Nat → Nat) (m : Nat) (S : HSt) : Prop := gK S m = 13 ∧ ∀ q ∈ mtab, gR S q.1 m = some (g q.1) ∧ gK S (g q.1) = q.2.1 ∧ gN S (g q.1) = q.2.2
theorem mtab_ok : ∀ q ∈ mtab, q.1 ≠ 904 ∧ q.1 ≠ 1217 ∧ q.2.1 ≠ 0 := by decide +kernel
theorem MI.ks {g : Nat → Nat} {m : Nat} {S S' : HSt} (h : MI g m S) (q : Ks S S') : MI g m S' := ⟨q.k h.1, fun x hx => by
  obtain ⟨h1, h2, h3⟩ := h.2 x hx
  obtain ⟨e1, e2, e3⟩ := mtab_ok x hx
  exact ⟨q.r h.1 h1 (by decide) e1 e2, q.k h2 e3, q.n h2 h3 e3⟩⟩
theorem in_len {i : Int32} {a n : Nat} {S : HSt} (h : vp_in i n) (hn : gN S a = n) : vp_in i (gN S a) := by rw [hn]; exact h
section XW
variable {p : Program} {l : Launch} {e : Env} {R : Room} {s : State} {m : MethodId} {args : Array Value} {below : List Frame} {meth : Method} {c : Code} {Q : State → Prop} {G : XG} {nL cells slots : Nat} {S : HSt} {pc pc' : Nat} {lv : List (Nat × Value)} {rest : List Value} {cc : ByteArray} {own : String}
theorem x_topi {x : Int32} (k : ∀ y : Int32, y = x → Wx p l e R s m args below meth c Q G nL cells slots S pc lv (.int y :: rest)) : Wx p l e R s m args below meth c Q G nL cells slots S pc lv (.int x :: rest) := k x rfl
theorem x_topl {x : Int64} (k : ∀ y : Int64, y = x → Wx p l e R s m args below meth c Q G nL cells slots S pc lv (.long y :: rest)) : Wx p l e R s m args below meth c Q G nL cells slots S pc lv (.long x :: rest) := k x rfl
theorem x_topq {x : Option Nat} (k : ∀ y : Option Nat, y = x → Wx p l e R s m args below meth c Q G nL cells slots S pc lv (va_rf y :: rest)) : Wx p l e R s m args below meth c Q G nL cells slots S pc lv (va_rf x :: rest) := k x rfl
theorem x_S (k : ∀ S1 : HSt, S1 = S → Wx p l e R s m args below meth c Q G nL cells slots S1 pc lv rest) : Wx p l e R s m args below meth c Q G nL cells slots S pc lv rest := k S rfl
theorem x_deref {x : Option Nat} {b : Nat} (h : x = some b) (k : Wx p l e R s m args below meth c Q G nL cells slots S pc lv (.ref b :: rest)) : Wx p l e R s m args below meth c Q G nL cells slots S pc lv (va_rf x :: rest) := by subst h; exact k
theorem x_min (C : Cx p s m c cc nL args own G) {index : Nat} {x y : Int32} (hlk : Cond.methodLink own index Lib.Math.min.name ∈ TBL) (hst : Cond.static Lib.Math.min.name ∈ TBL) (hini : Cond.initialized "java/lang/Math" ∈ TBL) (hco : Cond.code Lib.Math.min.name Lib.Math.min.code 2 (some .int) ∈ TBL) (hdg : decode cc pc = .ok (.invokestatic index, 3)) (h1 : 1 ≤ R.frames) (h2 : (rest.map fun v => v.category).sum + 13 ≤ R.locals) (h3 : cells ≤ R.cells) (h4 : slots ≤ R.slots) (kk : Wx p l e R s m args below meth c Q G nL cells slots S (pc + 3) lv (.int (if y < x then y else x) :: rest)) : Wx p l e R s m args below meth c Q G nL cells slots S pc lv (.int y :: .int x :: rest) := fun H locs ls hH hS hl =>
  va_mmin C.1 C.2.1 (by rw [C.2.2.1]; exact hl.1.symm) C.2.2.2.1 (C.2.2.2.2.1 _ hlk) (C.2.2.2.2.1 _ hst) (C.2.2.2.2.1 _ hini) (C.2.2.2.2.1 _ hco) h1 h2 h3 h4 hdg (kk H locs ls hH hS hl)
theorem x_copy (C : Cx p s m c cc nL args own G) {index a0 a k0 k1 : Nat} {sp dp n : Int32} (hlk : Cond.methodLink own index arraycopyName ∈ TBL) (hnat : Cond.native arraycopyName ∈ TBL) (hst : Cond.static arraycopyName ∈ TBL) (hini : Cond.initialized "java/lang/System" ∈ TBL) (hk0 : gK S a0 = k0) (hk1 : gK S a = k1) (h20 : k0 / 100 = 2) (h21 : k1 / 100 = 2) (h1 : ¬ sp < 0) (h2 : ¬ dp < 0) (h3 : ¬ n < 0) (h4 : sp.toNatClampNeg + n.toNatClampNeg ≤ gN S a0) (h5 : dp.toNatClampNeg + n.toNatClampNeg ≤ gN S a) (hdg : decode cc pc = .ok (.invokestatic index, 3)) (h6 : 1 ≤ R.frames) (h7 : (rest.map fun v => v.category).sum + (nativeFrameWords "java/lang/System" "arraycopy" 5 + 11) ≤ R.locals)
    (kk : Wx p l e R s m args below meth c Q G nL cells slots (sA S k1 a (va_cpy (gA S k0 a0) (gA S k1 a) sp.toNatClampNeg dp.toNatClampNeg n.toNatClampNeg)) (pc + 3) lv rest) : Wx p l e R s m args below meth c Q G nL cells slots S pc lv (.int n :: .int dp :: .ref a :: .int sp :: .ref a0 :: rest) := by
  intro H locs ls hH hS hl
  obtain ⟨L, hL, hP, hD⟩ := id hH
  have ha0 : a0 ∈ L := (hL a0).mp (by rw [hk0]; omega)
  have ha : a ∈ L := (hL a).mp (by rw [hk1]; omega)
  obtain ⟨q0, hq0⟩ := va_pl_get (X := []) (f := ent G.2.1 S) ha0
  obtain ⟨q1, hq1⟩ := va_pl_get (X := []) (f := ent G.2.1 S) ha
  have hq := hq1
  rw [ent_num hk0 (by omega) (by omega), h20] at hq0
  rw [ent_num hk1 (by omega) (by omega), h21] at hq1
  refine va_copyi C.1 C.2.1 (by rw [C.2.2.1]; exact hl.1.symm) C.2.2.2.1 (C.2.2.2.2.1 _ hlk) (C.2.2.2.2.1 _ hnat) (C.2.2.2.2.1 _ hst) (C.2.2.2.2.1 _ hini) C.2.2.2.2.2.1 hP hD hS q0 q1 1 1 hq0 hq1 (ty := .int) rfl rfl rfl h1 h2 h3 h4 h5 (fun _ _ => rfl) h6 h7 hdg (fun H1 locs1 hP1 hD1 hS1 => kk H1 locs1 ls ?_ hS1 hl)
  have e3 := (va_pl_set (X := []) hD ha hq).trans (va_pl_congr (L := L) (f := va_up (ent G.2.1 S) a (.inl (G.2.1 (2 - 1), gN S a, .inl (va_cpy (gA S k0 a0) (gA S k1 a) sp.toNatClampNeg dp.toNatClampNeg n.toNatClampNeg)))) (g := ent G.2.1 (sA S k1 a (va_cpy (gA S k0 a0) (gA S k1 a) sp.toNatClampNeg dp.toNatClampNeg n.toNatClampNeg))) (fun b => by
    by_cases hb : b = a
    · subst hb; rw [va_up_self, ent_num (S := sA S k1 b _) (k := k1) hk1 (by omega) (by omega), h21]
      refine congrArg (fun x => (Sum.inl (G.2.1 (2 - 1), gN S b, Sum.inl x) : va_E)) ?_
      simp [sA, gA, up2]
    · rw [va_up_ne _ _ hb]; exact (ent_sA S k1 a _ hb).symm))
  exact ⟨L, hL, e3 ▸ hP1, e3 ▸ hD1⟩
theorem lv_neS {x k : Int32} {a : Int} (h : ¬ x = k) (hk : k.toInt = a) : ¬ x.toInt = a := lv_neT h hk
end XW
theorem mt_1301 : ((1301, 201, 8) : Nat × Nat × Nat) ∈ mtab := by decide
theorem mt_1302 : ((1302, 202, 8) : Nat × Nat × Nat) ∈ mtab := by decide
theorem mt_1303 : ((1303, 203, 64) : Nat × Nat × Nat) ∈ mtab := by decide
theorem mt_1305 : ((1305, 205, 5) : Nat × Nat × Nat) ∈ mtab := by decide
theorem mt_1306 : ((1306, 206, 5) : Nat × Nat × Nat) ∈ mtab := by decide
theorem mt_1307 : ((1307, 207, 5) : Nat × Nat × Nat) ∈ mtab := by decide
theorem mt_1308 : ((1308, 208, 5) : Nat × Nat × Nat) ∈ mtab := by decide
theorem mt_1309 : ((1309, 209, 5) : Nat × Nat × Nat) ∈ mtab := by decide
theorem mt_1310 : ((1310, 210, 5) : Nat × Nat × Nat) ∈ mtab := by decide
theorem mt_1311 : ((1311, 211, 5) : Nat × Nat × Nat) ∈ mtab := by decide
theorem mt_1312 : ((1312, 112, 10000) : Nat × Nat × Nat) ∈ mtab := by decide
theorem mt_1314 : ((1314, 214, 10) : Nat × Nat × Nat) ∈ mtab := by decide
theorem mt_1315 : ((1315, 215, 10) : Nat × Nat × Nat) ∈ mtab := by decide
theorem mt_1316 : ((1316, 216, 10) : Nat × Nat × Nat) ∈ mtab := by decide
theorem mt_1317 : ((1317, 217, 10) : Nat × Nat × Nat) ∈ mtab := by decide
theorem mt_1318 : ((1318, 218, 10) : Nat × Nat × Nat) ∈ mtab := by decide
theorem mt_1319 : ((1319, 219, 10) : Nat × Nat × Nat) ∈ mtab := by decide
theorem mt_1320 : ((1320, 320, 10) : Nat × Nat × Nat) ∈ mtab := by decide
theorem mt_1322 : ((1322, 222, 6) : Nat × Nat × Nat) ∈ mtab := by decide
theorem mt_1323 : ((1323, 223, 160) : Nat × Nat × Nat) ∈ mtab := by decide
theorem mt_1326 : ((1326, 226, 1120) : Nat × Nat × Nat) ∈ mtab := by decide
theorem mt_1327 : ((1327, 227, 1120) : Nat × Nat × Nat) ∈ mtab := by decide
theorem mt_1328 : ((1328, 228, 21) : Nat × Nat × Nat) ∈ mtab := by decide
theorem mt_1330 : ((1330, 230, 12) : Nat × Nat × Nat) ∈ mtab := by decide
theorem mt_1331 : ((1331, 231, 12) : Nat × Nat × Nat) ∈ mtab := by decide
theorem mt_1332 : ((1332, 232, 12) : Nat × Nat × Nat) ∈ mtab := by decide
theorem mt_1333 : ((1333, 233, 12) : Nat × Nat × Nat) ∈ mtab := by decide
theorem mt_1334 : ((1334, 234, 12) : Nat × Nat × Nat) ∈ mtab := by decide
theorem mt_1335 : ((1335, 235, 12) : Nat × Nat × Nat) ∈ mtab := by decide
theorem mt_1336 : ((1336, 236, 12) : Nat × Nat × Nat) ∈ mtab := by decide
theorem mt_1337 : ((1337, 237, 12) : Nat × Nat × Nat) ∈ mtab := by decide
theorem mt_1338 : ((1338, 238, 12) : Nat × Nat × Nat) ∈ mtab := by decide
theorem mt_1339 : ((1339, 239, 4) : Nat × Nat × Nat) ∈ mtab := by decide
theorem mt_1340 : ((1340, 240, 4) : Nat × Nat × Nat) ∈ mtab := by decide
theorem mt_1341 : ((1341, 241, 160) : Nat × Nat × Nat) ∈ mtab := by decide
theorem mt_1342 : ((1342, 242, 32) : Nat × Nat × Nat) ∈ mtab := by decide
theorem mt_1346 : ((1346, 246, 3) : Nat × Nat × Nat) ∈ mtab := by decide
theorem mt_1347 : ((1347, 247, 3) : Nat × Nat × Nat) ∈ mtab := by decide
theorem mt_1348 : ((1348, 248, 6000) : Nat × Nat × Nat) ∈ mtab := by decide
theorem mt_1349 : ((1349, 249, 48) : Nat × Nat × Nat) ∈ mtab := by decide
theorem mt_1359 : ((1359, 259, 180) : Nat × Nat × Nat) ∈ mtab := by decide
