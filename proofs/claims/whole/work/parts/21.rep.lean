/-! THE CLASS'S PART S STANDS FOR σ: where its objects lie is told by ad (role, number) -/
abbrev AD : Type := Nat → Nat → Nat
def fixT : List (Nat × Nat × Nat × Nat × Nat) := [(1200, 24, 0, 600, 8), (1201, 24, 1, 800, 5), (1202, 24, 2, 500, 10), (1203, 24, 3, 900, 6), (1204, 24, 4, 400, 12), (1205, 24, 5, 700, 4), (1206, 24, 6, 601, 6), (703, 8, 13, 256, 3), (704, 8, 14, 257, 3), (101, 9, 15, 258, 6), (102, 9, 16, 259, 6), (103, 9, 17, 1000, 6), (104, 9, 18, 260, 1000), (105, 9, 19, 261, 1000), (601, 10, 20, 253, 160), (603, 10, 21, 254, 160), (604, 10, 22, 255, 160), (1006, 11, 23, 263, 160)]
def objT : List (Nat × Nat × Nat × Nat) := [(1213, 24, 7, 5), (1214, 24, 8, 7), (1215, 24, 9, 1), (1216, 24, 10, 6), (1218, 24, 11, 10), (705, 8, 12, 5)]
def hkd : Nat → Nat := fun h => if h = 24 then 12 else if h = 8 then 7 else if h = 9 then 1 else if h = 10 then 6 else 10
def CF (ad : AD) (x : Nat) (S : HSt) : Prop := ad 10 24 = x ∧ gK S x = 12 ∧ (∀ q ∈ fixT, gR S q.1 (ad 10 q.2.1) = some (ad 10 q.2.2.1) ∧ gK S (ad 10 q.2.2.1) = q.2.2.2.1 ∧ gN S (ad 10 q.2.2.1) = q.2.2.2.2) ∧ (∀ q ∈ objT, gR S q.1 (ad 10 q.2.1) = some (ad 10 q.2.2.1) ∧ gK S (ad 10 q.2.2.1) = q.2.2.2) ∧ (∀ i, i < 6 → gB S 1000 (ad 10 17) i = some (ad 11 i) ∧ gK S (ad 11 i) = 262 ∧ gN S (ad 11 i) = 1000) ∧ ∀ i j, i < 6 → j < 6 → ad 11 i = ad 11 j → i = j
def CC (ad : AD) (x : Nat) (S : HSt) (σ : Sg) : Prop := gI S 1207 x = nI (cN σ 0) ∧ gI S 1208 x = nI (cN σ 1) ∧ gI S 1209 x = nI (cN σ 2) ∧ gI S 1210 x = nI (cN σ 3) ∧ gI S 1211 x = nI (cN σ 4) ∧ gI S 600 (ad 10 10) = nI (cN σ 5) ∧ gI S 1212 x = nI (cN σ 6)
def CP (ad : AD) (S : HSt) (σ : Sg) : Prop := (∀ i, i < cN σ 0 → gB S 600 (ad 10 0) i = some (ad 0 i) ∧ gK S (ad 0 i) = 4 ∧ gR S 403 (ad 0 i) = some (ad 1 i) ∧ gK S (ad 1 i) = 250 ∧ gN S (ad 1 i) = 8 ∧ gI S 400 (ad 0 i) = nI i ∧ gI S 401 (ad 0 i) = dD σ 1301 i ∧ gI S 402 (ad 0 i) = dD σ 1302 i ∧ ∀ j, j < 8 → gA S 250 (ad 1 i) j = dD σ 1303 (8 * i + j)) ∧ ∀ i j, i < cN σ 0 → j < cN σ 0 → ad 1 i = ad 1 j → i = j
def CS (ad : AD) (S : HSt) (σ : Sg) : Prop := (∀ i, i < cN σ 1 → gB S 800 (ad 10 1) i = some (ad 2 i) ∧ gK S (ad 2 i) = 9 ∧ gR S 908 (ad 2 i) = some (ad 3 i) ∧ gK S (ad 3 i) = 150 ∧ gN S (ad 3 i) = 2000 ∧ gI S 900 (ad 2 i) = nI i ∧ gI S 901 (ad 2 i) = dD σ 1307 i ∧ gI S 902 (ad 2 i) = dD σ 1308 i ∧ gI S 903 (ad 2 i) = dD σ 1309 i ∧ gR S 904 (ad 2 i) = some (ad 0 (ix (dD σ 1305 i))) ∧ gI S 905 (ad 2 i) = dD σ 1306 i ∧ gI S 906 (ad 2 i) = dD σ 1310 i ∧ gI S 907 (ad 2 i) = dD σ 1311 i ∧ ∀ h, h < ix (dD σ 1311 i) → gA S 150 (ad 3 i) h = dD σ 1312 (2000 * i + h)) ∧ ∀ i j, i < cN σ 1 → j < cN σ 1 → ad 3 i = ad 3 j → i = j
def CO (ad : AD) (S : HSt) (σ : Sg) : Prop := (∀ i, i < cN σ 2 → gB S 500 (ad 10 2) i = some (ad 4 i) ∧ gK S (ad 4 i) = 3 ∧ gR S 300 (ad 4 i) = some (ad 0 (ix (dD σ 1314 i))) ∧ gR S 301 (ad 4 i) = some (ad 0 (ix (dD σ 1315 i))) ∧ gI S 302 (ad 4 i) = dD σ 1316 i ∧ gI S 303 (ad 4 i) = dD σ 1317 i ∧ gI S 304 (ad 4 i) = dD σ 1318 i ∧ gI S 305 (ad 4 i) = dD σ 1319 i ∧ gI S 306 (ad 4 i) = dD σ 1320 i) ∧ ∀ i j, i < cN σ 2 → j < cN σ 2 → ad 4 i = ad 4 j → i = j
def CRo (ad : AD) (S : HSt) (σ : Sg) : Prop := ∀ k, k < cN σ 6 → gB S 601 (ad 10 6) k = some (ad 0 (ix (dD σ 1322 k)))
def CT (ad : AD) (S : HSt) (σ : Sg) : Prop := ∀ k, k < cN σ 5 → gA S 253 (ad 10 20) k = dD σ 1323 k
def encO (o v : Int32) : Int32 := if o = 0 then v else if o = 1 then -10 - v else 1 - o
def CX (ad : AD) (x : Nat) (S : HSt) (σ : Sg) : Prop := (∀ i, i < cN σ 3 → gB S 900 (ad 10 3) i = some (ad 5 i) ∧ gK S (ad 5 i) = 11 ∧ gR S 1103 (ad 5 i) = some (ad 6 i) ∧ gK S (ad 6 i) = 251 ∧ gN S (ad 6 i) = 160 ∧ gI S 1100 (ad 5 i) = nI i ∧ gI S 1101 (ad 5 i) = dD σ 1328 (3 * i + 1) ∧ gI S 1102 (ad 5 i) = dD σ 1328 (3 * i + 2) ∧ ∀ j, j < ix (dD σ 1328 (3 * i + 2)) → gA S 251 (ad 6 i) j = encO (dD σ 1326 (160 * i + j)) (dD σ 1327 (160 * i + j))) ∧ (gR S 1217 x = some (ad 12 0) ∧ gK S (ad 12 0) = 11 ∧ gR S 1103 (ad 12 0) = some (ad 12 1) ∧ gK S (ad 12 1) = 251 ∧ gN S (ad 12 1) = 160 ∧ gI S 1100 (ad 12 0) = nI (cN σ 3)) ∧ ∀ i, i < cN σ 3 → ad 6 i ≠ ad 12 1
def CH (ad : AD) (S : HSt) (σ : Sg) : Prop := (∀ i, i < cN σ 4 → gB S 400 (ad 10 4) i = some (ad 7 i) ∧ gK S (ad 7 i) = 2 ∧ gI S 200 (ad 7 i) = dD σ 1330 i ∧ gR S 201 (ad 7 i) = some (ad 2 (ix (dD σ 1331 i))) ∧ gI S 202 (ad 7 i) = dD σ 1332 i ∧ gI S 203 (ad 7 i) = dD σ 1333 i ∧ gR S 204 (ad 7 i) = some (ad 5 (ix (dD σ 1334 i))) ∧ gI S 205 (ad 7 i) = dD σ 1335 i ∧ gI S 206 (ad 7 i) = dD σ 1336 i ∧ gI S 207 (ad 7 i) = dD σ 1337 i ∧ gI S 208 (ad 7 i) = dD σ 1338 i) ∧ ∀ i j, i < cN σ 4 → j < cN σ 4 → ad 7 i = ad 7 j → i = j
def CE (ad : AD) (S : HSt) (σ : Sg) : Prop := (∀ i, i < 4 → gB S 700 (ad 10 5) i = some (ad 8 i) ∧ gK S (ad 8 i) = 8 ∧ gR S 802 (ad 8 i) = some (ad 9 i) ∧ gK S (ad 9 i) = 252 ∧ gN S (ad 9 i) = 40 ∧ gI S 800 (ad 8 i) = dD σ 1339 i ∧ gI S 801 (ad 8 i) = dD σ 1340 i ∧ ∀ j, j < 40 → gA S 252 (ad 9 i) j = dD σ 1341 (40 * i + j)) ∧ (∀ i j, i < 4 → j < 4 → ad 8 i = ad 8 j → i = j) ∧ ∀ i j, i < 4 → j < 4 → ad 9 i = ad 9 j → i = j
def CR (ad : AD) (x : Nat) (S : HSt) (σ : Sg) : Prop := CF ad x S ∧ CC ad x S σ ∧ CP ad S σ ∧ CS ad S σ ∧ CO ad S σ ∧ CRo ad S σ ∧ CT ad S σ ∧ CX ad x S σ ∧ CH ad S σ ∧ CE ad S σ
/-! what always holds of σ -/
def bet (v : Int32) (a b : Int) : Prop := a ≤ v.toInt ∧ v.toInt ≤ b
/-- a code of a text; the height of the pile behind n codes; a text that is well made -/
def okC (o v : Int32) : Prop := (o = 0 ∧ bet v 0 9999) ∨ (o = 1 ∧ bet v 0 4) ∨ (bet o 2 10 ∧ v = 0)
def hg (op : Nat → Int32) : Nat → Nat → Nat → Option Nat
  | _, 0, h => some h
  | a, n + 1, h => if op a = 0 ∨ op a = 1 then hg op (a + 1) n (h + 1) else if op a = 4 ∨ op a = 10 then (if 1 ≤ h then hg op (a + 1) n h else none) else (if 2 ≤ h then hg op (a + 1) n (h - 1) else none)
def okT (op vl : Nat → Int32) (p0 p1 p2 : Int32) : Prop := p0 = 0 ∧ bet p1 0 160 ∧ bet p2 0 160 ∧ ix p1 ≤ ix p2 ∧ (∀ j, j < ix p2 → okC (op j) (vl j)) ∧ hg op 0 (ix p1) 0 = some 1 ∧ hg op (ix p1) (ix p2 - ix p1) 0 = some 1
def Inv (σ : Sg) : Prop := (cN σ 0 ≤ 8 ∧ cN σ 1 ≤ 5 ∧ cN σ 2 ≤ 10 ∧ (1 ≤ cN σ 3 ∧ cN σ 3 ≤ 6) ∧ cN σ 4 ≤ 12 ∧ cN σ 5 ≤ 160 ∧ cN σ 6 ≤ 6) ∧
  (∀ i, i < cN σ 0 → bet (dD σ 1301 i) 10 999 ∧ bet (dD σ 1302 i) 0 99) ∧
  (∀ i j, i < 8 → j < 8 → bet (dD σ 1303 (8 * i + j)) 0 9999 ∧ (cN σ 0 ≤ i ∨ cN σ 0 ≤ j ∨ i = j → dD σ 1303 (8 * i + j) = 0)) ∧
  (∀ i, i < cN σ 1 → okN (dD σ 1305 i) (cN σ 0) ∧ bet (dD σ 1306 i) 0 9999 ∧ bet (dD σ 1307 i) 100 9999 ∧ bet (dD σ 1308 i) 10 999 ∧ bet (dD σ 1309 i) 1 50 ∧ bet (dD σ 1310 i) 6 14 ∧ bet (dD σ 1311 i) 0 2000 ∧ ∀ h, h < ix (dD σ 1311 i) → bet (dD σ 1312 (2000 * i + h)) 0 5) ∧
  (∀ i, cN σ 1 ≤ i → i < 5 → dD σ 1306 i = 0 ∧ dD σ 1311 i = 0) ∧
  (∀ i, i < cN σ 2 → okN (dD σ 1314 i) (cN σ 0) ∧ okN (dD σ 1315 i) (cN σ 0) ∧ bet (dD σ 1316 i) 1 9999 ∧ bet (dD σ 1317 i) 0 9999 ∧ bet (dD σ 1318 i) 0 9999 ∧ bet (dD σ 1319 i) 0 9999 ∧ (dD σ 1320 i = 0 ∨ dD σ 1320 i = 1)) ∧
  (∀ i, cN σ 2 ≤ i → i < 10 → dD σ 1320 i = 0) ∧
  (∀ k, k < cN σ 6 → okN (dD σ 1322 k) (cN σ 0)) ∧
  (∀ i, i < cN σ 4 → bet (dD σ 1330 i) 0 5 ∧ okN (dD σ 1331 i) (cN σ 1) ∧ bet (dD σ 1332 i) 0 9999 ∧ bet (dD σ 1333 i) 0 9999 ∧ dD σ 1332 i ≤ dD σ 1333 i ∧ okN (dD σ 1334 i) (cN σ 3) ∧ bet (dD σ 1335 i) 0 99999 ∧ bet (dD σ 1336 i) 0 999 ∧ bet (dD σ 1337 i) 0 999 ∧ bet (dD σ 1338 i) 0 2 ∧ (dD σ 1338 i ≠ 0 → dD σ 1330 i = 5)) ∧
  (∀ i j, i < cN σ 4 → j < cN σ 4 → i ≠ j → dD σ 1331 i = dD σ 1331 j → dD σ 1338 i ≠ 2 → dD σ 1338 j ≠ 2 → dD σ 1333 i < dD σ 1332 j ∨ dD σ 1333 j < dD σ 1332 i) ∧
  (∀ i, i < 4 → bet (dD σ 1339 i) (-1) 2 ∧ bet (dD σ 1340 i) 0 40 ∧ (dD σ 1339 i = -1 → dD σ 1340 i = 0)) ∧
  (∀ k, k < cN σ 5 → bet (dD σ 1323 k) 0 255) ∧
  (∀ t, t < cN σ 3 → okT (fun j => dD σ 1326 (160 * t + j)) (fun j => dD σ 1327 (160 * t + j)) (dD σ 1328 (3 * t)) (dD σ 1328 (3 * t + 1)) (dD σ 1328 (3 * t + 2)))
theorem fixT_ok : ∀ q ∈ fixT, q.1 ≠ 904 ∧ q.1 ≠ 1217 ∧ q.2.2.2.1 ≠ 0 := by decide +kernel
theorem CF.h24 {ad : AD} {x : Nat} {S : HSt} (h : CF ad x S) : gK S (ad 10 24) = 12 := by rw [h.1]; exact h.2.1
theorem CF.hk {ad : AD} {x : Nat} {S : HSt} (h : CF ad x S) (a : Nat) (ha : a = 24 ∨ a = 8 ∨ a = 9 ∨ a = 10 ∨ a = 11) : gK S (ad 10 a) = hkd a ∧ hkd a ≠ 0 := by
  rcases ha with rfl | rfl | rfl | rfl | rfl
  · exact ⟨h.h24, by decide⟩
  · exact ⟨(h.2.2.2.1 (1214, 24, 8, 7) (by decide)).2, by decide⟩
  · exact ⟨(h.2.2.2.1 (1215, 24, 9, 1) (by decide)).2, by decide⟩
  · exact ⟨(h.2.2.2.1 (1216, 24, 10, 6) (by decide)).2, by decide⟩
  · exact ⟨(h.2.2.2.1 (1218, 24, 11, 10) (by decide)).2, by decide⟩
theorem fixT_h : ∀ q ∈ fixT, q.2.1 = 24 ∨ q.2.1 = 8 ∨ q.2.1 = 9 ∨ q.2.1 = 10 ∨ q.2.1 = 11 := by decide +kernel
theorem objT_h : ∀ q ∈ objT, (q.2.1 = 24 ∨ q.2.1 = 8 ∨ q.2.1 = 9 ∨ q.2.1 = 10 ∨ q.2.1 = 11) ∧ q.1 ≠ 904 ∧ q.1 ≠ 1217 ∧ q.2.2.2 ≠ 0 := by decide +kernel
theorem CF.ks {ad : AD} {x : Nat} {S S' : HSt} (h : CF ad x S) (q : Ks S S') (hb : ∀ i, i < 6 → gB S' 1000 (ad 10 17) i = gB S 1000 (ad 10 17) i) : CF ad x S' := by
  refine ⟨h.1, q.k h.2.1, fun r hr => ?_, fun r hr => ?_, fun i hi => ?_, h.2.2.2.2.2⟩
  · obtain ⟨h1, h2, h3⟩ := h.2.2.1 r hr
    obtain ⟨e1, e2, e3⟩ := fixT_ok r hr
    obtain ⟨k1, k2⟩ := h.hk _ (fixT_h r hr)
    exact ⟨q.r k1 h1 k2 e1 e2, q.k h2 e3, q.n h2 h3 e3⟩
  · obtain ⟨h1, h2⟩ := h.2.2.2.1 r hr
    obtain ⟨e0, e1, e2, e3⟩ := objT_h r hr
    obtain ⟨k1, k2⟩ := h.hk _ e0
    exact ⟨q.r k1 h1 k2 e1 e2, q.k h2 e3⟩
  · obtain ⟨h1, h2, h3⟩ := h.2.2.2.2.1 i hi
    exact ⟨(hb i hi).trans h1, q.k h2, q.n h2 h3⟩
theorem CF.f {ad : AD} {x : Nat} {S : HSt} (h : CF ad x S) (f t k n : Nat) (hq : (f, 24, t, k, n) ∈ fixT := by decide) : gR S f x = some (ad 10 t) ∧ gK S (ad 10 t) = k ∧ gN S (ad 10 t) = n := by
  have := h.2.2.1 _ hq
  rw [show (ad 10 (f, 24, t, k, n).2.1) = x from h.1] at this
  exact this
theorem CF.o {ad : AD} {x : Nat} {S : HSt} (h : CF ad x S) (f t k : Nat) (hq : (f, 24, t, k) ∈ objT := by decide) : gR S f x = some (ad 10 t) ∧ gK S (ad 10 t) = k := by
  have := h.2.2.2.1 _ hq
  rw [show (ad 10 (f, 24, t, k).2.1) = x from h.1] at this
  exact this
theorem CF.g {ad : AD} {x : Nat} {S : HSt} (h : CF ad x S) (f a t k n : Nat) (hq : (f, a, t, k, n) ∈ fixT := by decide) : gR S f (ad 10 a) = some (ad 10 t) ∧ gK S (ad 10 t) = k ∧ gN S (ad 10 t) = n := h.2.2.1 _ hq
theorem c_portAt {ad : AD} {x : Nat} {S : HSt} {σ : Sg} (h : CR ad x S σ) (hi : Inv σ) {p : Int32} {Post : Option Nat → HSt → Prop} (h1 : okN p (cN σ 0) → Post (some (ad 0 (ix p))) S) (h0 : ¬ okN p (cN σ 0) → Post none S) : wp_X11_portAt x p S Post := by
  have hn : cN σ 0 ≤ 8 := hi.1.1
  unfold wp_X11_portAt
  rw [h.2.1.1]
  refine ⟨fun a => h0 (fun z => z.1 a), fun a => ⟨fun b => h0 (fun z => absurd z.2 ((i_nlt _ _).mpr b)), fun b => ?_⟩⟩
  have ok : okN p (cN σ 0) := ⟨a, (i_nle _ _).mp b⟩
  obtain ⟨e1, e2, e3⟩ := h.1.f 1200 0 600 8
  refine ⟨_, e1, e2, by rw [e3]; exact okN_in ok hn (by decide), ?_⟩
  rw [(h.2.2.1.1 _ (okN_lt ok (by omega))).1]
  exact h1 ok
theorem c_shipAt {ad : AD} {x : Nat} {S : HSt} {σ : Sg} (h : CR ad x S σ) (hi : Inv σ) {p : Int32} {Post : Option Nat → HSt → Prop} (h1 : okN p (cN σ 1) → Post (some (ad 2 (ix p))) S) (h0 : ¬ okN p (cN σ 1) → Post none S) : wp_X11_shipAt x p S Post := by
  have hn : cN σ 1 ≤ 5 := hi.1.2.1
  unfold wp_X11_shipAt
  rw [h.2.1.2.1]
  refine ⟨fun a => h0 (fun z => z.1 a), fun a => ⟨fun b => h0 (fun z => absurd z.2 ((i_nlt _ _).mpr b)), fun b => ?_⟩⟩
  have ok : okN p (cN σ 1) := ⟨a, (i_nle _ _).mp b⟩
  obtain ⟨e1, e2, e3⟩ := h.1.f 1201 1 800 5
  refine ⟨_, e1, e2, by rw [e3]; exact okN_in ok hn (by decide), ?_⟩
  rw [(h.2.2.2.1.1 _ (okN_lt ok (by omega))).1]
  exact h1 ok
theorem c_offerAt {ad : AD} {x : Nat} {S : HSt} {σ : Sg} (h : CR ad x S σ) (hi : Inv σ) {p : Int32} {Post : Option Nat → HSt → Prop} (h1 : okN p (cN σ 2) → Post (some (ad 4 (ix p))) S) (h0 : ¬ okN p (cN σ 2) → Post none S) : wp_X11_offerAt x p S Post := by
  have hn : cN σ 2 ≤ 10 := hi.1.2.2.1
  unfold wp_X11_offerAt
  rw [h.2.1.2.2.1]
  refine ⟨fun a => h0 (fun z => z.1 a), fun a => ⟨fun b => h0 (fun z => absurd z.2 ((i_nlt _ _).mpr b)), fun b => ?_⟩⟩
  have ok : okN p (cN σ 2) := ⟨a, (i_nle _ _).mp b⟩
  obtain ⟨e1, e2, e3⟩ := h.1.f 1202 2 500 10
  refine ⟨_, e1, e2, by rw [e3]; exact okN_in ok hn (by decide), ?_⟩
  rw [(h.2.2.2.2.1.1 _ (okN_lt ok (by omega))).1]
  exact h1 ok
theorem c_textAt {ad : AD} {x : Nat} {S : HSt} {σ : Sg} (h : CR ad x S σ) (hi : Inv σ) {p : Int32} {Post : Option Nat → HSt → Prop} (h1 : okN p (cN σ 3) → Post (some (ad 5 (ix p))) S) (h0 : ¬ okN p (cN σ 3) → Post none S) : wp_X11_textAt x p S Post := by
  have hn : cN σ 3 ≤ 6 := hi.1.2.2.2.1.2
  unfold wp_X11_textAt
  rw [h.2.1.2.2.2.1]
  refine ⟨fun a => h0 (fun z => z.1 a), fun a => ⟨fun b => h0 (fun z => absurd z.2 ((i_nlt _ _).mpr b)), fun b => ?_⟩⟩
  have ok : okN p (cN σ 3) := ⟨a, (i_nle _ _).mp b⟩
  obtain ⟨e1, e2, e3⟩ := h.1.f 1203 3 900 6
  refine ⟨_, e1, e2, by rw [e3]; exact okN_in ok hn (by decide), ?_⟩
  rw [(h.2.2.2.2.2.2.2.1.1 _ (okN_lt ok (by omega))).1]
  exact h1 ok
theorem c_charterAt {ad : AD} {x : Nat} {S : HSt} {σ : Sg} (h : CR ad x S σ) (hi : Inv σ) {p : Int32} {Post : Option Nat → HSt → Prop} (h1 : okN p (cN σ 4) → Post (some (ad 7 (ix p))) S) (h0 : ¬ okN p (cN σ 4) → Post none S) : wp_X11_charterAt x p S Post := by
  have hn : cN σ 4 ≤ 12 := hi.1.2.2.2.2.1
  unfold wp_X11_charterAt
  rw [h.2.1.2.2.2.2.1]
  refine ⟨fun a => h0 (fun z => z.1 a), fun a => ⟨fun b => h0 (fun z => absurd z.2 ((i_nlt _ _).mpr b)), fun b => ?_⟩⟩
  have ok : okN p (cN σ 4) := ⟨a, (i_nle _ _).mp b⟩
  obtain ⟨e1, e2, e3⟩ := h.1.f 1204 4 400 12
  refine ⟨_, e1, e2, by rw [e3]; exact okN_in ok hn (by decide), ?_⟩
  rw [(h.2.2.2.2.2.2.2.2.1.1 _ (okN_lt ok (by omega))).1]
  exact h1 ok
theorem c_sheetAt {ad : AD} {x : Nat} {S : HSt} {σ : Sg} (h : CR ad x S σ) {p : Int32} {Post : Option Nat → HSt → Prop} (h1 : okN p 4 → Post (some (ad 8 (ix p))) S) (h0 : ¬ okN p 4 → Post none S) : wp_X11_sheetAt x p S Post := by
  unfold wp_X11_sheetAt
  refine ⟨fun a => h0 (fun z => z.1 a), fun a => ⟨fun b => h0 (fun z => absurd z.2 ((i_nlt _ _).mpr b)), fun b => ?_⟩⟩
  have ok : okN p 4 := ⟨a, (i_nle _ _).mp b⟩
  obtain ⟨e1, e2, e3⟩ := h.1.f 1205 5 700 4
  refine ⟨_, e1, e2, by rw [e3]; exact okN_in ok (Nat.le_refl _) (by decide), ?_⟩
  rw [(h.2.2.2.2.2.2.2.2.2.1 _ (okN_lt ok (by decide))).1]
  exact h1 ok
