/-! MAKING NEW THINGS: what stays meanwhile -/
def Same (S S' : HSt) (b : Nat) : Prop := gK S' b = gK S b ∧ gN S' b = gN S b ∧ (∀ f, gI S' f b = gI S f b) ∧ (∀ f, gR S' f b = gR S f b) ∧ (∀ k, gA S' k b = gA S k b) ∧ ∀ k, k ≠ 700 → gB S' k b = gB S k b
theorem Same.rf {S : HSt} {b : Nat} : Same S S b := ⟨rfl, rfl, fun _ => rfl, fun _ => rfl, fun _ => rfl, fun _ _ => rfl⟩
theorem Same.trans {S1 S2 S3 : HSt} {b : Nat} (h1 : Same S1 S2 b) (h2 : Same S2 S3 b) : Same S1 S3 b := by
  obtain ⟨a1, a2, a3, a4, a5, a6⟩ := h1
  obtain ⟨b1, b2, b3, b4, b5, b6⟩ := h2
  exact ⟨b1.trans a1, b2.trans a2, fun f => (b3 f).trans (a3 f), fun f => (b4 f).trans (a4 f), fun k => (b5 k).trans (a5 k), fun k hk => (b6 k hk).trans (a6 k hk)⟩
def Old (x : Nat) (S S' : HSt) : Prop := ∀ b, gK S b ≠ 0 → b ≠ x → Same S S' b
theorem Old.rf {x : Nat} {S : HSt} : Old x S S := fun _ _ _ => Same.rf
theorem Old.trans {x : Nat} {S1 S2 S3 : HSt} (h1 : Old x S1 S2) (h2 : Old x S2 S3) : Old x S1 S3 := fun b hb hx => (h1 b hb hx).trans (h2 b (by rw [(h1 b hb hx).1]; exact hb) hx)
/-- an object in the making: its numbers, rows and objects so far -/
def OB (x kx : Nat) (I : Nat → Int32) (ds : List (Nat × Nat × Nat)) (os : List (Nat × Nat)) (V : Nat → Nat → Int32) (f0 : Nat) (S : HSt) : Prop := gK S x = kx ∧ (∀ f, gI S f x = I f) ∧ (∀ q ∈ ds, q.2.1 ≠ 0 ∧ q.2.1 ≠ kx ∧ q.1 < f0 ∧ ∃ b, gR S q.1 x = some b ∧ gK S b = q.2.1 ∧ gN S b = q.2.2 ∧ ∀ i, gA S q.2.1 b i = V q.2.1 i) ∧ (∀ q ∈ os, q.1 < f0 ∧ gR S q.1 x = some q.2) ∧ ∀ f, f0 ≤ f → gR S f x = none
theorem sA_i1 {S : HSt} {k a : Nat} {h : Nat → Int32} (e : gA S k a = h) : sA S k a h = S := by
  obtain ⟨s1, s2, s3, s4, s5, s6, s7⟩ := S
  have e : s6 k a = h := e
  show (s1, s2, s3, s4, s5, up2 s6 k a h, s7) = (s1, s2, s3, s4, s5, s6, s7)
  have : up2 s6 k a h = s6 := by
    funext k' a'
    show (if k' = k ∧ a' = a then h else s6 k' a') = s6 k' a'
    by_cases q : k' = k ∧ a' = a
    · rw [if_pos q, q.1, q.2, e]
    · rw [if_neg q]
  rw [this]
theorem sA_i2 {S : HSt} {k a : Nat} {h h' : Nat → Int32} : sA (sA S k a h) k a h' = sA S k a h' := by
  obtain ⟨s1, s2, s3, s4, s5, s6, s7⟩ := S
  show (s1, s2, s3, s4, s5, up2 (up2 s6 k a h) k a h', s7) = (s1, s2, s3, s4, s5, up2 s6 k a h', s7)
  have : up2 (up2 s6 k a h) k a h' = up2 s6 k a h' := by
    funext k' a'
    show (if k' = k ∧ a' = a then h' else (if k' = k ∧ a' = a then h else s6 k' a')) = (if k' = k ∧ a' = a then h' else s6 k' a')
    by_cases q : k' = k ∧ a' = a
    · rw [if_pos q, if_pos q]
    · rw [if_neg q, if_neg q, if_neg q]
  rw [this]
theorem gA_n1 {S : HSt} {k a n : Nat} : gA (nA S k a n) k a = fun _ => 0 := by
  show (if a = a then (fun _ => (0 : Int32)) else _) = _
  rw [if_pos rfl]
theorem OB.core {x kx : Nat} {I : Nat → Int32} {ds : List (Nat × Nat × Nat)} {os : List (Nat × Nat)} {V : Nat → Nat → Int32} {f0 : Nat} {S : HSt} (h : OB x kx I ds os V f0 S) (k n f : Nat) (hk : k ≠ 0 ∧ kx ≠ 0 ∧ k ≠ kx) (hf : f0 ≤ f) {a : Nat} (ha : gK S a = 0) (hh : Nat → Int32) (hV : ∀ i, V k i = hh i) : gR (sA (nA S k a n) k a hh) f x = none ∧ OB x kx I ((f, k, n) :: ds) os V (f + 1) (uR (sA (nA S k a n) k a hh) f x (some a)) ∧ Old x S (uR (sA (nA S k a n) k a hh) f x (some a)) := by
  obtain ⟨h1, h2, h3, h4, h5⟩ := h
  have hx : x ≠ a := fun z => hk.2.1 (h1.symm.trans (by rw [z]; exact ha))
  have eK : ∀ b, b ≠ a → gK (uR (sA (nA S k a n) k a hh) f x (some a)) b = gK S b := fun b hb => va_up_ne _ _ hb
  have eN : ∀ b, b ≠ a → gN (uR (sA (nA S k a n) k a hh) f x (some a)) b = gN S b := fun b hb => va_up_ne _ _ hb
  have eR : ∀ f' b, ¬ (f' = f ∧ b = x) → gR (uR (sA (nA S k a n) k a hh) f x (some a)) f' b = gR S f' b := fun f' b hb => by
    show (if f' = f ∧ b = x then some a else gR S f' b) = _
    rw [if_neg hb]
  have eA : ∀ k' b, b ≠ a → gA (uR (sA (nA S k a n) k a hh) f x (some a)) k' b = gA S k' b := fun k' b hb => by
    show (if k' = k ∧ b = a then hh else (if b = a then (fun _ => (0 : Int32)) else gA S k' b)) = _
    rw [if_neg (fun z => hb z.2), if_neg hb]
  have eB : ∀ k' b, b ≠ a → gB (uR (sA (nA S k a n) k a hh) f x (some a)) k' b = gB S k' b := fun k' b hb => by
    show (if b = a then (fun _ => (none : Option Nat)) else gB S k' b) = _
    rw [if_neg hb]
  refine ⟨h5 f hf, ⟨(eK x hx).trans h1, fun f' => h2 f', fun q hq => ?_, fun q hq => ?_, fun f' hf' => ?_⟩, fun b hb hbx => ?_⟩
  · rcases List.mem_cons.mp hq with rfl | hq
    · refine ⟨hk.1, hk.2.2, Nat.lt_succ_self f, a, ?_, va_up_self _ _ _, va_up_self _ _ _, fun i => ?_⟩
      · show (if f = f ∧ x = x then some a else _) = _
        rw [if_pos ⟨rfl, rfl⟩]
      · show (if k = k ∧ a = a then hh else _) i = V k i
        rw [if_pos ⟨rfl, rfl⟩, hV]
    · obtain ⟨q1, q2, q3, b, q4, q5, q6, q7⟩ := h3 q hq
      have hb : b ≠ a := fun z => q1 (q5.symm.trans (by rw [z]; exact ha))
      refine ⟨q1, q2, by omega, b, ?_, (eK b hb).trans q5, (eN b hb).trans q6, fun i => ?_⟩
      · rw [eR _ _ (fun z => by omega)]; exact q4
      · rw [eA _ _ hb]; exact q7 i
  · obtain ⟨q1, q2⟩ := h4 q hq
    exact ⟨by omega, by rw [eR _ _ (fun z => by omega)]; exact q2⟩
  · rw [eR _ _ (fun z => by omega)]; exact h5 f' (by omega)
  · have hba : b ≠ a := fun z => hb (by rw [z]; exact ha)
    exact ⟨eK b hba, eN b hba, fun _ => rfl, fun f' => eR f' b (fun z => hbx z.2), fun k' => eA k' b hba, fun k' _ => eB k' b hba⟩
theorem OB.row {x kx : Nat} {I : Nat → Int32} {ds : List (Nat × Nat × Nat)} {os : List (Nat × Nat)} {V : Nat → Nat → Int32} {f0 : Nat} {S : HSt} (h : OB x kx I ds os V f0 S) (k n f : Nat) (hk : k ≠ 0 ∧ kx ≠ 0 ∧ k ≠ kx) (hV : ∀ i, V k i = 0) (hf : f0 ≤ f) {X : HSt → Prop} (hX : ∀ S7, OB x kx I ((f, k, n) :: ds) os V (f + 1) S7 → Old x S S7 → X S7) : ∀ a, gK S a = 0 → ∀ S3, S3 = nA S k a n → gR S3 f x = none ∧ ∀ S7, S7 = uR S3 f x (some a) → X S7 := by
  intro a ha S3 e3
  obtain ⟨c1, c2, c3⟩ := h.core k n f hk hf ha (fun _ => 0) hV
  rw [sA_i1 gA_n1, ← e3] at c1 c2 c3
  exact ⟨c1, fun S7 e7 => by rw [e7]; exact hX _ c2 c3⟩
theorem OB.old {x kx : Nat} {I : Nat → Int32} {ds : List (Nat × Nat × Nat)} {os : List (Nat × Nat)} {V : Nat → Nat → Int32} {f0 : Nat} {S S' : HSt} (h : OB x kx I ds os V f0 S) (hk : kx ≠ 0) {y : Nat} (ho : Old y S S') (hxy : x ≠ y) (hy : ∀ q ∈ ds, gK S y ≠ q.2.1) : OB x kx I ds os V f0 S' := by
  obtain ⟨h1, h2, h3, h4, h5⟩ := h
  obtain ⟨s1, s2, s3, s4, s5, s6⟩ := ho x (by rw [h1]; exact hk) hxy
  refine ⟨s1.trans h1, fun f => (s3 f).trans (h2 f), fun q hq => ?_, fun q hq => ⟨(h4 q hq).1, (s4 _).trans (h4 q hq).2⟩, fun f hf => (s4 f).trans (h5 f hf)⟩
  obtain ⟨q1, q2, q3, b, q4, q5, q6, q7⟩ := h3 q hq
  obtain ⟨t1, t2, t3, t4, t5, t6⟩ := ho b (by rw [q5]; exact q1) (fun z => hy q hq (by rw [← z]; exact q5))
  exact ⟨q1, q2, q3, b, (s4 _).trans q4, t1.trans q5, t2.trans q6, fun i => by rw [t5]; exact q7 i⟩
theorem OB.set {x kx : Nat} {I : Nat → Int32} {ds : List (Nat × Nat × Nat)} {os : List (Nat × Nat)} {V : Nat → Nat → Int32} {f0 : Nat} {S : HSt} (h : OB x kx I ds os V f0 S) {f : Nat} (hf : f0 ≤ f) (y : Nat) : gR S f x = none ∧ OB x kx I ds ((f, y) :: os) V (f + 1) (uR S f x (some y)) ∧ Old x S (uR S f x (some y)) := by
  obtain ⟨h1, h2, h3, h4, h5⟩ := h
  have eR : ∀ f' b, ¬ (f' = f ∧ b = x) → gR (uR S f x (some y)) f' b = gR S f' b := fun f' b hb => by
    show (if f' = f ∧ b = x then some y else gR S f' b) = _
    rw [if_neg hb]
  refine ⟨h5 f hf, ⟨h1, h2, fun q hq => ?_, fun q hq => ?_, fun f' hf' => ?_⟩, fun b hb hbx => ⟨rfl, rfl, fun _ => rfl, fun f' => eR f' b (fun z => hbx z.2), fun _ => rfl, fun _ _ => rfl⟩⟩
  · obtain ⟨q1, q2, q3, b, q4, q5⟩ := h3 q hq
    exact ⟨q1, q2, by omega, b, by rw [eR _ _ (fun z => by omega)]; exact q4, q5⟩
  · rcases List.mem_cons.mp hq with rfl | hq
    · exact ⟨Nat.lt_succ_self f, if_pos ⟨rfl, rfl⟩⟩
    · exact ⟨by have := (h4 q hq).1; omega, by rw [eR _ _ (fun z => by have := (h4 q hq).1; omega)]; exact (h4 q hq).2⟩
  · rw [eR _ _ (fun z => by omega)]; exact h5 f' (by omega)
theorem OB.new {S : HSt} {x kx : Nat} (V : Nat → Nat → Int32) (hx : gK S x = 0) : OB x kx (fun _ => 0) [] [] V 0 (nO S kx x) ∧ Old x S (nO S kx x) := by
  have c : ∀ {α : Type} (g : Nat → Nat → α) (v : α) (f b : Nat), b ≠ x → cl2 g x v f b = g f b := fun g v f b hb => if_neg hb
  refine ⟨⟨va_up_self _ _ _, fun f => if_pos rfl, fun q hq => absurd hq List.not_mem_nil, fun q hq => absurd hq List.not_mem_nil, fun f _ => if_pos rfl⟩, fun b hb hbx => ⟨va_up_ne _ _ hbx, rfl, fun f => if_neg hbx, fun f => if_neg hbx, fun _ => rfl, fun _ _ => rfl⟩⟩
theorem upd_app (L : List Int32) (v : Int32) : upd (fun i => L.getD i 0) L.length v = fun i => (L ++ [v]).getD i 0 := by
  funext i
  show (if i = L.length then v else L.getD i 0) = _
  simp only [List.getD_eq_getElem?_getD]
  by_cases h : i = L.length
  · rw [if_pos h, h]; simp
  · rw [if_neg h]
    by_cases h2 : i < L.length
    · rw [List.getElem?_append_left h2]
    · rw [List.getElem?_eq_none (by omega), List.getElem?_eq_none (by rw [List.length_append]; simp; omega)]
theorem z_fill {S : HSt} {k a n : Nat} {L : List Int32} {i : Int32} (hn : gN S a = n) (hi : vp_in i n) (hl : i.toNatClampNeg = L.length) {v : Int32} {X : HSt → Prop} (hX : X (sA S k a (fun j => (L ++ [v]).getD j 0))) : vp_in i (gN (sA S k a (fun j => L.getD j 0)) a) ∧ ∀ S', S' = uA (sA S k a (fun j => L.getD j 0)) k a i.toNatClampNeg v → X S' := by
  refine ⟨by show vp_in i (gN S a); rw [hn]; exact hi, fun S' e => ?_⟩
  have : S' = sA S k a (fun j => (L ++ [v]).getD j 0) := by
    rw [e, hl]
    show sA (sA S k a (fun j => L.getD j 0)) k a (upd (gA (sA S k a (fun j => L.getD j 0)) k a) L.length v) = _
    rw [gA_sA, if_pos ⟨rfl, rfl⟩, upd_app, sA_i2]
  rw [this]; exact hX
/-! the reference's constructor -/
def PLb : List Int32 := [108, 97, 121, 32, 115, 111, 114, 116, 61, 49, 32, 111, 114, 32, 115, 111, 114, 116, 61, 50, 59, 111, 102, 102, 32, 115, 111, 114, 116, 61, 52, 59]
def VR (k i : Nat) : Int32 := if k = 242 then PLb.getD i 0 else if k = 249 then KN.getD i 0 else 0
def gOf (m : Nat) (S : HSt) : Nat → Nat := fun f => (gR S f m).getD 0
def RF0 (g : Nat → Nat) (m : Nat) (S : HSt) : Prop := (∀ f, gI S f m = 0) ∧ MI g m S ∧ ∀ q ∈ mtab, ∀ i, gA S q.2.1 (g q.1) i = VR q.2.1 i

set_option maxRecDepth 100000 in
set_option maxHeartbeats 4000000 in
theorem r_init0 {m : Nat} {S : HSt} (hm : gK S m = 0) {Post : Unit → HSt → Prop} (hP : ∀ S' g, RF0 g m S' → (∃ n690 : Nat, lp_X12_init_788a m (fun (w691 : Int32) (S711 : HSt) => ∃ b713 : Nat, gR S711 1342 m = some b713 ∧ gK S711 b713 = 242 ∧ ∀ S716 : HSt, S716 = uI S711 1350 m (nI (gN S711 b713)) → ∃ g : Nat → Nat, MI g m S716 ∧ wp_X12_reads g m (0 : Int32) S716 (fun _ (S720 : HSt) => ∀ S722 : HSt, S722 = uI S720 1325 m (1 : Int32) → (∃ n725 : Nat, lp_X12_init_836a m (fun (w726 : Int32) (S739 : HSt) => Post () S739) n725 (0 : Int32) S722))) n690 (0 : Int32) S')) : wp_X12_init m (nO S 13 m) Post := by
  obtain ⟨h0, o0⟩ := OB.new (kx := 13) VR hm
  unfold wp_X12_init
  refine h0.row 201 8 1301 (by decide) (fun _ => rfl) (by decide) (fun S1 h1 o1 => ?_)
  refine h1.row 202 8 1302 (by decide) (fun _ => rfl) (by decide) (fun S2 h2 o2 => ?_)
  refine h2.row 203 64 1303 (by decide) (fun _ => rfl) (by decide) (fun S3 h3 o3 => ?_)
  refine h3.row 205 5 1305 (by decide) (fun _ => rfl) (by decide) (fun S4 h4 o4 => ?_)
  refine h4.row 206 5 1306 (by decide) (fun _ => rfl) (by decide) (fun S5 h5 o5 => ?_)
  refine h5.row 207 5 1307 (by decide) (fun _ => rfl) (by decide) (fun S6 h6 o6 => ?_)
  refine h6.row 208 5 1308 (by decide) (fun _ => rfl) (by decide) (fun S7 h7 o7 => ?_)
  refine h7.row 209 5 1309 (by decide) (fun _ => rfl) (by decide) (fun S8 h8 o8 => ?_)
  refine h8.row 210 5 1310 (by decide) (fun _ => rfl) (by decide) (fun S9 h9 o9 => ?_)
  refine h9.row 211 5 1311 (by decide) (fun _ => rfl) (by decide) (fun S10 h10 o10 => ?_)
  refine h10.row 112 10000 1312 (by decide) (fun _ => rfl) (by decide) (fun S11 h11 o11 => ?_)
  refine h11.row 214 10 1314 (by decide) (fun _ => rfl) (by decide) (fun S12 h12 o12 => ?_)
  refine h12.row 215 10 1315 (by decide) (fun _ => rfl) (by decide) (fun S13 h13 o13 => ?_)
  refine h13.row 216 10 1316 (by decide) (fun _ => rfl) (by decide) (fun S14 h14 o14 => ?_)
  refine h14.row 217 10 1317 (by decide) (fun _ => rfl) (by decide) (fun S15 h15 o15 => ?_)
  refine h15.row 218 10 1318 (by decide) (fun _ => rfl) (by decide) (fun S16 h16 o16 => ?_)
  refine h16.row 219 10 1319 (by decide) (fun _ => rfl) (by decide) (fun S17 h17 o17 => ?_)
  refine h17.row 320 10 1320 (by decide) (fun _ => rfl) (by decide) (fun S18 h18 o18 => ?_)
  refine h18.row 222 6 1322 (by decide) (fun _ => rfl) (by decide) (fun S19 h19 o19 => ?_)
  refine h19.row 223 160 1323 (by decide) (fun _ => rfl) (by decide) (fun S20 h20 o20 => ?_)
  refine h20.row 226 1120 1326 (by decide) (fun _ => rfl) (by decide) (fun S21 h21 o21 => ?_)
  refine h21.row 227 1120 1327 (by decide) (fun _ => rfl) (by decide) (fun S22 h22 o22 => ?_)
  refine h22.row 228 21 1328 (by decide) (fun _ => rfl) (by decide) (fun S23 h23 o23 => ?_)
  refine h23.row 230 12 1330 (by decide) (fun _ => rfl) (by decide) (fun S24 h24 o24 => ?_)
  refine h24.row 231 12 1331 (by decide) (fun _ => rfl) (by decide) (fun S25 h25 o25 => ?_)
  refine h25.row 232 12 1332 (by decide) (fun _ => rfl) (by decide) (fun S26 h26 o26 => ?_)
  refine h26.row 233 12 1333 (by decide) (fun _ => rfl) (by decide) (fun S27 h27 o27 => ?_)
  refine h27.row 234 12 1334 (by decide) (fun _ => rfl) (by decide) (fun S28 h28 o28 => ?_)
  refine h28.row 235 12 1335 (by decide) (fun _ => rfl) (by decide) (fun S29 h29 o29 => ?_)
  refine h29.row 236 12 1336 (by decide) (fun _ => rfl) (by decide) (fun S30 h30 o30 => ?_)
  refine h30.row 237 12 1337 (by decide) (fun _ => rfl) (by decide) (fun S31 h31 o31 => ?_)
  refine h31.row 238 12 1338 (by decide) (fun _ => rfl) (by decide) (fun S32 h32 o32 => ?_)
  refine h32.row 239 4 1339 (by decide) (fun _ => rfl) (by decide) (fun S33 h33 o33 => ?_)
  refine h33.row 240 4 1340 (by decide) (fun _ => rfl) (by decide) (fun S34 h34 o34 => ?_)
  refine h34.row 241 160 1341 (by decide) (fun _ => rfl) (by decide) (fun S35 h35 o35 => ?_)
  intro a35 ha35 T35 e35
  have e35 : T35 = sA (nA S35 242 a35 32) 242 a35 (fun j => ([] : List Int32).getD j 0) := e35.trans (sA_i1 gA_n1).symm
  subst e35
  refine z_fill (n := 32) (i := (0 : Int32)) (gN_nA rfl) (show vp_in (nI 0) 32 from vp_in_nI (by decide) (by decide)) (by decide +kernel) ?_
  refine z_fill (n := 32) (i := (1 : Int32)) (gN_nA rfl) (show vp_in (nI 1) 32 from vp_in_nI (by decide) (by decide)) (by decide +kernel) ?_
  refine z_fill (n := 32) (i := (2 : Int32)) (gN_nA rfl) (show vp_in (nI 2) 32 from vp_in_nI (by decide) (by decide)) (by decide +kernel) ?_
  refine z_fill (n := 32) (i := (3 : Int32)) (gN_nA rfl) (show vp_in (nI 3) 32 from vp_in_nI (by decide) (by decide)) (by decide +kernel) ?_
  refine z_fill (n := 32) (i := (4 : Int32)) (gN_nA rfl) (show vp_in (nI 4) 32 from vp_in_nI (by decide) (by decide)) (by decide +kernel) ?_
  refine z_fill (n := 32) (i := (5 : Int32)) (gN_nA rfl) (show vp_in (nI 5) 32 from vp_in_nI (by decide) (by decide)) (by decide +kernel) ?_
  refine z_fill (n := 32) (i := (6 : Int32)) (gN_nA rfl) (show vp_in (nI 6) 32 from vp_in_nI (by decide) (by decide)) (by decide +kernel) ?_
  refine z_fill (n := 32) (i := (7 : Int32)) (gN_nA rfl) (show vp_in (nI 7) 32 from vp_in_nI (by decide) (by decide)) (by decide +kernel) ?_
  refine z_fill (n := 32) (i := (8 : Int32)) (gN_nA rfl) (show vp_in (nI 8) 32 from vp_in_nI (by decide) (by decide)) (by decide +kernel) ?_
  refine z_fill (n := 32) (i := (9 : Int32)) (gN_nA rfl) (show vp_in (nI 9) 32 from vp_in_nI (by decide) (by decide)) (by decide +kernel) ?_
  refine z_fill (n := 32) (i := (10 : Int32)) (gN_nA rfl) (show vp_in (nI 10) 32 from vp_in_nI (by decide) (by decide)) (by decide +kernel) ?_
  refine z_fill (n := 32) (i := (11 : Int32)) (gN_nA rfl) (show vp_in (nI 11) 32 from vp_in_nI (by decide) (by decide)) (by decide +kernel) ?_
  refine z_fill (n := 32) (i := (12 : Int32)) (gN_nA rfl) (show vp_in (nI 12) 32 from vp_in_nI (by decide) (by decide)) (by decide +kernel) ?_
  refine z_fill (n := 32) (i := (13 : Int32)) (gN_nA rfl) (show vp_in (nI 13) 32 from vp_in_nI (by decide) (by decide)) (by decide +kernel) ?_
  refine z_fill (n := 32) (i := (14 : Int32)) (gN_nA rfl) (show vp_in (nI 14) 32 from vp_in_nI (by decide) (by decide)) (by decide +kernel) ?_
  refine z_fill (n := 32) (i := (15 : Int32)) (gN_nA rfl) (show vp_in (nI 15) 32 from vp_in_nI (by decide) (by decide)) (by decide +kernel) ?_
  refine z_fill (n := 32) (i := (16 : Int32)) (gN_nA rfl) (show vp_in (nI 16) 32 from vp_in_nI (by decide) (by decide)) (by decide +kernel) ?_
  refine z_fill (n := 32) (i := (17 : Int32)) (gN_nA rfl) (show vp_in (nI 17) 32 from vp_in_nI (by decide) (by decide)) (by decide +kernel) ?_
  refine z_fill (n := 32) (i := (18 : Int32)) (gN_nA rfl) (show vp_in (nI 18) 32 from vp_in_nI (by decide) (by decide)) (by decide +kernel) ?_
  refine z_fill (n := 32) (i := (19 : Int32)) (gN_nA rfl) (show vp_in (nI 19) 32 from vp_in_nI (by decide) (by decide)) (by decide +kernel) ?_
  refine z_fill (n := 32) (i := (20 : Int32)) (gN_nA rfl) (show vp_in (nI 20) 32 from vp_in_nI (by decide) (by decide)) (by decide +kernel) ?_
  refine z_fill (n := 32) (i := (21 : Int32)) (gN_nA rfl) (show vp_in (nI 21) 32 from vp_in_nI (by decide) (by decide)) (by decide +kernel) ?_
  refine z_fill (n := 32) (i := (22 : Int32)) (gN_nA rfl) (show vp_in (nI 22) 32 from vp_in_nI (by decide) (by decide)) (by decide +kernel) ?_
  refine z_fill (n := 32) (i := (23 : Int32)) (gN_nA rfl) (show vp_in (nI 23) 32 from vp_in_nI (by decide) (by decide)) (by decide +kernel) ?_
  refine z_fill (n := 32) (i := (24 : Int32)) (gN_nA rfl) (show vp_in (nI 24) 32 from vp_in_nI (by decide) (by decide)) (by decide +kernel) ?_
  refine z_fill (n := 32) (i := (25 : Int32)) (gN_nA rfl) (show vp_in (nI 25) 32 from vp_in_nI (by decide) (by decide)) (by decide +kernel) ?_
  refine z_fill (n := 32) (i := (26 : Int32)) (gN_nA rfl) (show vp_in (nI 26) 32 from vp_in_nI (by decide) (by decide)) (by decide +kernel) ?_
  refine z_fill (n := 32) (i := (27 : Int32)) (gN_nA rfl) (show vp_in (nI 27) 32 from vp_in_nI (by decide) (by decide)) (by decide +kernel) ?_
  refine z_fill (n := 32) (i := (28 : Int32)) (gN_nA rfl) (show vp_in (nI 28) 32 from vp_in_nI (by decide) (by decide)) (by decide +kernel) ?_
  refine z_fill (n := 32) (i := (29 : Int32)) (gN_nA rfl) (show vp_in (nI 29) 32 from vp_in_nI (by decide) (by decide)) (by decide +kernel) ?_
  refine z_fill (n := 32) (i := (30 : Int32)) (gN_nA rfl) (show vp_in (nI 30) 32 from vp_in_nI (by decide) (by decide)) (by decide +kernel) ?_
  refine z_fill (n := 32) (i := (31 : Int32)) (gN_nA rfl) (show vp_in (nI 31) 32 from vp_in_nI (by decide) (by decide)) (by decide +kernel) ?_
  obtain ⟨c35, h36, o36⟩ := h35.core 242 32 1342 (by decide) (by decide) ha35 (fun j => PLb.getD j 0) (fun _ => rfl)
  refine ⟨c35, fun S36 f36 => ?_⟩
  have f36 : S36 = uR (sA (nA S35 242 a35 32) 242 a35 (fun j => PLb.getD j 0)) 1342 m (some a35) := f36
  rw [← f36] at h36 o36
  refine h36.row 246 3 1346 (by decide) (fun _ => rfl) (by decide) (fun S37 h37 o37 => ?_)
  refine h37.row 247 3 1347 (by decide) (fun _ => rfl) (by decide) (fun S38 h38 o38 => ?_)
  refine h38.row 248 6000 1348 (by decide) (fun _ => rfl) (by decide) (fun S39 h39 o39 => ?_)
  intro a39 ha39 T39 e39
  have e39 : T39 = sA (nA S39 249 a39 48) 249 a39 (fun j => ([] : List Int32).getD j 0) := e39.trans (sA_i1 gA_n1).symm
  subst e39
  refine z_fill (n := 48) (i := (0 : Int32)) (gN_nA rfl) (show vp_in (nI 0) 48 from vp_in_nI (by decide) (by decide)) (by decide +kernel) ?_
  refine z_fill (n := 48) (i := (1 : Int32)) (gN_nA rfl) (show vp_in (nI 1) 48 from vp_in_nI (by decide) (by decide)) (by decide +kernel) ?_
  refine z_fill (n := 48) (i := (2 : Int32)) (gN_nA rfl) (show vp_in (nI 2) 48 from vp_in_nI (by decide) (by decide)) (by decide +kernel) ?_
  refine z_fill (n := 48) (i := (3 : Int32)) (gN_nA rfl) (show vp_in (nI 3) 48 from vp_in_nI (by decide) (by decide)) (by decide +kernel) ?_
  refine z_fill (n := 48) (i := (4 : Int32)) (gN_nA rfl) (show vp_in (nI 4) 48 from vp_in_nI (by decide) (by decide)) (by decide +kernel) ?_
  refine z_fill (n := 48) (i := (5 : Int32)) (gN_nA rfl) (show vp_in (nI 5) 48 from vp_in_nI (by decide) (by decide)) (by decide +kernel) ?_
  refine z_fill (n := 48) (i := (6 : Int32)) (gN_nA rfl) (show vp_in (nI 6) 48 from vp_in_nI (by decide) (by decide)) (by decide +kernel) ?_
  refine z_fill (n := 48) (i := (7 : Int32)) (gN_nA rfl) (show vp_in (nI 7) 48 from vp_in_nI (by decide) (by decide)) (by decide +kernel) ?_
  refine z_fill (n := 48) (i := (8 : Int32)) (gN_nA rfl) (show vp_in (nI 8) 48 from vp_in_nI (by decide) (by decide)) (by decide +kernel) ?_
  refine z_fill (n := 48) (i := (9 : Int32)) (gN_nA rfl) (show vp_in (nI 9) 48 from vp_in_nI (by decide) (by decide)) (by decide +kernel) ?_
  refine z_fill (n := 48) (i := (10 : Int32)) (gN_nA rfl) (show vp_in (nI 10) 48 from vp_in_nI (by decide) (by decide)) (by decide +kernel) ?_
  refine z_fill (n := 48) (i := (11 : Int32)) (gN_nA rfl) (show vp_in (nI 11) 48 from vp_in_nI (by decide) (by decide)) (by decide +kernel) ?_
  refine z_fill (n := 48) (i := (12 : Int32)) (gN_nA rfl) (show vp_in (nI 12) 48 from vp_in_nI (by decide) (by decide)) (by decide +kernel) ?_
  refine z_fill (n := 48) (i := (13 : Int32)) (gN_nA rfl) (show vp_in (nI 13) 48 from vp_in_nI (by decide) (by decide)) (by decide +kernel) ?_
  refine z_fill (n := 48) (i := (14 : Int32)) (gN_nA rfl) (show vp_in (nI 14) 48 from vp_in_nI (by decide) (by decide)) (by decide +kernel) ?_
  refine z_fill (n := 48) (i := (15 : Int32)) (gN_nA rfl) (show vp_in (nI 15) 48 from vp_in_nI (by decide) (by decide)) (by decide +kernel) ?_
  refine z_fill (n := 48) (i := (16 : Int32)) (gN_nA rfl) (show vp_in (nI 16) 48 from vp_in_nI (by decide) (by decide)) (by decide +kernel) ?_
  refine z_fill (n := 48) (i := (17 : Int32)) (gN_nA rfl) (show vp_in (nI 17) 48 from vp_in_nI (by decide) (by decide)) (by decide +kernel) ?_
  refine z_fill (n := 48) (i := (18 : Int32)) (gN_nA rfl) (show vp_in (nI 18) 48 from vp_in_nI (by decide) (by decide)) (by decide +kernel) ?_
  refine z_fill (n := 48) (i := (19 : Int32)) (gN_nA rfl) (show vp_in (nI 19) 48 from vp_in_nI (by decide) (by decide)) (by decide +kernel) ?_
  refine z_fill (n := 48) (i := (20 : Int32)) (gN_nA rfl) (show vp_in (nI 20) 48 from vp_in_nI (by decide) (by decide)) (by decide +kernel) ?_
  refine z_fill (n := 48) (i := (21 : Int32)) (gN_nA rfl) (show vp_in (nI 21) 48 from vp_in_nI (by decide) (by decide)) (by decide +kernel) ?_
  refine z_fill (n := 48) (i := (22 : Int32)) (gN_nA rfl) (show vp_in (nI 22) 48 from vp_in_nI (by decide) (by decide)) (by decide +kernel) ?_
  refine z_fill (n := 48) (i := (23 : Int32)) (gN_nA rfl) (show vp_in (nI 23) 48 from vp_in_nI (by decide) (by decide)) (by decide +kernel) ?_
  refine z_fill (n := 48) (i := (24 : Int32)) (gN_nA rfl) (show vp_in (nI 24) 48 from vp_in_nI (by decide) (by decide)) (by decide +kernel) ?_
  refine z_fill (n := 48) (i := (25 : Int32)) (gN_nA rfl) (show vp_in (nI 25) 48 from vp_in_nI (by decide) (by decide)) (by decide +kernel) ?_
  refine z_fill (n := 48) (i := (26 : Int32)) (gN_nA rfl) (show vp_in (nI 26) 48 from vp_in_nI (by decide) (by decide)) (by decide +kernel) ?_
  refine z_fill (n := 48) (i := (27 : Int32)) (gN_nA rfl) (show vp_in (nI 27) 48 from vp_in_nI (by decide) (by decide)) (by decide +kernel) ?_
  refine z_fill (n := 48) (i := (28 : Int32)) (gN_nA rfl) (show vp_in (nI 28) 48 from vp_in_nI (by decide) (by decide)) (by decide +kernel) ?_
  refine z_fill (n := 48) (i := (29 : Int32)) (gN_nA rfl) (show vp_in (nI 29) 48 from vp_in_nI (by decide) (by decide)) (by decide +kernel) ?_
  refine z_fill (n := 48) (i := (30 : Int32)) (gN_nA rfl) (show vp_in (nI 30) 48 from vp_in_nI (by decide) (by decide)) (by decide +kernel) ?_
  refine z_fill (n := 48) (i := (31 : Int32)) (gN_nA rfl) (show vp_in (nI 31) 48 from vp_in_nI (by decide) (by decide)) (by decide +kernel) ?_
  refine z_fill (n := 48) (i := (32 : Int32)) (gN_nA rfl) (show vp_in (nI 32) 48 from vp_in_nI (by decide) (by decide)) (by decide +kernel) ?_
  refine z_fill (n := 48) (i := (33 : Int32)) (gN_nA rfl) (show vp_in (nI 33) 48 from vp_in_nI (by decide) (by decide)) (by decide +kernel) ?_
  refine z_fill (n := 48) (i := (34 : Int32)) (gN_nA rfl) (show vp_in (nI 34) 48 from vp_in_nI (by decide) (by decide)) (by decide +kernel) ?_
  refine z_fill (n := 48) (i := (35 : Int32)) (gN_nA rfl) (show vp_in (nI 35) 48 from vp_in_nI (by decide) (by decide)) (by decide +kernel) ?_
  refine z_fill (n := 48) (i := (36 : Int32)) (gN_nA rfl) (show vp_in (nI 36) 48 from vp_in_nI (by decide) (by decide)) (by decide +kernel) ?_
  refine z_fill (n := 48) (i := (37 : Int32)) (gN_nA rfl) (show vp_in (nI 37) 48 from vp_in_nI (by decide) (by decide)) (by decide +kernel) ?_
  refine z_fill (n := 48) (i := (38 : Int32)) (gN_nA rfl) (show vp_in (nI 38) 48 from vp_in_nI (by decide) (by decide)) (by decide +kernel) ?_
  refine z_fill (n := 48) (i := (39 : Int32)) (gN_nA rfl) (show vp_in (nI 39) 48 from vp_in_nI (by decide) (by decide)) (by decide +kernel) ?_
  refine z_fill (n := 48) (i := (40 : Int32)) (gN_nA rfl) (show vp_in (nI 40) 48 from vp_in_nI (by decide) (by decide)) (by decide +kernel) ?_
  refine z_fill (n := 48) (i := (41 : Int32)) (gN_nA rfl) (show vp_in (nI 41) 48 from vp_in_nI (by decide) (by decide)) (by decide +kernel) ?_
  refine z_fill (n := 48) (i := (42 : Int32)) (gN_nA rfl) (show vp_in (nI 42) 48 from vp_in_nI (by decide) (by decide)) (by decide +kernel) ?_
  refine z_fill (n := 48) (i := (43 : Int32)) (gN_nA rfl) (show vp_in (nI 43) 48 from vp_in_nI (by decide) (by decide)) (by decide +kernel) ?_
  refine z_fill (n := 48) (i := (44 : Int32)) (gN_nA rfl) (show vp_in (nI 44) 48 from vp_in_nI (by decide) (by decide)) (by decide +kernel) ?_
  refine z_fill (n := 48) (i := (45 : Int32)) (gN_nA rfl) (show vp_in (nI 45) 48 from vp_in_nI (by decide) (by decide)) (by decide +kernel) ?_
  refine z_fill (n := 48) (i := (46 : Int32)) (gN_nA rfl) (show vp_in (nI 46) 48 from vp_in_nI (by decide) (by decide)) (by decide +kernel) ?_
  refine z_fill (n := 48) (i := (47 : Int32)) (gN_nA rfl) (show vp_in (nI 47) 48 from vp_in_nI (by decide) (by decide)) (by decide +kernel) ?_
  obtain ⟨c39, h40, o40⟩ := h39.core 249 48 1349 (by decide) (by decide) ha39 (fun j => KN.getD j 0) (fun _ => rfl)
  refine ⟨c39, fun S40 f40 => ?_⟩
  have f40 : S40 = uR (sA (nA S39 249 a39 48) 249 a39 (fun j => KN.getD j 0)) 1349 m (some a39) := f40
  rw [← f40] at h40 o40
  refine h40.row 259 180 1359 (by decide) (fun _ => rfl) (by decide) (fun S41 h41 o41 => ?_)
  have key : ∀ q ∈ mtab, gR S41 q.1 m = some (gOf m S41 q.1) ∧ gK S41 (gOf m S41 q.1) = q.2.1 ∧ gN S41 (gOf m S41 q.1) = q.2.2 ∧ ∀ i, gA S41 q.2.1 (gOf m S41 q.1) i = VR q.2.1 i := by
    intro q hq
    have hm : ∀ q ∈ mtab, q ∈ [(1359, 259, 180), (1349, 249, 48), (1348, 248, 6000), (1347, 247, 3), (1346, 246, 3), (1342, 242, 32), (1341, 241, 160), (1340, 240, 4), (1339, 239, 4), (1338, 238, 12), (1337, 237, 12), (1336, 236, 12), (1335, 235, 12), (1334, 234, 12), (1333, 233, 12), (1332, 232, 12), (1331, 231, 12), (1330, 230, 12), (1328, 228, 21), (1327, 227, 1120), (1326, 226, 1120), (1323, 223, 160), (1322, 222, 6), (1320, 320, 10), (1319, 219, 10), (1318, 218, 10), (1317, 217, 10), (1316, 216, 10), (1315, 215, 10), (1314, 214, 10), (1312, 112, 10000), (1311, 211, 5), (1310, 210, 5), (1309, 209, 5), (1308, 208, 5), (1307, 207, 5), (1306, 206, 5), (1305, 205, 5), (1303, 203, 64), (1302, 202, 8), (1301, 201, 8)] := by decide +kernel
    obtain ⟨-, -, -, b, b1, b2, b3, b4⟩ := h41.2.2.1 q (hm q hq)
    have e : gOf m S41 q.1 = b := by unfold gOf; rw [b1]; rfl
    rw [e]; exact ⟨b1, b2, b3, b4⟩
  exact hP _ (gOf m S41) ⟨h41.2.1, ⟨h41.1, fun q hq => ⟨(key q hq).1, (key q hq).2.1, (key q hq).2.2.1⟩⟩, fun q hq => (key q hq).2.2.2⟩
