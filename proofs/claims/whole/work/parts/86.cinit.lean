/-! the class's constructor: the first office -/
theorem tp_q {j : Nat} : tp1 (σq j) ((lit 0).getD j 0) = σq (j + 1) := by
  refine Prod.ext (funext fun c => ?_) (funext fun f => funext fun i => ?_)
  · show (if c = 5 then cN (σq j) 5 + 1 else (if c = 5 then j else 0)) = (if c = 5 then j + 1 else 0)
    by_cases h : c = 5
    · rw [if_pos h, if_pos h]; rfl
    · rw [if_neg h, if_neg h, if_neg h]
  · show (if f = 1323 ∧ i = cN (σq j) 5 then (lit 0).getD j 0 else (if f = 1323 then (if i < j then (lit 0).getD i 0 else σz.2 f i) else σz.2 f i)) = (if f = 1323 then (if i < j + 1 then (lit 0).getD i 0 else σz.2 f i) else σz.2 f i)
    have e5 : cN (σq j) 5 = j := rfl
    rw [e5]
    by_cases h : f = 1323
    · by_cases h2 : i = j
      · rw [if_pos ⟨h, h2⟩, if_pos h, if_pos (by omega), h2]
      · rw [if_neg (fun z => h2 z.2), if_pos h, if_pos h]
        by_cases h3 : i < j
        · rw [if_pos h3, if_pos (by omega)]
        · rw [if_neg h3, if_neg (by omega)]
    · rw [if_neg (fun z => h z.1), if_neg h, if_neg h]
theorem s0_c (op vl : Nat → Int32) (c : Nat) : cN (s0 op vl) c = cN (stT (σq 41) op vl LT1.length LT2.length) c := by
  show (if c = 3 then cN σz 3 + 1 else (if c = 5 then 0 else σz.1 c)) = (if c = 3 then cN (σq 41) 3 + 1 else (if c = 5 then 0 else (if c = 5 then 41 else 0)))
  by_cases h : c = 3
  · rw [if_pos h, if_pos h]; rfl
  · rw [if_neg h, if_neg h]
    by_cases h5 : c = 5
    · rw [if_pos h5, if_pos h5]
    · rw [if_neg h5, if_neg h5, if_neg h5]; rfl
theorem s0_d (op vl : Nat → Int32) (f i : Nat) (hf : f ≠ 1323) : dD (s0 op vl) f i = dD (stT (σq 41) op vl LT1.length LT2.length) f i := by
  have base : dD σz f i = dD (σq 41) f i := by
    show _ = (if f = 1323 then _ else σz.2 f i)
    rw [if_neg hf]; rfl
  unfold s0
  by_cases h6 : f = 1326
  · subst h6
    rw [st_1326, st_1326, base]; rfl
  · by_cases h7 : f = 1327
    · subst h7
      rw [st_1327, st_1327, base]; rfl
    · by_cases h8 : f = 1328
      · subst h8
        rw [st_1328, st_1328, base]; rfl
      · rw [st_o _ _ _ _ _ _ _ h6 h7 h8, st_o _ _ _ _ _ _ _ h6 h7 h8, base]
theorem CR.cong {ad : AD} {x : Nat} {S : HSt} {σ σ' : Sg} (h : CR ad x S σ) (hc : ∀ c, cN σ' c = cN σ c) (hd : ∀ f i, f ≠ 1323 → dD σ' f i = dD σ f i) (h5 : cN σ' 5 = 0) : CR ad x S σ' := by
  obtain ⟨hF, hC, hP, hS, hO, hR, hT, hX, hH, hE⟩ := h
  have d : ∀ f, f ≠ 1323 → ∀ i, dD σ' f i = dD σ f i := fun f hf i => hd f i hf
  have d1 := d 1301 (by decide); have d2 := d 1302 (by decide); have d3 := d 1303 (by decide); have d5 := d 1305 (by decide); have d6 := d 1306 (by decide); have d7 := d 1307 (by decide); have d8 := d 1308 (by decide); have d9 := d 1309 (by decide)
  have e0 := d 1310 (by decide); have e1 := d 1311 (by decide); have e2 := d 1312 (by decide); have e4 := d 1314 (by decide); have e5 := d 1315 (by decide); have e6 := d 1316 (by decide); have e7 := d 1317 (by decide); have e8 := d 1318 (by decide); have e9 := d 1319 (by decide)
  have f0 := d 1320 (by decide); have f2 := d 1322 (by decide); have f6 := d 1326 (by decide); have f7 := d 1327 (by decide); have f8 := d 1328 (by decide)
  have g0 := d 1330 (by decide); have g1 := d 1331 (by decide); have g2 := d 1332 (by decide); have g3 := d 1333 (by decide); have g4 := d 1334 (by decide); have g5 := d 1335 (by decide); have g6 := d 1336 (by decide); have g7 := d 1337 (by decide); have g8 := d 1338 (by decide); have g9 := d 1339 (by decide)
  have i0 := d 1340 (by decide); have i1 := d 1341 (by decide)
  refine ⟨hF, ?_, ?_, ?_, ?_, ?_, fun k hk => absurd (h5 ▸ hk) (Nat.not_lt_zero k), ?_, ?_, ?_⟩
  · unfold CC at *; simp only [hc]; exact hC
  · unfold CP at *; simp only [hc, d1, d2, d3]; exact hP
  · unfold CS at *; simp only [hc, d5, d6, d7, d8, d9, e0, e1, e2]; exact hS
  · unfold CO at *; simp only [hc, e4, e5, e6, e7, e8, e9, f0]; exact hO
  · unfold CRo at *; simp only [hc, f2]; exact hR
  · unfold CX at *; simp only [hc, f6, f7, f8]; exact hX
  · unfold CH at *; simp only [hc, g0, g1, g2, g3, g4, g5, g6, g7, g8]; exact hH
  · unfold CE at *; simp only [g9, i0, i1]; exact hE
theorem Inv.cong {σ σ' : Sg} (h : Inv σ) (hc : ∀ c, cN σ' c = cN σ c) (hd : ∀ f i, f ≠ 1323 → dD σ' f i = dD σ f i) (h5 : cN σ' 5 = 0) : Inv σ' := by
  obtain ⟨h0, h1, h2, h3, h4, h6, h7, h8, h9, h10, h11, h12, h13⟩ := h
  have d : ∀ f, f ≠ 1323 → ∀ i, dD σ' f i = dD σ f i := fun f hf i => hd f i hf
  have d1 := d 1301 (by decide); have d2 := d 1302 (by decide); have d3 := d 1303 (by decide); have d5 := d 1305 (by decide); have d6 := d 1306 (by decide); have d7 := d 1307 (by decide); have d8 := d 1308 (by decide); have d9 := d 1309 (by decide)
  have e0 := d 1310 (by decide); have e1 := d 1311 (by decide); have e2 := d 1312 (by decide); have e4 := d 1314 (by decide); have e5 := d 1315 (by decide); have e6 := d 1316 (by decide); have e7 := d 1317 (by decide); have e8 := d 1318 (by decide); have e9 := d 1319 (by decide)
  have f0 := d 1320 (by decide); have f2 := d 1322 (by decide); have f6 := d 1326 (by decide); have f7 := d 1327 (by decide); have f8 := d 1328 (by decide)
  have g0 := d 1330 (by decide); have g1 := d 1331 (by decide); have g2 := d 1332 (by decide); have g3 := d 1333 (by decide); have g4 := d 1334 (by decide); have g5 := d 1335 (by decide); have g6 := d 1336 (by decide); have g7 := d 1337 (by decide); have g8 := d 1338 (by decide); have g9 := d 1339 (by decide)
  have i0 := d 1340 (by decide); have i1 := d 1341 (by decide)
  refine ⟨?_, ?_, ?_, ?_, ?_, ?_, ?_, ?_, ?_, ?_, ?_, fun k hk => absurd (h5 ▸ hk) (Nat.not_lt_zero k), ?_⟩
  · simp only [hc]; exact h0
  · simp only [hc, d1, d2]; exact h1
  · simp only [hc, d3]; exact h2
  · simp only [hc, d5, d6, d7, d8, d9, e0, e1, e2]; exact h3
  · simp only [hc, d6, e1]; exact h4
  · simp only [hc, e4, e5, e6, e7, e8, e9, f0]; exact h6
  · simp only [hc, f0]; exact h7
  · simp only [hc, f2]; exact h8
  · simp only [hc, g0, g1, g2, g3, g4, g5, g6, g7, g8]; exact h9
  · simp only [hc, g1, g2, g3, g8]; exact h10
  · simp only [g9, i0]; exact h11
  · simp only [hc, f6, f7, f8]; exact h13
theorem ok_q : okTx (σq 41) := ⟨by rw [rd2_q], by rw [rd2_q]; exact tk_q⟩
theorem q_1339 : ∀ k i, i < 4 → dD (σq k) 1339 i = -1 := by
  intro k i hi
  have : ∀ i, i < 4 → dD σz 1339 i = -1 := by decide +kernel
  exact this i hi
theorem s0_inv {op vl : Nat → Int32} (hf : fitL LT2 op vl) : Inv (s0 op vl) := by
  have key : Inv (stT (σq 41) op vl LT1.length LT2.length) := by
    have v := v_st (σ := σq 41) (op := op) (vl := vl) (by decide) (by decide) ok_q (by rw [rd2_q]; exact hf) (by decide)
      (fun i hi => absurd hi (Nat.not_lt_zero i)) (fun i j _ _ => ⟨(by unfold bet; decide : bet 0 0 9999), fun _ => rfl⟩) (fun i hi => absurd hi (Nat.not_lt_zero i)) (fun i _ _ => ⟨rfl, rfl⟩) (fun i hi => absurd hi (Nat.not_lt_zero i)) (fun i _ _ => rfl) (fun i hi => absurd hi (Nat.not_lt_zero i)) (fun i hi => absurd hi (Nat.not_lt_zero i)) (fun i j hi => absurd hi (Nat.not_lt_zero i)) (fun i hi => ?_) (fun i hi => absurd hi (Nat.not_lt_zero i))
    · rw [rd1_q, rd2_q] at v
      exact v
    · rw [q_1339 41 i hi]
      exact ⟨(by unfold bet; decide), (by unfold bet; decide : bet 0 0 40), fun _ => rfl⟩
  exact key.cong (fun c => s0_c op vl c) (fun f i h => s0_d op vl f i h) rfl
theorem OB.at {x kx : Nat} {I : Nat → Int32} {ds : List (Nat × Nat × Nat)} {os : List (Nat × Nat)} {V : Nat → Nat → Int32} {f0 : Nat} {S : HSt} (h : OB x kx I ds os V f0 S) (f k n : Nat) (hq : (f, k, n) ∈ ds) : ∃ b, gR S f x = some b ∧ gK S b = k ∧ gN S b = n := by
  obtain ⟨-, -, -, b, h1, h2, h3, -⟩ := h.2.2.1 _ hq
  exact ⟨b, h1, h2, h3⟩
theorem OB.os {x kx : Nat} {I : Nat → Int32} {ds : List (Nat × Nat × Nat)} {os : List (Nat × Nat)} {V : Nat → Nat → Int32} {f0 : Nat} {S : HSt} (h : OB x kx I ds os V f0 S) (f y : Nat) (hq : (f, y) ∈ os) : gR S f x = some y := (h.2.2.2.1 _ hq).2
def mkAd (r : List Nat) (t sh rw' : Nat → Nat) (t0 t1 : Nat) : AD := fun a i => if a = 10 then r.getD i 0 else if a = 11 then t i else if a = 8 then sh i else if a = 9 then rw' i else if a = 12 then (if i = 0 then t0 else t1) else 0
theorem c_init_lp {ad : AD} {x : Nat} {K : Int32 → HSt → Prop} (hK : ∀ S', CR ad x S' (σq 41) → K (nI 41) S') : ∀ (r j : Nat) (S : HSt), j + r = 41 → CR ad x S (σq j) → lp_X11_init_160a x K (r + 1) (nI j) S := by
  have e41 : (lit 0).length = 41 := by decide
  intro r
  induction r with
  | zero =>
    intro j S hj h
    have : j = 41 := by omega
    subst this
    refine c_len (by decide) ?_
    rw [e41]
    exact ⟨fun _ => hK S h, fun z => absurd (Int32.le_refl _) z⟩
  | succ r ih =>
    intro j S hj h
    refine c_len (by decide) ?_
    rw [e41]
    refine ⟨fun z => absurd z (nI_ge (by omega) (by decide)), fun _ => ⟨_, (h.1.o 1216 10 6).1, c_chr (by decide) (by omega) ⟨(h.1.o 1216 10 6).2, c_tape h (by show j < 160; omega) _ (fun S' h' v e => ?_)⟩⟩⟩
    rw [nI_1] at e
    subst e
    rw [tp_q] at h'
    exact ih (j + 1) S' (by omega) h'
set_option maxHeartbeats 4000000 in
theorem c_init {x : Nat} {S : HSt} (hx : gK S x = 0) {Post : Unit → HSt → Prop} (hP : ∀ S', (∀ op vl, fitL LT2 op vl → ∃ ad, CR ad x S' (s0 op vl)) → Post () S') : wp_X11_init x (nO S 12 x) Post := by
  obtain ⟨h0, o0⟩ := OB.new (kx := 12) V0 hx
  unfold wp_X11_init
  refine h0.row 600 8 1200 (by decide) (fun _ => rfl) (by decide) (fun S1 h1 o1 => ?_)
  refine h1.row 800 5 1201 (by decide) (fun _ => rfl) (by decide) (fun S2 h2 o2 => ?_)
  refine h2.row 500 10 1202 (by decide) (fun _ => rfl) (by decide) (fun S3 h3 o3 => ?_)
  refine h3.row 900 6 1203 (by decide) (fun _ => rfl) (by decide) (fun S4 h4 o4 => ?_)
  refine h4.row 400 12 1204 (by decide) (fun _ => rfl) (by decide) (fun S5 h5 o5 => ?_)
  refine h5.row 700 4 1205 (by decide) (fun _ => rfl) (by decide) (fun S6 h6 o6 => ?_)
  refine h6.row 601 6 1206 (by decide) (fun _ => rfl) (by decide) (fun S7 h7 o7 => ?_)
  refine z_obj h7 (by decide) 5 1213 (by decide) wp_X4_init F4 z_X4 F4.keep (fun y4 S8 n4 h8 o8 g4 => ?_)
  refine z_obj h8 (by decide) 7 1214 (by decide) wp_X6_init F6 z_X6 F6.keep (fun y6 S9 n6 h9 o9 g6 => ?_)
  refine z_obj h9 (by decide) 1 1215 (by decide) wp_X0_init F0' z_X0 F0'.keep (fun y0 S10 n0 h10 o10 g0 => ?_)
  refine z_obj h10 (by decide) 6 1216 (by decide) wp_X5_init F5 z_X5 F5.keep (fun y5 S11 n5 h11 o11 g5 => ?_)
  refine z_obj' h11 (by decide) 11 1217 (by decide) (fun y S P => wp_X10_init y 0 S P) F10 z_X10 F10.keep (fun y10 S12 n10 h12 o12 g10 => ?_)
  refine z_obj h12 (by decide) 10 1218 (by decide) wp_X9_init F9 z_X9 F9.keep (fun y9 S13 n9 h13 o13 g9 => ?_)
  have b0 : HB x 0 S13 := by
    obtain ⟨b, c1, c2, c3⟩ := h13.at 1205 700 4 (by decide)
    exact ⟨b, fun _ => 0, fun _ => 0, c1, c2, c3, fun i hi => absurd hi (Nat.not_lt_zero i), fun i _ hi => absurd hi (Nat.not_lt_zero i), fun i _ hi => absurd hi (Nat.not_lt_zero i)⟩
  refine z_sheet (j := 0) h13 b0 (by decide) (fun S14 h14 o14 b1 => ?_)
  refine z_sheet (j := 1) h14 b1 (by decide) (fun S15 h15 o15 b2 => ?_)
  refine z_sheet (j := 2) h15 b2 (by decide) (fun S16 h16 o16 b3 => ?_)
  refine z_sheet (j := 3) h16 b3 (by decide) (fun S17 h17 o17 b4 => ⟨42, ?_⟩)
  have p13 : Old x S13 S17 := o14.trans (o15.trans (o16.trans o17))
  have p12 := o13.trans p13
  have p11 := o12.trans p12
  have p10 := o11.trans p11
  have p9 := o10.trans p10
  have p8 := o9.trans p9
  have w4 := F4.keep _ _ _ n4 h8.1 p8 g4
  have w6 := F6.keep _ _ _ n6 h9.1 p9 g6
  have w0 := F0'.keep _ _ _ n0 h10.1 p10 g0
  have w5 := F5.keep _ _ _ n5 h11.1 p11 g5
  have w10 := F10.keep _ _ _ n10 h12.1 p12 g10
  have w9 := F9.keep _ _ _ n9 h13.1 p13 g9
  obtain ⟨y2, v6, u6⟩ := w6
  obtain ⟨q, r, v0, u1, u2, u3, u4⟩ := w0
  obtain ⟨b, sh, rw', t1, t2, t3, t4, t5, t6⟩ := b4
  obtain ⟨a0, a01, a02, a03⟩ := h17.at 1200 600 8 (by decide)
  obtain ⟨a1, a11, a12, a13⟩ := h17.at 1201 800 5 (by decide)
  obtain ⟨a2, a21, a22, a23⟩ := h17.at 1202 500 10 (by decide)
  obtain ⟨a3, a31, a32, a33⟩ := h17.at 1203 900 6 (by decide)
  obtain ⟨a4, a41, a42, a43⟩ := h17.at 1204 400 12 (by decide)
  obtain ⟨a6, a61, a62, a63⟩ := h17.at 1206 601 6 (by decide)
  obtain ⟨c13, c131, c132, c133⟩ := v6.at 703 256 3 (by decide)
  obtain ⟨c14, c141, c142, c143⟩ := v6.at 704 257 3 (by decide)
  obtain ⟨c15, c151, c152, c153⟩ := v0.at 101 258 6 (by decide)
  obtain ⟨c16, c161, c162, c163⟩ := v0.at 102 259 6 (by decide)
  obtain ⟨c18, c181, c182, c183⟩ := v0.at 104 260 1000 (by decide)
  obtain ⟨c19, c191, c192, c193⟩ := v0.at 105 261 1000 (by decide)
  obtain ⟨c20, c201, c202, c203⟩ := OB.at w5 601 253 160 (by decide)
  obtain ⟨c21, c211, c212, c213⟩ := OB.at w5 603 254 160 (by decide)
  obtain ⟨c22, c221, c222, c223⟩ := OB.at w5 604 255 160 (by decide)
  obtain ⟨c23, c231, c232, c233⟩ := OB.at w9 1006 263 160 (by decide)
  obtain ⟨d1, d11, d12, d13⟩ := OB.at w10 1103 251 160 (by decide)
  have r13 := h17.os 1213 y4 (by simp)
  have r14 := h17.os 1214 y6 (by simp)
  have r15 := h17.os 1215 y0 (by simp)
  have r16 := h17.os 1216 y5 (by simp)
  have r17 := h17.os 1217 y10 (by simp)
  have r18 := h17.os 1218 y9 (by simp)
  have r705 := v6.os 705 y2 (by simp)
  have r103 := v0.os 103 q (by simp)
  have cr : CR (mkAd [a0, a1, a2, a3, a4, b, a6, y4, y6, y0, y5, y9, y2, c13, c14, c15, c16, q, c18, c19, c20, c21, c22, c23, x] r sh rw' y10 d1) x S17 (σq 0) := by
    refine ⟨⟨rfl, h17.1, fun p hp => ?_, fun p hp => ?_, fun i hi => u3 i hi, u4⟩, ⟨h17.2.1 _, h17.2.1 _, h17.2.1 _, h17.2.1 _, h17.2.1 _, w5.2.1 _, h17.2.1 _⟩, ⟨fun i hi => absurd hi (Nat.not_lt_zero i), fun i _ hi => absurd hi (Nat.not_lt_zero i)⟩, ⟨fun i hi => absurd hi (Nat.not_lt_zero i), fun i _ hi => absurd hi (Nat.not_lt_zero i)⟩, ⟨fun i hi => absurd hi (Nat.not_lt_zero i), fun i _ hi => absurd hi (Nat.not_lt_zero i)⟩, fun k hk => absurd hk (Nat.not_lt_zero k), fun k hk => absurd hk (Nat.not_lt_zero k), ⟨fun i hi => absurd hi (Nat.not_lt_zero i), ⟨r17, w10.1, d11, d12, d13, w10.2.1 _⟩, fun i hi => absurd hi (Nat.not_lt_zero i)⟩, ⟨fun i hi => absurd hi (Nat.not_lt_zero i), fun i _ hi => absurd hi (Nat.not_lt_zero i)⟩, fun i hi => ?_, t5, t6⟩
    · simp only [fixT, List.mem_cons, List.not_mem_nil, or_false] at hp
      rcases hp with rfl | rfl | rfl | rfl | rfl | rfl | rfl | rfl | rfl | rfl | rfl | rfl | rfl | rfl | rfl | rfl | rfl | rfl
      · exact ⟨a01, a02, a03⟩
      · exact ⟨a11, a12, a13⟩
      · exact ⟨a21, a22, a23⟩
      · exact ⟨a31, a32, a33⟩
      · exact ⟨a41, a42, a43⟩
      · exact ⟨t1, t2, t3⟩
      · exact ⟨a61, a62, a63⟩
      · exact ⟨c131, c132, c133⟩
      · exact ⟨c141, c142, c143⟩
      · exact ⟨c151, c152, c153⟩
      · exact ⟨c161, c162, c163⟩
      · exact ⟨r103, u1, u2⟩
      · exact ⟨c181, c182, c183⟩
      · exact ⟨c191, c192, c193⟩
      · exact ⟨c201, c202, c203⟩
      · exact ⟨c211, c212, c213⟩
      · exact ⟨c221, c222, c223⟩
      · exact ⟨c231, c232, c233⟩
    · simp only [objT, List.mem_cons, List.not_mem_nil, or_false] at hp
      rcases hp with rfl | rfl | rfl | rfl | rfl | rfl
      · exact ⟨r13, w4⟩
      · exact ⟨r14, v6.1⟩
      · exact ⟨r15, v0.1⟩
      · exact ⟨r16, w5.1⟩
      · exact ⟨r18, w9.1⟩
      · exact ⟨r705, u6⟩
    · obtain ⟨e1, e2, e3, e4, e5, e6, e7, e8⟩ := t4 i hi
      refine ⟨e1, e2, e3, e4, e5, ?_, e7, fun j _ => e8 j⟩
      rw [q_1339 0 i hi]; exact e6
  refine c_init_lp (ad := _) (fun S' h' => ?_) 41 0 S17 rfl cr
  refine c_textP h' (by decide) (by decide) (fun i hi => absurd hi (Nat.not_lt_zero i)) (fun i hi => absurd hi (Nat.not_lt_zero i)) (fun rr S'' pp => hP S'' (fun op vl hf => ?_))
  obtain ⟨-, k⟩ := pp.2.2 (by decide) ok_q
  obtain ⟨ad', k'⟩ := k op vl (by rw [rd2_q]; exact hf)
  rw [rd1_q, rd2_q] at k'
  exact ⟨ad', CR.cong k' (fun c => s0_c op vl c) (fun f i h => s0_d op vl f i h) rfl⟩
