def wp_X0_init (x0 : Nat) (S : HSt) (Post : Unit → HSt → Prop) : Prop := ∀ a1 : Nat, gK S a1 = 0 → ∀ S3 : HSt, S3 = nA S 258 a1 6 → gR S3 101 x0 = none ∧ ∀ S7 : HSt, S7 = uR S3 101 x0 (some a1) → ∀ a10 : Nat, gK S7 a10 = 0 → ∀ S12 : HSt, S12 = nA S7 259 a10 6 → gR S12 102 x0 = none ∧ ∀ S16 : HSt, S16 = uR S12 102 x0 (some a10) → ∀ (a19 : Nat) (r20 : Nat → Nat), gK S16 a19 = 0 → (∀ i, i < 6 → gK S16 (r20 i) = 0) → (∀ i j, i < 6 → j < 6 → r20 i = r20 j → i = j) → (∀ i, i < 6 → r20 i ≠ a19) → ∀ S25 : HSt, S25 = nM S16 a19 r20 → gR S25 103 x0 = none ∧ ∀ S29 : HSt, S29 = uR S25 103 x0 (some a19) → ∀ a32 : Nat, gK S29 a32 = 0 → ∀ S34 : HSt, S34 = nA S29 260 a32 1000 → gR S34 104 x0 = none ∧ ∀ S38 : HSt, S38 = uR S34 104 x0 (some a32) → ∀ a41 : Nat, gK S38 a41 = 0 → ∀ S43 : HSt, S43 = nA S38 261 a41 1000 → gR S43 105 x0 = none ∧ ∀ S47 : HSt, S47 = uR S43 105 x0 (some a41) → Post () S47
set_option maxRecDepth 100000 in
set_option maxHeartbeats 4000000 in
theorem m_X0_init (l : Launch) (G : XG) (x0 : Nat) (S : HSt) (Post : Unit → HSt → Prop) (k_x0 : gK S x0 = 1) (hw : wp_X0_init x0 S Post) : Mx l yX0_init cX0_init 1 none 1 11 8018 G vV [.ref x0] S (fun r S' => Post r S' ∧ Ks S S') := by
  refine x_met [(0, .ref x0)] rfl (Nat.le_of_ble_eq_true rfl) rfl (fun p e s m args below meth c C hr hlk hin => ?_)
  have C : Cx p s m c cX0_init 1 args RX0 G := C
  have hin : meth.name = "<init>" := hin
  unfold wp_X0_init at hw
  refine x_aload_n (pc := 0) C 0 rfl dX0_init_0 rfl ?_
  refine x_objInit (pc := 1) C (tb1 113 rfl rfl) (tb1 27 rfl rfl) (tb1 28 rfl rfl) dX0_init_1 (by decide) (Nat.le_of_ble_eq_true rfl) ?_
  refine x_aload_n (pc := 4) C 0 rfl dX0_init_4 rfl ?_
  refine x_bipush (pc := 5) C (6 : Int32) dX0_init_5 (by decide) ?_
  refine x_newaG (pc := 7) C (kd := 258) (N := 6) 1 rfl (by decide) dX0_init_7 (tb1 107 rfl rfl) rfl (fun _ => rfl) (by decide) (by decide) (by decide) (by decide) (by decide) (fun a1 z2 => ?_)
  replace hw := hw a1 z2
  refine x_S (fun S3 e4 => ?_)
  replace hw := hw S3 e4
  have q5 := Ks_nA z2 e4
  obtain ⟨h6, hw⟩ := hw
  refine x_putRF (pc := 9) C (v := (some a1)) fw_X0_9 (Ks.k q5 k_x0) rfl rfl (hin) dX0_init_9 ?_
  refine x_S (fun S7 e8 => ?_)
  replace hw := hw S7 e8
  have q9 := Ks_uR e8 (Or.inr (Or.inr h6))
  refine x_aload_n (pc := 12) C 0 rfl dX0_init_12 rfl ?_
  refine x_bipush (pc := 13) C (6 : Int32) dX0_init_13 (by decide) ?_
  refine x_newaG (pc := 15) C (kd := 259) (N := 6) 1 rfl (by decide) dX0_init_15 (tb1 107 rfl rfl) rfl (fun _ => rfl) (by decide) (by decide) (by decide) (by decide) (by decide) (fun a10 z11 => ?_)
  replace hw := hw a10 z11
  refine x_S (fun S12 e13 => ?_)
  replace hw := hw S12 e13
  have q14 := Ks_nA z11 e13
  obtain ⟨h15, hw⟩ := hw
  refine x_putRF (pc := 17) C (v := (some a10)) fw_X0_15 (Ks.k (Ks.trans (Ks.trans q5 q9) q14) k_x0) rfl rfl (hin) dX0_init_17 ?_
  refine x_S (fun S16 e17 => ?_)
  replace hw := hw S16 e17
  have q18 := Ks_uR e17 (Or.inr (Or.inr h15))
  refine x_aload_n (pc := 20) C 0 rfl dX0_init_20 rfl ?_
  refine x_bipush (pc := 21) C (6 : Int32) dX0_init_21 (by decide) ?_
  refine x_sipush (pc := 23) C (1000 : Int32) dX0_init_23 (by decide) ?_
  refine x_multi (pc := 26) C (tb1 114 rfl rfl) (tb1 107 rfl rfl) dX0_init_26 (by decide) (by decide) (fun a19 r20 z21 z22 z23 z24 => ?_)
  replace hw := hw a19 r20 z21 z22 z23 z24
  refine x_S (fun S25 e26 => ?_)
  replace hw := hw S25 e26
  have q27 := Ks_nM z21 z22 e26
  obtain ⟨h28, hw⟩ := hw
  refine x_putRF (pc := 30) C (v := (some a19)) fw_X0_20 (Ks.k (Ks.trans (Ks.trans (Ks.trans (Ks.trans q5 q9) q14) q18) q27) k_x0) rfl rfl (hin) dX0_init_30 ?_
  refine x_S (fun S29 e30 => ?_)
  replace hw := hw S29 e30
  have q31 := Ks_uR e30 (Or.inr (Or.inr h28))
  refine x_aload_n (pc := 33) C 0 rfl dX0_init_33 rfl ?_
  refine x_sipush (pc := 34) C (1000 : Int32) dX0_init_34 (by decide) ?_
  refine x_newaG (pc := 37) C (kd := 260) (N := 1000) 1 rfl (by decide) dX0_init_37 (tb1 107 rfl rfl) rfl (fun _ => rfl) (by decide) (by decide) (by decide) (by decide) (by decide) (fun a32 z33 => ?_)
  replace hw := hw a32 z33
  refine x_S (fun S34 e35 => ?_)
  replace hw := hw S34 e35
  have q36 := Ks_nA z33 e35
  obtain ⟨h37, hw⟩ := hw
  refine x_putRF (pc := 39) C (v := (some a32)) fw_X0_23 (Ks.k (Ks.trans (Ks.trans (Ks.trans (Ks.trans (Ks.trans (Ks.trans q5 q9) q14) q18) q27) q31) q36) k_x0) rfl rfl (hin) dX0_init_39 ?_
  refine x_S (fun S38 e39 => ?_)
  replace hw := hw S38 e39
  have q40 := Ks_uR e39 (Or.inr (Or.inr h37))
  refine x_aload_n (pc := 42) C 0 rfl dX0_init_42 rfl ?_
  refine x_sipush (pc := 43) C (1000 : Int32) dX0_init_43 (by decide) ?_
  refine x_newaG (pc := 46) C (kd := 261) (N := 1000) 1 rfl (by decide) dX0_init_46 (tb1 107 rfl rfl) rfl (fun _ => rfl) (by decide) (by decide) (by decide) (by decide) (by decide) (fun a41 z42 => ?_)
  replace hw := hw a41 z42
  refine x_S (fun S43 e44 => ?_)
  replace hw := hw S43 e44
  have q45 := Ks_nA z42 e44
  obtain ⟨h46, hw⟩ := hw
  refine x_putRF (pc := 48) C (v := (some a41)) fw_X0_26 (Ks.k (Ks.trans (Ks.trans (Ks.trans (Ks.trans (Ks.trans (Ks.trans (Ks.trans (Ks.trans q5 q9) q14) q18) q27) q31) q36) q40) q45) k_x0) rfl rfl (hin) dX0_init_48 ?_
  refine x_S (fun S47 e48 => ?_)
  replace hw := hw S47 e48
  have q49 := Ks_uR e48 (Or.inr (Or.inr h46))
  refine x_vret (pc := 51) C hr hlk dX0_init_51 (by decide) (by decide) ⟨hw, (Ks.trans (Ks.trans (Ks.trans (Ks.trans (Ks.trans (Ks.trans (Ks.trans (Ks.trans (Ks.trans q5 q9) q14) q18) q27) q31) q36) q40) q45) q49)⟩
def lp_X12_init_788a (x0 : Nat) (K_n690_815 : Int32 → HSt → Prop) : Nat → Int32 → HSt → Prop
  | 0, _, _ => False
  | n690 + 1, w691, S692 => ∃ b694 : Nat, gR S692 1342 x0 = some b694 ∧ gK S692 b694 = 242 ∧ (((nI (gN S692 b694)) ≤ w691 → K_n690_815 w691 S692) ∧ (¬ (nI (gN S692 b694)) ≤ w691 → ∃ b698 : Nat, gR S692 1323 x0 = some b698 ∧ ∃ b700 : Nat, gR S692 1342 x0 = some b700 ∧ gK S692 b700 = 242 ∧ vp_in w691 (gN S692 b700) ∧ gK S692 b698 = 223 ∧ vp_in w691 (gN S692 b698) ∧ ∀ S706 : HSt, S706 = uA S692 223 b698 (w691).toNatClampNeg (gA S692 242 b700 (w691).toNatClampNeg) → ∀ v709 : Int32, v709 = (w691 + (1 : Int32)) → lp_X12_init_788a x0 K_n690_815 n690 v709 S706))
def lp_X12_init_836a (x0 : Nat) (K_n725_854 : Int32 → HSt → Prop) : Nat → Int32 → HSt → Prop
  | 0, _, _ => False
  | n725 + 1, w726, S727 => (((4 : Int32) ≤ w726 → K_n725_854 w726 S727) ∧ (¬ (4 : Int32) ≤ w726 → ∃ b730 : Nat, gR S727 1339 x0 = some b730 ∧ gK S727 b730 = 239 ∧ vp_in w726 (gN S727 b730) ∧ ∀ S734 : HSt, S734 = uA S727 239 b730 (w726).toNatClampNeg (-1 : Int32) → ∀ v737 : Int32, v737 = (w726 + (1 : Int32)) → lp_X12_init_836a x0 K_n725_854 n725 v737 S734))
set_option maxRecDepth 100000 in
def wp_X12_init (x0 : Nat) (S : HSt) (Post : Unit → HSt → Prop) : Prop := ∀ a1 : Nat, gK S a1 = 0 → ∀ S3 : HSt, S3 = nA S 201 a1 8 → gR S3 1301 x0 = none ∧ ∀ S7 : HSt, S7 = uR S3 1301 x0 (some a1) → ∀ a10 : Nat, gK S7 a10 = 0 → ∀ S12 : HSt, S12 = nA S7 202 a10 8 → gR S12 1302 x0 = none ∧ ∀ S16 : HSt, S16 = uR S12 1302 x0 (some a10) → ∀ a19 : Nat, gK S16 a19 = 0 → ∀ S21 : HSt, S21 = nA S16 203 a19 64 → gR S21 1303 x0 = none ∧ ∀ S25 : HSt, S25 = uR S21 1303 x0 (some a19) → ∀ a28 : Nat, gK S25 a28 = 0 → ∀ S30 : HSt, S30 = nA S25 205 a28 5 → gR S30 1305 x0 = none ∧ ∀ S34 : HSt, S34 = uR S30 1305 x0 (some a28) → ∀ a37 : Nat, gK S34 a37 = 0 → ∀ S39 : HSt, S39 = nA S34 206 a37 5 → gR S39 1306 x0 = none ∧ ∀ S43 : HSt, S43 = uR S39 1306 x0 (some a37) → ∀ a46 : Nat, gK S43 a46 = 0 → ∀ S48 : HSt, S48 = nA S43 207 a46 5 → gR S48 1307 x0 = none ∧ ∀ S52 : HSt, S52 = uR S48 1307 x0 (some a46) → ∀ a55 : Nat, gK S52 a55 = 0 → ∀ S57 : HSt, S57 = nA S52 208 a55 5 → gR S57 1308 x0 = none ∧ ∀ S61 : HSt, S61 = uR S57 1308 x0 (some a55) → ∀ a64 : Nat, gK S61 a64 = 0 → ∀ S66 : HSt, S66 = nA S61 209 a64 5 → gR S66 1309 x0 = none ∧ ∀ S70 : HSt, S70 = uR S66 1309 x0 (some a64) → ∀ a73 : Nat, gK S70 a73 = 0 → ∀ S75 : HSt, S75 = nA S70 210 a73 5 → gR S75 1310 x0 = none ∧ ∀ S79 : HSt, S79 = uR S75 1310 x0 (some a73) → ∀ a82 : Nat, gK S79 a82 = 0 → ∀ S84 : HSt, S84 = nA S79 211 a82 5 → gR S84 1311 x0 = none ∧ ∀ S88 : HSt, S88 = uR S84 1311 x0 (some a82) → ∀ a91 : Nat, gK S88 a91 = 0 → ∀ S93 : HSt, S93 = nA S88 112 a91 10000 → gR S93 1312 x0 = none ∧ ∀ S97 : HSt, S97 = uR S93 1312 x0 (some a91) → ∀ a100 : Nat, gK S97 a100 = 0 → ∀ S102 : HSt, S102 = nA S97 214 a100 10 → gR S102 1314 x0 = none ∧ ∀ S106 : HSt, S106 = uR S102 1314 x0 (some a100) → ∀ a109 : Nat, gK S106 a109 = 0 → ∀ S111 : HSt, S111 = nA S106 215 a109 10 → gR S111 1315 x0 = none ∧ ∀ S115 : HSt, S115 = uR S111 1315 x0 (some a109) → ∀ a118 : Nat, gK S115 a118 = 0 → ∀ S120 : HSt, S120 = nA S115 216 a118 10 → gR S120 1316 x0 = none ∧ ∀ S124 : HSt, S124 = uR S120 1316 x0 (some a118) → ∀ a127 : Nat, gK S124 a127 = 0 → ∀ S129 : HSt, S129 = nA S124 217 a127 10 → gR S129 1317 x0 = none ∧ ∀ S133 : HSt, S133 = uR S129 1317 x0 (some a127) → ∀ a136 : Nat, gK S133 a136 = 0 → ∀ S138 : HSt, S138 = nA S133 218 a136 10 → gR S138 1318 x0 = none ∧ ∀ S142 : HSt, S142 = uR S138 1318 x0 (some a136) → ∀ a145 : Nat, gK S142 a145 = 0 → ∀ S147 : HSt, S147 = nA S142 219 a145 10 → gR S147 1319 x0 = none ∧ ∀ S151 : HSt, S151 = uR S147 1319 x0 (some a145) → ∀ a154 : Nat, gK S151 a154 = 0 → ∀ S156 : HSt, S156 = nA S151 320 a154 10 → gR S156 1320 x0 = none ∧ ∀ S160 : HSt, S160 = uR S156 1320 x0 (some a154) → ∀ a163 : Nat, gK S160 a163 = 0 → ∀ S165 : HSt, S165 = nA S160 222 a163 6 → gR S165 1322 x0 = none ∧ ∀ S169 : HSt, S169 = uR S165 1322 x0 (some a163) → ∀ a172 : Nat, gK S169 a172 = 0 → ∀ S174 : HSt, S174 = nA S169 223 a172 160 → gR S174 1323 x0 = none ∧ ∀ S178 : HSt, S178 = uR S174 1323 x0 (some a172) → ∀ a181 : Nat, gK S178 a181 = 0 → ∀ S183 : HSt, S183 = nA S178 226 a181 1120 → gR S183 1326 x0 = none ∧ ∀ S187 : HSt, S187 = uR S183 1326 x0 (some a181) → ∀ a190 : Nat, gK S187 a190 = 0 → ∀ S192 : HSt, S192 = nA S187 227 a190 1120 → gR S192 1327 x0 = none ∧ ∀ S196 : HSt, S196 = uR S192 1327 x0 (some a190) → ∀ a199 : Nat, gK S196 a199 = 0 → ∀ S201 : HSt, S201 = nA S196 228 a199 21 → gR S201 1328 x0 = none ∧ ∀ S205 : HSt, S205 = uR S201 1328 x0 (some a199) → ∀ a208 : Nat, gK S205 a208 = 0 → ∀ S210 : HSt, S210 = nA S205 230 a208 12 → gR S210 1330 x0 = none ∧ ∀ S214 : HSt, S214 = uR S210 1330 x0 (some a208) → ∀ a217 : Nat, gK S214 a217 = 0 → ∀ S219 : HSt, S219 = nA S214 231 a217 12 → gR S219 1331 x0 = none ∧ ∀ S223 : HSt, S223 = uR S219 1331 x0 (some a217) → ∀ a226 : Nat, gK S223 a226 = 0 → ∀ S228 : HSt, S228 = nA S223 232 a226 12 → gR S228 1332 x0 = none ∧ ∀ S232 : HSt, S232 = uR S228 1332 x0 (some a226) → ∀ a235 : Nat, gK S232 a235 = 0 → ∀ S237 : HSt, S237 = nA S232 233 a235 12 → gR S237 1333 x0 = none ∧ ∀ S241 : HSt, S241 = uR S237 1333 x0 (some a235) → ∀ a244 : Nat, gK S241 a244 = 0 → ∀ S246 : HSt, S246 = nA S241 234 a244 12 → gR S246 1334 x0 = none ∧ ∀ S250 : HSt, S250 = uR S246 1334 x0 (some a244) → ∀ a253 : Nat, gK S250 a253 = 0 → ∀ S255 : HSt, S255 = nA S250 235 a253 12 → gR S255 1335 x0 = none ∧ ∀ S259 : HSt, S259 = uR S255 1335 x0 (some a253) → ∀ a262 : Nat, gK S259 a262 = 0 → ∀ S264 : HSt, S264 = nA S259 236 a262 12 → gR S264 1336 x0 = none ∧ ∀ S268 : HSt, S268 = uR S264 1336 x0 (some a262) → ∀ a271 : Nat, gK S268 a271 = 0 → ∀ S273 : HSt, S273 = nA S268 237 a271 12 → gR S273 1337 x0 = none ∧ ∀ S277 : HSt, S277 = uR S273 1337 x0 (some a271) → ∀ a280 : Nat, gK S277 a280 = 0 → ∀ S282 : HSt, S282 = nA S277 238 a280 12 → gR S282 1338 x0 = none ∧ ∀ S286 : HSt, S286 = uR S282 1338 x0 (some a280) → ∀ a289 : Nat, gK S286 a289 = 0 → ∀ S291 : HSt, S291 = nA S286 239 a289 4 → gR S291 1339 x0 = none ∧ ∀ S295 : HSt, S295 = uR S291 1339 x0 (some a289) → ∀ a298 : Nat, gK S295 a298 = 0 → ∀ S300 : HSt, S300 = nA S295 240 a298 4 → gR S300 1340 x0 = none ∧ ∀ S304 : HSt, S304 = uR S300 1340 x0 (some a298) → ∀ a307 : Nat, gK S304 a307 = 0 → ∀ S309 : HSt, S309 = nA S304 241 a307 160 → gR S309 1341 x0 = none ∧ ∀ S313 : HSt, S313 = uR S309 1341 x0 (some a307) → ∀ a316 : Nat, gK S313 a316 = 0 → ∀ S318 : HSt, S318 = nA S313 242 a316 32 → vp_in (0 : Int32) (gN S318 a316) ∧ ∀ S322 : HSt, S322 = uA S318 242 a316 ((0 : Int32)).toNatClampNeg (108 : Int32) → vp_in (1 : Int32) (gN S322 a316) ∧ ∀ S326 : HSt, S326 = uA S322 242 a316 ((1 : Int32)).toNatClampNeg (97 : Int32) → vp_in (2 : Int32) (gN S326 a316) ∧ ∀ S330 : HSt, S330 = uA S326 242 a316 ((2 : Int32)).toNatClampNeg (121 : Int32) → vp_in (3 : Int32) (gN S330 a316) ∧ ∀ S334 : HSt, S334 = uA S330 242 a316 ((3 : Int32)).toNatClampNeg (32 : Int32) → vp_in (4 : Int32) (gN S334 a316) ∧ ∀ S338 : HSt, S338 = uA S334 242 a316 ((4 : Int32)).toNatClampNeg (115 : Int32) → vp_in (5 : Int32) (gN S338 a316) ∧ ∀ S342 : HSt, S342 = uA S338 242 a316 ((5 : Int32)).toNatClampNeg (111 : Int32) → vp_in (6 : Int32) (gN S342 a316) ∧ ∀ S346 : HSt, S346 = uA S342 242 a316 ((6 : Int32)).toNatClampNeg (114 : Int32) → vp_in (7 : Int32) (gN S346 a316) ∧ ∀ S350 : HSt, S350 = uA S346 242 a316 ((7 : Int32)).toNatClampNeg (116 : Int32) → vp_in (8 : Int32) (gN S350 a316) ∧ ∀ S354 : HSt, S354 = uA S350 242 a316 ((8 : Int32)).toNatClampNeg (61 : Int32) → vp_in (9 : Int32) (gN S354 a316) ∧ ∀ S358 : HSt, S358 = uA S354 242 a316 ((9 : Int32)).toNatClampNeg (49 : Int32) → vp_in (10 : Int32) (gN S358 a316) ∧ ∀ S362 : HSt, S362 = uA S358 242 a316 ((10 : Int32)).toNatClampNeg (32 : Int32) → vp_in (11 : Int32) (gN S362 a316) ∧ ∀ S366 : HSt, S366 = uA S362 242 a316 ((11 : Int32)).toNatClampNeg (111 : Int32) → vp_in (12 : Int32) (gN S366 a316) ∧ ∀ S370 : HSt, S370 = uA S366 242 a316 ((12 : Int32)).toNatClampNeg (114 : Int32) → vp_in (13 : Int32) (gN S370 a316) ∧ ∀ S374 : HSt, S374 = uA S370 242 a316 ((13 : Int32)).toNatClampNeg (32 : Int32) → vp_in (14 : Int32) (gN S374 a316) ∧ ∀ S378 : HSt, S378 = uA S374 242 a316 ((14 : Int32)).toNatClampNeg (115 : Int32) → vp_in (15 : Int32) (gN S378 a316) ∧ ∀ S382 : HSt, S382 = uA S378 242 a316 ((15 : Int32)).toNatClampNeg (111 : Int32) → vp_in (16 : Int32) (gN S382 a316) ∧ ∀ S386 : HSt, S386 = uA S382 242 a316 ((16 : Int32)).toNatClampNeg (114 : Int32) → vp_in (17 : Int32) (gN S386 a316) ∧ ∀ S390 : HSt, S390 = uA S386 242 a316 ((17 : Int32)).toNatClampNeg (116 : Int32) → vp_in (18 : Int32) (gN S390 a316) ∧ ∀ S394 : HSt, S394 = uA S390 242 a316 ((18 : Int32)).toNatClampNeg (61 : Int32) → vp_in (19 : Int32) (gN S394 a316) ∧ ∀ S398 : HSt, S398 = uA S394 242 a316 ((19 : Int32)).toNatClampNeg (50 : Int32) → vp_in (20 : Int32) (gN S398 a316) ∧ ∀ S402 : HSt, S402 = uA S398 242 a316 ((20 : Int32)).toNatClampNeg (59 : Int32) → vp_in (21 : Int32) (gN S402 a316) ∧ ∀ S406 : HSt, S406 = uA S402 242 a316 ((21 : Int32)).toNatClampNeg (111 : Int32) → vp_in (22 : Int32) (gN S406 a316) ∧ ∀ S410 : HSt, S410 = uA S406 242 a316 ((22 : Int32)).toNatClampNeg (102 : Int32) → vp_in (23 : Int32) (gN S410 a316) ∧ ∀ S414 : HSt, S414 = uA S410 242 a316 ((23 : Int32)).toNatClampNeg (102 : Int32) → vp_in (24 : Int32) (gN S414 a316) ∧ ∀ S418 : HSt, S418 = uA S414 242 a316 ((24 : Int32)).toNatClampNeg (32 : Int32) → vp_in (25 : Int32) (gN S418 a316) ∧ ∀ S422 : HSt, S422 = uA S418 242 a316 ((25 : Int32)).toNatClampNeg (115 : Int32) → vp_in (26 : Int32) (gN S422 a316) ∧ ∀ S426 : HSt, S426 = uA S422 242 a316 ((26 : Int32)).toNatClampNeg (111 : Int32) → vp_in (27 : Int32) (gN S426 a316) ∧ ∀ S430 : HSt, S430 = uA S426 242 a316 ((27 : Int32)).toNatClampNeg (114 : Int32) → vp_in (28 : Int32) (gN S430 a316) ∧ ∀ S434 : HSt, S434 = uA S430 242 a316 ((28 : Int32)).toNatClampNeg (116 : Int32) → vp_in (29 : Int32) (gN S434 a316) ∧ ∀ S438 : HSt, S438 = uA S434 242 a316 ((29 : Int32)).toNatClampNeg (61 : Int32) → vp_in (30 : Int32) (gN S438 a316) ∧ ∀ S442 : HSt, S442 = uA S438 242 a316 ((30 : Int32)).toNatClampNeg (52 : Int32) → vp_in (31 : Int32) (gN S442 a316) ∧ ∀ S446 : HSt, S446 = uA S442 242 a316 ((31 : Int32)).toNatClampNeg (59 : Int32) → gR S446 1342 x0 = none ∧ ∀ S450 : HSt, S450 = uR S446 1342 x0 (some a316) → ∀ a453 : Nat, gK S450 a453 = 0 → ∀ S455 : HSt, S455 = nA S450 246 a453 3 → gR S455 1346 x0 = none ∧ ∀ S459 : HSt, S459 = uR S455 1346 x0 (some a453) → ∀ a462 : Nat, gK S459 a462 = 0 → ∀ S464 : HSt, S464 = nA S459 247 a462 3 → gR S464 1347 x0 = none ∧ ∀ S468 : HSt, S468 = uR S464 1347 x0 (some a462) → ∀ a471 : Nat, gK S468 a471 = 0 → ∀ S473 : HSt, S473 = nA S468 248 a471 6000 → gR S473 1348 x0 = none ∧ ∀ S477 : HSt, S477 = uR S473 1348 x0 (some a471) → ∀ a480 : Nat, gK S477 a480 = 0 → ∀ S482 : HSt, S482 = nA S477 249 a480 48 → vp_in (0 : Int32) (gN S482 a480) ∧ ∀ S486 : HSt, S486 = uA S482 249 a480 ((0 : Int32)).toNatClampNeg (115 : Int32) → vp_in (1 : Int32) (gN S486 a480) ∧ ∀ S490 : HSt, S490 = uA S486 249 a480 ((1 : Int32)).toNatClampNeg (111 : Int32) → vp_in (2 : Int32) (gN S490 a480) ∧ ∀ S494 : HSt, S494 = uA S490 249 a480 ((2 : Int32)).toNatClampNeg (114 : Int32) → vp_in (3 : Int32) (gN S494 a480) ∧ ∀ S498 : HSt, S498 = uA S494 249 a480 ((3 : Int32)).toNatClampNeg (116 : Int32) → vp_in (4 : Int32) (gN S498 a480) ∧ ∀ S502 : HSt, S502 = uA S498 249 a480 ((4 : Int32)).toNatClampNeg (0 : Int32) → vp_in (5 : Int32) (gN S502 a480) ∧ ∀ S506 : HSt, S506 = uA S502 249 a480 ((5 : Int32)).toNatClampNeg (119 : Int32) → vp_in (6 : Int32) (gN S506 a480) ∧ ∀ S510 : HSt, S510 = uA S506 249 a480 ((6 : Int32)).toNatClampNeg (101 : Int32) → vp_in (7 : Int32) (gN S510 a480) ∧ ∀ S514 : HSt, S514 = uA S510 249 a480 ((7 : Int32)).toNatClampNeg (101 : Int32) → vp_in (8 : Int32) (gN S514 a480) ∧ ∀ S518 : HSt, S518 = uA S514 249 a480 ((8 : Int32)).toNatClampNeg (107 : Int32) → vp_in (9 : Int32) (gN S518 a480) ∧ ∀ S522 : HSt, S522 = uA S518 249 a480 ((9 : Int32)).toNatClampNeg (100 : Int32) → vp_in (10 : Int32) (gN S522 a480) ∧ ∀ S526 : HSt, S526 = uA S522 249 a480 ((10 : Int32)).toNatClampNeg (97 : Int32) → vp_in (11 : Int32) (gN S526 a480) ∧ ∀ S530 : HSt, S530 = uA S526 249 a480 ((11 : Int32)).toNatClampNeg (121 : Int32) → vp_in (12 : Int32) (gN S530 a480) ∧ ∀ S534 : HSt, S534 = uA S530 249 a480 ((12 : Int32)).toNatClampNeg (0 : Int32) → vp_in (13 : Int32) (gN S534 a480) ∧ ∀ S538 : HSt, S538 = uA S534 249 a480 ((13 : Int32)).toNatClampNeg (99 : Int32) → vp_in (14 : Int32) (gN S538 a480) ∧ ∀ S542 : HSt, S542 = uA S538 249 a480 ((14 : Int32)).toNatClampNeg (108 : Int32) → vp_in (15 : Int32) (gN S542 a480) ∧ ∀ S546 : HSt, S546 = uA S542 249 a480 ((15 : Int32)).toNatClampNeg (111 : Int32) → vp_in (16 : Int32) (gN S546 a480) ∧ ∀ S550 : HSt, S550 = uA S546 249 a480 ((16 : Int32)).toNatClampNeg (99 : Int32) → vp_in (17 : Int32) (gN S550 a480) ∧ ∀ S554 : HSt, S554 = uA S550 249 a480 ((17 : Int32)).toNatClampNeg (107 : Int32) → vp_in (18 : Int32) (gN S554 a480) ∧ ∀ S558 : HSt, S558 = uA S554 249 a480 ((18 : Int32)).toNatClampNeg (0 : Int32) → vp_in (19 : Int32) (gN S558 a480) ∧ ∀ S562 : HSt, S562 = uA S558 249 a480 ((19 : Int32)).toNatClampNeg (104 : Int32) → vp_in (20 : Int32) (gN S562 a480) ∧ ∀ S566 : HSt, S566 = uA S562 249 a480 ((20 : Int32)).toNatClampNeg (111 : Int32) → vp_in (21 : Int32) (gN S566 a480) ∧ ∀ S570 : HSt, S570 = uA S566 249 a480 ((21 : Int32)).toNatClampNeg (117 : Int32) → vp_in (22 : Int32) (gN S570 a480) ∧ ∀ S574 : HSt, S574 = uA S570 249 a480 ((22 : Int32)).toNatClampNeg (114 : Int32) → vp_in (23 : Int32) (gN S574 a480) ∧ ∀ S578 : HSt, S578 = uA S574 249 a480 ((23 : Int32)).toNatClampNeg (0 : Int32) → vp_in (24 : Int32) (gN S578 a480) ∧ ∀ S582 : HSt, S582 = uA S578 249 a480 ((24 : Int32)).toNatClampNeg (111 : Int32) → vp_in (25 : Int32) (gN S582 a480) ∧ ∀ S586 : HSt, S586 = uA S582 249 a480 ((25 : Int32)).toNatClampNeg (118 : Int32) → vp_in (26 : Int32) (gN S586 a480) ∧ ∀ S590 : HSt, S590 = uA S586 249 a480 ((26 : Int32)).toNatClampNeg (101 : Int32) → vp_in (27 : Int32) (gN S590 a480) ∧ ∀ S594 : HSt, S594 = uA S590 249 a480 ((27 : Int32)).toNatClampNeg (114 : Int32) → vp_in (28 : Int32) (gN S594 a480) ∧ ∀ S598 : HSt, S598 = uA S594 249 a480 ((28 : Int32)).toNatClampNeg (0 : Int32) → vp_in (29 : Int32) (gN S598 a480) ∧ ∀ S602 : HSt, S602 = uA S598 249 a480 ((29 : Int32)).toNatClampNeg (108 : Int32) → vp_in (30 : Int32) (gN S602 a480) ∧ ∀ S606 : HSt, S606 = uA S602 249 a480 ((30 : Int32)).toNatClampNeg (97 : Int32) → vp_in (31 : Int32) (gN S606 a480) ∧ ∀ S610 : HSt, S610 = uA S606 249 a480 ((31 : Int32)).toNatClampNeg (121 : Int32) → vp_in (32 : Int32) (gN S610 a480) ∧ ∀ S614 : HSt, S614 = uA S610 249 a480 ((32 : Int32)).toNatClampNeg (0 : Int32) → vp_in (33 : Int32) (gN S614 a480) ∧ ∀ S618 : HSt, S618 = uA S614 249 a480 ((33 : Int32)).toNatClampNeg (111 : Int32) → vp_in (34 : Int32) (gN S618 a480) ∧ ∀ S622 : HSt, S622 = uA S618 249 a480 ((34 : Int32)).toNatClampNeg (102 : Int32) → vp_in (35 : Int32) (gN S622 a480) ∧ ∀ S626 : HSt, S626 = uA S622 249 a480 ((35 : Int32)).toNatClampNeg (102 : Int32) → vp_in (36 : Int32) (gN S626 a480) ∧ ∀ S630 : HSt, S630 = uA S626 249 a480 ((36 : Int32)).toNatClampNeg (0 : Int32) → vp_in (37 : Int32) (gN S630 a480) ∧ ∀ S634 : HSt, S634 = uA S630 249 a480 ((37 : Int32)).toNatClampNeg (111 : Int32) → vp_in (38 : Int32) (gN S634 a480) ∧ ∀ S638 : HSt, S638 = uA S634 249 a480 ((38 : Int32)).toNatClampNeg (114 : Int32) → vp_in (39 : Int32) (gN S638 a480) ∧ ∀ S642 : HSt, S642 = uA S638 249 a480 ((39 : Int32)).toNatClampNeg (0 : Int32) → vp_in (40 : Int32) (gN S642 a480) ∧ ∀ S646 : HSt, S646 = uA S642 249 a480 ((40 : Int32)).toNatClampNeg (97 : Int32) → vp_in (41 : Int32) (gN S646 a480) ∧ ∀ S650 : HSt, S650 = uA S646 249 a480 ((41 : Int32)).toNatClampNeg (110 : Int32) → vp_in (42 : Int32) (gN S650 a480) ∧ ∀ S654 : HSt, S654 = uA S650 249 a480 ((42 : Int32)).toNatClampNeg (100 : Int32) → vp_in (43 : Int32) (gN S654 a480) ∧ ∀ S658 : HSt, S658 = uA S654 249 a480 ((43 : Int32)).toNatClampNeg (0 : Int32) → vp_in (44 : Int32) (gN S658 a480) ∧ ∀ S662 : HSt, S662 = uA S658 249 a480 ((44 : Int32)).toNatClampNeg (110 : Int32) → vp_in (45 : Int32) (gN S662 a480) ∧ ∀ S666 : HSt, S666 = uA S662 249 a480 ((45 : Int32)).toNatClampNeg (111 : Int32) → vp_in (46 : Int32) (gN S666 a480) ∧ ∀ S670 : HSt, S670 = uA S666 249 a480 ((46 : Int32)).toNatClampNeg (116 : Int32) → vp_in (47 : Int32) (gN S670 a480) ∧ ∀ S674 : HSt, S674 = uA S670 249 a480 ((47 : Int32)).toNatClampNeg (0 : Int32) → gR S674 1349 x0 = none ∧ ∀ S678 : HSt, S678 = uR S674 1349 x0 (some a480) → ∀ a681 : Nat, gK S678 a681 = 0 → ∀ S683 : HSt, S683 = nA S678 259 a681 180 → gR S683 1359 x0 = none ∧ ∀ S687 : HSt, S687 = uR S683 1359 x0 (some a681) → (∃ n690 : Nat, lp_X12_init_788a x0 (fun (w691 : Int32) (S711 : HSt) => ∃ b713 : Nat, gR S711 1342 x0 = some b713 ∧ gK S711 b713 = 242 ∧ ∀ S716 : HSt, S716 = uI S711 1350 x0 (nI (gN S711 b713)) → ∃ g : Nat → Nat, MI g x0 S716 ∧ wp_X12_reads g x0 (0 : Int32) S716 (fun _ (S720 : HSt) => ∀ S722 : HSt, S722 = uI S720 1325 x0 (1 : Int32) → (∃ n725 : Nat, lp_X12_init_836a x0 (fun (w726 : Int32) (S739 : HSt) => Post () S739) n725 (0 : Int32) S722))) n690 (0 : Int32) S687)
set_option maxRecDepth 100000 in
set_option maxHeartbeats 4000000 in
theorem m_X12_init (l : Launch) (G : XG) (x0 : Nat) (S : HSt) (Post : Unit → HSt → Prop) (k_x0 : gK S x0 = 13) (hw : wp_X12_init x0 S Post) : Mx l yX12_init cX12_init 2 none 87 41 19154 G vV [.ref x0] S (fun r S' => Post r S' ∧ Ks S S') := by
  refine x_met [(0, .ref x0)] rfl (Nat.le_of_ble_eq_true rfl) rfl (fun p e s m args below meth c C hr hlk hin => ?_)
  have C : Cx p s m c cX12_init 2 args RX12 G := C
  have hin : meth.name = "<init>" := hin
  unfold wp_X12_init at hw
  refine x_aload_n (pc := 0) C 0 rfl dX12_init_0 rfl ?_
  refine x_objInit (pc := 1) C (tb5 48 rfl rfl) (tb1 27 rfl rfl) (tb1 28 rfl rfl) dX12_init_1 (by decide) (Nat.le_of_ble_eq_true rfl) ?_
  refine x_aload_n (pc := 4) C 0 rfl dX12_init_4 rfl ?_
  refine x_bipush (pc := 5) C (8 : Int32) dX12_init_5 (by decide) ?_
  refine x_newaG (pc := 7) C (kd := 201) (N := 8) 1 rfl (by decide) dX12_init_7 (tb1 107 rfl rfl) rfl (fun _ => rfl) (by decide) (by decide) (by decide) (by decide) (by decide) (fun a1 z2 => ?_)
  replace hw := hw a1 z2
  refine x_S (fun S3 e4 => ?_)
  replace hw := hw S3 e4
  have q5 := Ks_nA z2 e4
  obtain ⟨h6, hw⟩ := hw
  refine x_putRF (pc := 9) C (v := (some a1)) fw_X12_7 (Ks.k q5 k_x0) rfl rfl (hin) dX12_init_9 ?_
  refine x_S (fun S7 e8 => ?_)
  replace hw := hw S7 e8
  have q9 := Ks_uR e8 (Or.inr (Or.inr h6))
  refine x_aload_n (pc := 12) C 0 rfl dX12_init_12 rfl ?_
  refine x_bipush (pc := 13) C (8 : Int32) dX12_init_13 (by decide) ?_
  refine x_newaG (pc := 15) C (kd := 202) (N := 8) 1 rfl (by decide) dX12_init_15 (tb1 107 rfl rfl) rfl (fun _ => rfl) (by decide) (by decide) (by decide) (by decide) (by decide) (fun a10 z11 => ?_)
  replace hw := hw a10 z11
  refine x_S (fun S12 e13 => ?_)
  replace hw := hw S12 e13
  have q14 := Ks_nA z11 e13
  obtain ⟨h15, hw⟩ := hw
  refine x_putRF (pc := 17) C (v := (some a10)) fw_X12_13 (Ks.k (Ks.trans (Ks.trans q5 q9) q14) k_x0) rfl rfl (hin) dX12_init_17 ?_
  refine x_S (fun S16 e17 => ?_)
  replace hw := hw S16 e17
  have q18 := Ks_uR e17 (Or.inr (Or.inr h15))
  refine x_aload_n (pc := 20) C 0 rfl dX12_init_20 rfl ?_
  refine x_bipush (pc := 21) C (64 : Int32) dX12_init_21 (by decide) ?_
  refine x_newaG (pc := 23) C (kd := 203) (N := 64) 1 rfl (by decide) dX12_init_23 (tb1 107 rfl rfl) rfl (fun _ => rfl) (by decide) (by decide) (by decide) (by decide) (by decide) (fun a19 z20 => ?_)
  replace hw := hw a19 z20
  refine x_S (fun S21 e22 => ?_)
  replace hw := hw S21 e22
  have q23 := Ks_nA z20 e22
  obtain ⟨h24, hw⟩ := hw
  refine x_putRF (pc := 25) C (v := (some a19)) fw_X12_16 (Ks.k (Ks.trans (Ks.trans (Ks.trans (Ks.trans q5 q9) q14) q18) q23) k_x0) rfl rfl (hin) dX12_init_25 ?_
  refine x_S (fun S25 e26 => ?_)
  replace hw := hw S25 e26
  have q27 := Ks_uR e26 (Or.inr (Or.inr h24))
  refine x_aload_n (pc := 28) C 0 rfl dX12_init_28 rfl ?_
  refine x_iconst (pc := 29) C (5 : Int32) dX12_init_29 (by decide) ?_
  refine x_newaG (pc := 30) C (kd := 205) (N := 5) 1 rfl (by decide) dX12_init_30 (tb1 107 rfl rfl) rfl (fun _ => rfl) (by decide) (by decide) (by decide) (by decide) (by decide) (fun a28 z29 => ?_)
  replace hw := hw a28 z29
  refine x_S (fun S30 e31 => ?_)
  replace hw := hw S30 e31
  have q32 := Ks_nA z29 e31
  obtain ⟨h33, hw⟩ := hw
  refine x_putRF (pc := 32) C (v := (some a28)) fw_X12_19 (Ks.k (Ks.trans (Ks.trans (Ks.trans (Ks.trans (Ks.trans (Ks.trans q5 q9) q14) q18) q23) q27) q32) k_x0) rfl rfl (hin) dX12_init_32 ?_
  refine x_S (fun S34 e35 => ?_)
  replace hw := hw S34 e35
  have q36 := Ks_uR e35 (Or.inr (Or.inr h33))
  refine x_aload_n (pc := 35) C 0 rfl dX12_init_35 rfl ?_
  refine x_iconst (pc := 36) C (5 : Int32) dX12_init_36 (by decide) ?_
  refine x_newaG (pc := 37) C (kd := 206) (N := 5) 1 rfl (by decide) dX12_init_37 (tb1 107 rfl rfl) rfl (fun _ => rfl) (by decide) (by decide) (by decide) (by decide) (by decide) (fun a37 z38 => ?_)
  replace hw := hw a37 z38
  refine x_S (fun S39 e40 => ?_)
  replace hw := hw S39 e40
  have q41 := Ks_nA z38 e40
  obtain ⟨h42, hw⟩ := hw
  refine x_putRF (pc := 39) C (v := (some a37)) fw_X12_22 (Ks.k (Ks.trans (Ks.trans (Ks.trans (Ks.trans (Ks.trans (Ks.trans (Ks.trans (Ks.trans q5 q9) q14) q18) q23) q27) q32) q36) q41) k_x0) rfl rfl (hin) dX12_init_39 ?_
  refine x_S (fun S43 e44 => ?_)
  replace hw := hw S43 e44
  have q45 := Ks_uR e44 (Or.inr (Or.inr h42))
  refine x_aload_n (pc := 42) C 0 rfl dX12_init_42 rfl ?_
  refine x_iconst (pc := 43) C (5 : Int32) dX12_init_43 (by decide) ?_
  refine x_newaG (pc := 44) C (kd := 207) (N := 5) 1 rfl (by decide) dX12_init_44 (tb1 107 rfl rfl) rfl (fun _ => rfl) (by decide) (by decide) (by decide) (by decide) (by decide) (fun a46 z47 => ?_)
  replace hw := hw a46 z47
  refine x_S (fun S48 e49 => ?_)
  replace hw := hw S48 e49
  have q50 := Ks_nA z47 e49
  obtain ⟨h51, hw⟩ := hw
  refine x_putRF (pc := 46) C (v := (some a46)) fw_X12_25 (Ks.k (Ks.trans (Ks.trans (Ks.trans (Ks.trans (Ks.trans (Ks.trans (Ks.trans (Ks.trans (Ks.trans (Ks.trans q5 q9) q14) q18) q23) q27) q32) q36) q41) q45) q50) k_x0) rfl rfl (hin) dX12_init_46 ?_
  refine x_S (fun S52 e53 => ?_)
  replace hw := hw S52 e53
  have q54 := Ks_uR e53 (Or.inr (Or.inr h51))
  refine x_aload_n (pc := 49) C 0 rfl dX12_init_49 rfl ?_
  refine x_iconst (pc := 50) C (5 : Int32) dX12_init_50 (by decide) ?_
  refine x_newaG (pc := 51) C (kd := 208) (N := 5) 1 rfl (by decide) dX12_init_51 (tb1 107 rfl rfl) rfl (fun _ => rfl) (by decide) (by decide) (by decide) (by decide) (by decide) (fun a55 z56 => ?_)
  replace hw := hw a55 z56
  refine x_S (fun S57 e58 => ?_)
  replace hw := hw S57 e58
  have q59 := Ks_nA z56 e58
  obtain ⟨h60, hw⟩ := hw
  refine x_putRF (pc := 53) C (v := (some a55)) fw_X12_28 (Ks.k (Ks.trans (Ks.trans (Ks.trans (Ks.trans (Ks.trans (Ks.trans (Ks.trans (Ks.trans (Ks.trans (Ks.trans (Ks.trans (Ks.trans q5 q9) q14) q18) q23) q27) q32) q36) q41) q45) q50) q54) q59) k_x0) rfl rfl (hin) dX12_init_53 ?_
  refine x_S (fun S61 e62 => ?_)
  replace hw := hw S61 e62
  have q63 := Ks_uR e62 (Or.inr (Or.inr h60))
  refine x_aload_n (pc := 56) C 0 rfl dX12_init_56 rfl ?_
  refine x_iconst (pc := 57) C (5 : Int32) dX12_init_57 (by decide) ?_
  refine x_newaG (pc := 58) C (kd := 209) (N := 5) 1 rfl (by decide) dX12_init_58 (tb1 107 rfl rfl) rfl (fun _ => rfl) (by decide) (by decide) (by decide) (by decide) (by decide) (fun a64 z65 => ?_)
  replace hw := hw a64 z65
  refine x_S (fun S66 e67 => ?_)
  replace hw := hw S66 e67
  have q68 := Ks_nA z65 e67
  obtain ⟨h69, hw⟩ := hw
  refine x_putRF (pc := 60) C (v := (some a64)) fw_X12_31 (Ks.k (Ks.trans (Ks.trans (Ks.trans (Ks.trans (Ks.trans (Ks.trans (Ks.trans (Ks.trans (Ks.trans (Ks.trans (Ks.trans (Ks.trans (Ks.trans (Ks.trans q5 q9) q14) q18) q23) q27) q32) q36) q41) q45) q50) q54) q59) q63) q68) k_x0) rfl rfl (hin) dX12_init_60 ?_
  refine x_S (fun S70 e71 => ?_)
  replace hw := hw S70 e71
  have q72 := Ks_uR e71 (Or.inr (Or.inr h69))
  refine x_aload_n (pc := 63) C 0 rfl dX12_init_63 rfl ?_
  refine x_iconst (pc := 64) C (5 : Int32) dX12_init_64 (by decide) ?_
  refine x_newaG (pc := 65) C (kd := 210) (N := 5) 1 rfl (by decide) dX12_init_65 (tb1 107 rfl rfl) rfl (fun _ => rfl) (by decide) (by decide) (by decide) (by decide) (by decide) (fun a73 z74 => ?_)
  replace hw := hw a73 z74
  refine x_S (fun S75 e76 => ?_)
  replace hw := hw S75 e76
  have q77 := Ks_nA z74 e76
  obtain ⟨h78, hw⟩ := hw
  refine x_putRF (pc := 67) C (v := (some a73)) fw_X12_34 (Ks.k (Ks.trans (Ks.trans (Ks.trans (Ks.trans (Ks.trans (Ks.trans (Ks.trans (Ks.trans (Ks.trans (Ks.trans (Ks.trans (Ks.trans (Ks.trans (Ks.trans (Ks.trans (Ks.trans q5 q9) q14) q18) q23) q27) q32) q36) q41) q45) q50) q54) q59) q63) q68) q72) q77) k_x0) rfl rfl (hin) dX12_init_67 ?_
  refine x_S (fun S79 e80 => ?_)
  replace hw := hw S79 e80
  have q81 := Ks_uR e80 (Or.inr (Or.inr h78))
  refine x_aload_n (pc := 70) C 0 rfl dX12_init_70 rfl ?_
  refine x_iconst (pc := 71) C (5 : Int32) dX12_init_71 (by decide) ?_
  refine x_newaG (pc := 72) C (kd := 211) (N := 5) 1 rfl (by decide) dX12_init_72 (tb1 107 rfl rfl) rfl (fun _ => rfl) (by decide) (by decide) (by decide) (by decide) (by decide) (fun a82 z83 => ?_)
  replace hw := hw a82 z83
  refine x_S (fun S84 e85 => ?_)
  replace hw := hw S84 e85
  have q86 := Ks_nA z83 e85
  obtain ⟨h87, hw⟩ := hw
  refine x_putRF (pc := 74) C (v := (some a82)) fw_X12_37 (Ks.k (Ks.trans (Ks.trans (Ks.trans (Ks.trans (Ks.trans (Ks.trans (Ks.trans (Ks.trans (Ks.trans (Ks.trans (Ks.trans (Ks.trans (Ks.trans (Ks.trans (Ks.trans (Ks.trans (Ks.trans (Ks.trans q5 q9) q14) q18) q23) q27) q32) q36) q41) q45) q50) q54) q59) q63) q68) q72) q77) q81) q86) k_x0) rfl rfl (hin) dX12_init_74 ?_
  refine x_S (fun S88 e89 => ?_)
  replace hw := hw S88 e89
  have q90 := Ks_uR e89 (Or.inr (Or.inr h87))
  refine x_aload_n (pc := 77) C 0 rfl dX12_init_77 rfl ?_
  refine x_sipush (pc := 78) C (10000 : Int32) dX12_init_78 (by decide) ?_
  refine x_newaG (pc := 81) C (kd := 112) (N := 10000) 0 rfl (by decide) dX12_init_81 (tb2 216 rfl rfl) rfl (fun _ => rfl) (by decide) (by decide) (by decide) (by decide) (by decide) (fun a91 z92 => ?_)
  replace hw := hw a91 z92
  refine x_S (fun S93 e94 => ?_)
  replace hw := hw S93 e94
  have q95 := Ks_nA z92 e94
  obtain ⟨h96, hw⟩ := hw
  refine x_putRF (pc := 83) C (v := (some a91)) fw_X12_40 (Ks.k (Ks.trans (Ks.trans (Ks.trans (Ks.trans (Ks.trans (Ks.trans (Ks.trans (Ks.trans (Ks.trans (Ks.trans (Ks.trans (Ks.trans (Ks.trans (Ks.trans (Ks.trans (Ks.trans (Ks.trans (Ks.trans (Ks.trans (Ks.trans q5 q9) q14) q18) q23) q27) q32) q36) q41) q45) q50) q54) q59) q63) q68) q72) q77) q81) q86) q90) q95) k_x0) rfl rfl (hin) dX12_init_83 ?_
  refine x_S (fun S97 e98 => ?_)
  replace hw := hw S97 e98
  have q99 := Ks_uR e98 (Or.inr (Or.inr h96))
  refine x_aload_n (pc := 86) C 0 rfl dX12_init_86 rfl ?_
  refine x_bipush (pc := 87) C (10 : Int32) dX12_init_87 (by decide) ?_
  refine x_newaG (pc := 89) C (kd := 214) (N := 10) 1 rfl (by decide) dX12_init_89 (tb1 107 rfl rfl) rfl (fun _ => rfl) (by decide) (by decide) (by decide) (by decide) (by decide) (fun a100 z101 => ?_)
  replace hw := hw a100 z101
  refine x_S (fun S102 e103 => ?_)
  replace hw := hw S102 e103
  have q104 := Ks_nA z101 e103
  obtain ⟨h105, hw⟩ := hw
  refine x_putRF (pc := 91) C (v := (some a100)) fw_X12_44 (Ks.k (Ks.trans (Ks.trans (Ks.trans (Ks.trans (Ks.trans (Ks.trans (Ks.trans (Ks.trans (Ks.trans (Ks.trans (Ks.trans (Ks.trans (Ks.trans (Ks.trans (Ks.trans (Ks.trans (Ks.trans (Ks.trans (Ks.trans (Ks.trans (Ks.trans (Ks.trans q5 q9) q14) q18) q23) q27) q32) q36) q41) q45) q50) q54) q59) q63) q68) q72) q77) q81) q86) q90) q95) q99) q104) k_x0) rfl rfl (hin) dX12_init_91 ?_
  refine x_S (fun S106 e107 => ?_)
  replace hw := hw S106 e107
  have q108 := Ks_uR e107 (Or.inr (Or.inr h105))
  refine x_aload_n (pc := 94) C 0 rfl dX12_init_94 rfl ?_
  refine x_bipush (pc := 95) C (10 : Int32) dX12_init_95 (by decide) ?_
  refine x_newaG (pc := 97) C (kd := 215) (N := 10) 1 rfl (by decide) dX12_init_97 (tb1 107 rfl rfl) rfl (fun _ => rfl) (by decide) (by decide) (by decide) (by decide) (by decide) (fun a109 z110 => ?_)
  replace hw := hw a109 z110
  refine x_S (fun S111 e112 => ?_)
  replace hw := hw S111 e112
  have q113 := Ks_nA z110 e112
  obtain ⟨h114, hw⟩ := hw
  refine x_putRF (pc := 99) C (v := (some a109)) fw_X12_47 (Ks.k (Ks.trans (Ks.trans (Ks.trans (Ks.trans (Ks.trans (Ks.trans (Ks.trans (Ks.trans (Ks.trans (Ks.trans (Ks.trans (Ks.trans (Ks.trans (Ks.trans (Ks.trans (Ks.trans (Ks.trans (Ks.trans (Ks.trans (Ks.trans (Ks.trans (Ks.trans (Ks.trans (Ks.trans q5 q9) q14) q18) q23) q27) q32) q36) q41) q45) q50) q54) q59) q63) q68) q72) q77) q81) q86) q90) q95) q99) q104) q108) q113) k_x0) rfl rfl (hin) dX12_init_99 ?_
  refine x_S (fun S115 e116 => ?_)
  replace hw := hw S115 e116
  have q117 := Ks_uR e116 (Or.inr (Or.inr h114))
  refine x_aload_n (pc := 102) C 0 rfl dX12_init_102 rfl ?_
  refine x_bipush (pc := 103) C (10 : Int32) dX12_init_103 (by decide) ?_
  refine x_newaG (pc := 105) C (kd := 216) (N := 10) 1 rfl (by decide) dX12_init_105 (tb1 107 rfl rfl) rfl (fun _ => rfl) (by decide) (by decide) (by decide) (by decide) (by decide) (fun a118 z119 => ?_)
  replace hw := hw a118 z119
  refine x_S (fun S120 e121 => ?_)
  replace hw := hw S120 e121
  have q122 := Ks_nA z119 e121
  obtain ⟨h123, hw⟩ := hw
  refine x_putRF (pc := 107) C (v := (some a118)) fw_X12_50 (Ks.k (Ks.trans (Ks.trans (Ks.trans (Ks.trans (Ks.trans (Ks.trans (Ks.trans (Ks.trans (Ks.trans (Ks.trans (Ks.trans (Ks.trans (Ks.trans (Ks.trans (Ks.trans (Ks.trans (Ks.trans (Ks.trans (Ks.trans (Ks.trans (Ks.trans (Ks.trans (Ks.trans (Ks.trans (Ks.trans (Ks.trans q5 q9) q14) q18) q23) q27) q32) q36) q41) q45) q50) q54) q59) q63) q68) q72) q77) q81) q86) q90) q95) q99) q104) q108) q113) q117) q122) k_x0) rfl rfl (hin) dX12_init_107 ?_
  refine x_S (fun S124 e125 => ?_)
  replace hw := hw S124 e125
  have q126 := Ks_uR e125 (Or.inr (Or.inr h123))
  refine x_aload_n (pc := 110) C 0 rfl dX12_init_110 rfl ?_
  refine x_bipush (pc := 111) C (10 : Int32) dX12_init_111 (by decide) ?_
  refine x_newaG (pc := 113) C (kd := 217) (N := 10) 1 rfl (by decide) dX12_init_113 (tb1 107 rfl rfl) rfl (fun _ => rfl) (by decide) (by decide) (by decide) (by decide) (by decide) (fun a127 z128 => ?_)
  replace hw := hw a127 z128
  refine x_S (fun S129 e130 => ?_)
  replace hw := hw S129 e130
  have q131 := Ks_nA z128 e130
  obtain ⟨h132, hw⟩ := hw
  refine x_putRF (pc := 115) C (v := (some a127)) fw_X12_53 (Ks.k (Ks.trans (Ks.trans (Ks.trans (Ks.trans (Ks.trans (Ks.trans (Ks.trans (Ks.trans (Ks.trans (Ks.trans (Ks.trans (Ks.trans (Ks.trans (Ks.trans (Ks.trans (Ks.trans (Ks.trans (Ks.trans (Ks.trans (Ks.trans (Ks.trans (Ks.trans (Ks.trans (Ks.trans (Ks.trans (Ks.trans (Ks.trans (Ks.trans q5 q9) q14) q18) q23) q27) q32) q36) q41) q45) q50) q54) q59) q63) q68) q72) q77) q81) q86) q90) q95) q99) q104) q108) q113) q117) q122) q126) q131) k_x0) rfl rfl (hin) dX12_init_115 ?_
  refine x_S (fun S133 e134 => ?_)
  replace hw := hw S133 e134
  have q135 := Ks_uR e134 (Or.inr (Or.inr h132))
  refine x_aload_n (pc := 118) C 0 rfl dX12_init_118 rfl ?_
  refine x_bipush (pc := 119) C (10 : Int32) dX12_init_119 (by decide) ?_
  refine x_newaG (pc := 121) C (kd := 218) (N := 10) 1 rfl (by decide) dX12_init_121 (tb1 107 rfl rfl) rfl (fun _ => rfl) (by decide) (by decide) (by decide) (by decide) (by decide) (fun a136 z137 => ?_)
  replace hw := hw a136 z137
  refine x_S (fun S138 e139 => ?_)
  replace hw := hw S138 e139
  have q140 := Ks_nA z137 e139
  obtain ⟨h141, hw⟩ := hw
  refine x_putRF (pc := 123) C (v := (some a136)) fw_X12_56 (Ks.k (Ks.trans (Ks.trans (Ks.trans (Ks.trans (Ks.trans (Ks.trans (Ks.trans (Ks.trans (Ks.trans (Ks.trans (Ks.trans (Ks.trans (Ks.trans (Ks.trans (Ks.trans (Ks.trans (Ks.trans (Ks.trans (Ks.trans (Ks.trans (Ks.trans (Ks.trans (Ks.trans (Ks.trans (Ks.trans (Ks.trans (Ks.trans (Ks.trans (Ks.trans (Ks.trans q5 q9) q14) q18) q23) q27) q32) q36) q41) q45) q50) q54) q59) q63) q68) q72) q77) q81) q86) q90) q95) q99) q104) q108) q113) q117) q122) q126) q131) q135) q140) k_x0) rfl rfl (hin) dX12_init_123 ?_
  refine x_S (fun S142 e143 => ?_)
  replace hw := hw S142 e143
  have q144 := Ks_uR e143 (Or.inr (Or.inr h141))
  refine x_aload_n (pc := 126) C 0 rfl dX12_init_126 rfl ?_
  refine x_bipush (pc := 127) C (10 : Int32) dX12_init_127 (by decide) ?_
  refine x_newaG (pc := 129) C (kd := 219) (N := 10) 1 rfl (by decide) dX12_init_129 (tb1 107 rfl rfl) rfl (fun _ => rfl) (by decide) (by decide) (by decide) (by decide) (by decide) (fun a145 z146 => ?_)
  replace hw := hw a145 z146
  refine x_S (fun S147 e148 => ?_)
  replace hw := hw S147 e148
  have q149 := Ks_nA z146 e148
  obtain ⟨h150, hw⟩ := hw
  refine x_putRF (pc := 131) C (v := (some a145)) fw_X12_59 (Ks.k (Ks.trans (Ks.trans (Ks.trans (Ks.trans (Ks.trans (Ks.trans (Ks.trans (Ks.trans (Ks.trans (Ks.trans (Ks.trans (Ks.trans (Ks.trans (Ks.trans (Ks.trans (Ks.trans (Ks.trans (Ks.trans (Ks.trans (Ks.trans (Ks.trans (Ks.trans (Ks.trans (Ks.trans (Ks.trans (Ks.trans (Ks.trans (Ks.trans (Ks.trans (Ks.trans (Ks.trans (Ks.trans q5 q9) q14) q18) q23) q27) q32) q36) q41) q45) q50) q54) q59) q63) q68) q72) q77) q81) q86) q90) q95) q99) q104) q108) q113) q117) q122) q126) q131) q135) q140) q144) q149) k_x0) rfl rfl (hin) dX12_init_131 ?_
  refine x_S (fun S151 e152 => ?_)
  replace hw := hw S151 e152
  have q153 := Ks_uR e152 (Or.inr (Or.inr h150))
  refine x_aload_n (pc := 134) C 0 rfl dX12_init_134 rfl ?_
  refine x_bipush (pc := 135) C (10 : Int32) dX12_init_135 (by decide) ?_
  refine x_newaG (pc := 137) C (kd := 320) (N := 10) 2 rfl (by decide) dX12_init_137 (tb6 69 rfl rfl) rfl (fun _ => rfl) (by decide) (by decide) (by decide) (by decide) (by decide) (fun a154 z155 => ?_)
  replace hw := hw a154 z155
  refine x_S (fun S156 e157 => ?_)
  replace hw := hw S156 e157
  have q158 := Ks_nA z155 e157
  obtain ⟨h159, hw⟩ := hw
  refine x_putRF (pc := 139) C (v := (some a154)) fw_X12_62 (Ks.k (Ks.trans (Ks.trans (Ks.trans (Ks.trans (Ks.trans (Ks.trans (Ks.trans (Ks.trans (Ks.trans (Ks.trans (Ks.trans (Ks.trans (Ks.trans (Ks.trans (Ks.trans (Ks.trans (Ks.trans (Ks.trans (Ks.trans (Ks.trans (Ks.trans (Ks.trans (Ks.trans (Ks.trans (Ks.trans (Ks.trans (Ks.trans (Ks.trans (Ks.trans (Ks.trans (Ks.trans (Ks.trans (Ks.trans (Ks.trans q5 q9) q14) q18) q23) q27) q32) q36) q41) q45) q50) q54) q59) q63) q68) q72) q77) q81) q86) q90) q95) q99) q104) q108) q113) q117) q122) q126) q131) q135) q140) q144) q149) q153) q158) k_x0) rfl rfl (hin) dX12_init_139 ?_
  refine x_S (fun S160 e161 => ?_)
  replace hw := hw S160 e161
  have q162 := Ks_uR e161 (Or.inr (Or.inr h159))
  refine x_aload_n (pc := 142) C 0 rfl dX12_init_142 rfl ?_
  refine x_bipush (pc := 143) C (6 : Int32) dX12_init_143 (by decide) ?_
  refine x_newaG (pc := 145) C (kd := 222) (N := 6) 1 rfl (by decide) dX12_init_145 (tb1 107 rfl rfl) rfl (fun _ => rfl) (by decide) (by decide) (by decide) (by decide) (by decide) (fun a163 z164 => ?_)
  replace hw := hw a163 z164
  refine x_S (fun S165 e166 => ?_)
  replace hw := hw S165 e166
  have q167 := Ks_nA z164 e166
  obtain ⟨h168, hw⟩ := hw
  refine x_putRF (pc := 147) C (v := (some a163)) fw_X12_66 (Ks.k (Ks.trans (Ks.trans (Ks.trans (Ks.trans (Ks.trans (Ks.trans (Ks.trans (Ks.trans (Ks.trans (Ks.trans (Ks.trans (Ks.trans (Ks.trans (Ks.trans (Ks.trans (Ks.trans (Ks.trans (Ks.trans (Ks.trans (Ks.trans (Ks.trans (Ks.trans (Ks.trans (Ks.trans (Ks.trans (Ks.trans (Ks.trans (Ks.trans (Ks.trans (Ks.trans (Ks.trans (Ks.trans (Ks.trans (Ks.trans (Ks.trans (Ks.trans q5 q9) q14) q18) q23) q27) q32) q36) q41) q45) q50) q54) q59) q63) q68) q72) q77) q81) q86) q90) q95) q99) q104) q108) q113) q117) q122) q126) q131) q135) q140) q144) q149) q153) q158) q162) q167) k_x0) rfl rfl (hin) dX12_init_147 ?_
  refine x_S (fun S169 e170 => ?_)
  replace hw := hw S169 e170
  have q171 := Ks_uR e170 (Or.inr (Or.inr h168))
  refine x_aload_n (pc := 150) C 0 rfl dX12_init_150 rfl ?_
  refine x_sipush (pc := 151) C (160 : Int32) dX12_init_151 (by decide) ?_
  refine x_newaG (pc := 154) C (kd := 223) (N := 160) 1 rfl (by decide) dX12_init_154 (tb1 107 rfl rfl) rfl (fun _ => rfl) (by decide) (by decide) (by decide) (by decide) (by decide) (fun a172 z173 => ?_)
  replace hw := hw a172 z173
  refine x_S (fun S174 e175 => ?_)
  replace hw := hw S174 e175
  have q176 := Ks_nA z173 e175
  obtain ⟨h177, hw⟩ := hw
  refine x_putRF (pc := 156) C (v := (some a172)) fw_X12_69 (Ks.k (Ks.trans (Ks.trans (Ks.trans (Ks.trans (Ks.trans (Ks.trans (Ks.trans (Ks.trans (Ks.trans (Ks.trans (Ks.trans (Ks.trans (Ks.trans (Ks.trans (Ks.trans (Ks.trans (Ks.trans (Ks.trans (Ks.trans (Ks.trans (Ks.trans (Ks.trans (Ks.trans (Ks.trans (Ks.trans (Ks.trans (Ks.trans (Ks.trans (Ks.trans (Ks.trans (Ks.trans (Ks.trans (Ks.trans (Ks.trans (Ks.trans (Ks.trans (Ks.trans (Ks.trans q5 q9) q14) q18) q23) q27) q32) q36) q41) q45) q50) q54) q59) q63) q68) q72) q77) q81) q86) q90) q95) q99) q104) q108) q113) q117) q122) q126) q131) q135) q140) q144) q149) q153) q158) q162) q167) q171) q176) k_x0) rfl rfl (hin) dX12_init_156 ?_
  refine x_S (fun S178 e179 => ?_)
  replace hw := hw S178 e179
  have q180 := Ks_uR e179 (Or.inr (Or.inr h177))
  refine x_aload_n (pc := 159) C 0 rfl dX12_init_159 rfl ?_
  refine x_sipush (pc := 160) C (1120 : Int32) dX12_init_160 (by decide) ?_
  refine x_newaG (pc := 163) C (kd := 226) (N := 1120) 1 rfl (by decide) dX12_init_163 (tb1 107 rfl rfl) rfl (fun _ => rfl) (by decide) (by decide) (by decide) (by decide) (by decide) (fun a181 z182 => ?_)
  replace hw := hw a181 z182
  refine x_S (fun S183 e184 => ?_)
  replace hw := hw S183 e184
  have q185 := Ks_nA z182 e184
  obtain ⟨h186, hw⟩ := hw
  refine x_putRF (pc := 165) C (v := (some a181)) fw_X12_72 (Ks.k (Ks.trans (Ks.trans (Ks.trans (Ks.trans (Ks.trans (Ks.trans (Ks.trans (Ks.trans (Ks.trans (Ks.trans (Ks.trans (Ks.trans (Ks.trans (Ks.trans (Ks.trans (Ks.trans (Ks.trans (Ks.trans (Ks.trans (Ks.trans (Ks.trans (Ks.trans (Ks.trans (Ks.trans (Ks.trans (Ks.trans (Ks.trans (Ks.trans (Ks.trans (Ks.trans (Ks.trans (Ks.trans (Ks.trans (Ks.trans (Ks.trans (Ks.trans (Ks.trans (Ks.trans (Ks.trans (Ks.trans q5 q9) q14) q18) q23) q27) q32) q36) q41) q45) q50) q54) q59) q63) q68) q72) q77) q81) q86) q90) q95) q99) q104) q108) q113) q117) q122) q126) q131) q135) q140) q144) q149) q153) q158) q162) q167) q171) q176) q180) q185) k_x0) rfl rfl (hin) dX12_init_165 ?_
  refine x_S (fun S187 e188 => ?_)
  replace hw := hw S187 e188
  have q189 := Ks_uR e188 (Or.inr (Or.inr h186))
  refine x_aload_n (pc := 168) C 0 rfl dX12_init_168 rfl ?_
  refine x_sipush (pc := 169) C (1120 : Int32) dX12_init_169 (by decide) ?_
  refine x_newaG (pc := 172) C (kd := 227) (N := 1120) 1 rfl (by decide) dX12_init_172 (tb1 107 rfl rfl) rfl (fun _ => rfl) (by decide) (by decide) (by decide) (by decide) (by decide) (fun a190 z191 => ?_)
  replace hw := hw a190 z191
  refine x_S (fun S192 e193 => ?_)
  replace hw := hw S192 e193
  have q194 := Ks_nA z191 e193
  obtain ⟨h195, hw⟩ := hw
  refine x_putRF (pc := 174) C (v := (some a190)) fw_X12_75 (Ks.k (Ks.trans (Ks.trans (Ks.trans (Ks.trans (Ks.trans (Ks.trans (Ks.trans (Ks.trans (Ks.trans (Ks.trans (Ks.trans (Ks.trans (Ks.trans (Ks.trans (Ks.trans (Ks.trans (Ks.trans (Ks.trans (Ks.trans (Ks.trans (Ks.trans (Ks.trans (Ks.trans (Ks.trans (Ks.trans (Ks.trans (Ks.trans (Ks.trans (Ks.trans (Ks.trans (Ks.trans (Ks.trans (Ks.trans (Ks.trans (Ks.trans (Ks.trans (Ks.trans (Ks.trans (Ks.trans (Ks.trans (Ks.trans (Ks.trans q5 q9) q14) q18) q23) q27) q32) q36) q41) q45) q50) q54) q59) q63) q68) q72) q77) q81) q86) q90) q95) q99) q104) q108) q113) q117) q122) q126) q131) q135) q140) q144) q149) q153) q158) q162) q167) q171) q176) q180) q185) q189) q194) k_x0) rfl rfl (hin) dX12_init_174 ?_
  refine x_S (fun S196 e197 => ?_)
  replace hw := hw S196 e197
  have q198 := Ks_uR e197 (Or.inr (Or.inr h195))
  refine x_aload_n (pc := 177) C 0 rfl dX12_init_177 rfl ?_
  refine x_bipush (pc := 178) C (21 : Int32) dX12_init_178 (by decide) ?_
  refine x_newaG (pc := 180) C (kd := 228) (N := 21) 1 rfl (by decide) dX12_init_180 (tb1 107 rfl rfl) rfl (fun _ => rfl) (by decide) (by decide) (by decide) (by decide) (by decide) (fun a199 z200 => ?_)
  replace hw := hw a199 z200
  refine x_S (fun S201 e202 => ?_)
  replace hw := hw S201 e202
  have q203 := Ks_nA z200 e202
  obtain ⟨h204, hw⟩ := hw
  refine x_putRF (pc := 182) C (v := (some a199)) fw_X12_78 (Ks.k (Ks.trans (Ks.trans (Ks.trans (Ks.trans (Ks.trans (Ks.trans (Ks.trans (Ks.trans (Ks.trans (Ks.trans (Ks.trans (Ks.trans (Ks.trans (Ks.trans (Ks.trans (Ks.trans (Ks.trans (Ks.trans (Ks.trans (Ks.trans (Ks.trans (Ks.trans (Ks.trans (Ks.trans (Ks.trans (Ks.trans (Ks.trans (Ks.trans (Ks.trans (Ks.trans (Ks.trans (Ks.trans (Ks.trans (Ks.trans (Ks.trans (Ks.trans (Ks.trans (Ks.trans (Ks.trans (Ks.trans (Ks.trans (Ks.trans (Ks.trans (Ks.trans q5 q9) q14) q18) q23) q27) q32) q36) q41) q45) q50) q54) q59) q63) q68) q72) q77) q81) q86) q90) q95) q99) q104) q108) q113) q117) q122) q126) q131) q135) q140) q144) q149) q153) q158) q162) q167) q171) q176) q180) q185) q189) q194) q198) q203) k_x0) rfl rfl (hin) dX12_init_182 ?_
  refine x_S (fun S205 e206 => ?_)
  replace hw := hw S205 e206
  have q207 := Ks_uR e206 (Or.inr (Or.inr h204))
  refine x_aload_n (pc := 185) C 0 rfl dX12_init_185 rfl ?_
  refine x_bipush (pc := 186) C (12 : Int32) dX12_init_186 (by decide) ?_
  refine x_newaG (pc := 188) C (kd := 230) (N := 12) 1 rfl (by decide) dX12_init_188 (tb1 107 rfl rfl) rfl (fun _ => rfl) (by decide) (by decide) (by decide) (by decide) (by decide) (fun a208 z209 => ?_)
  replace hw := hw a208 z209
  refine x_S (fun S210 e211 => ?_)
  replace hw := hw S210 e211
  have q212 := Ks_nA z209 e211
  obtain ⟨h213, hw⟩ := hw
  refine x_putRF (pc := 190) C (v := (some a208)) fw_X12_81 (Ks.k (Ks.trans (Ks.trans (Ks.trans (Ks.trans (Ks.trans (Ks.trans (Ks.trans (Ks.trans (Ks.trans (Ks.trans (Ks.trans (Ks.trans (Ks.trans (Ks.trans (Ks.trans (Ks.trans (Ks.trans (Ks.trans (Ks.trans (Ks.trans (Ks.trans (Ks.trans (Ks.trans (Ks.trans (Ks.trans (Ks.trans (Ks.trans (Ks.trans (Ks.trans (Ks.trans (Ks.trans (Ks.trans (Ks.trans (Ks.trans (Ks.trans (Ks.trans (Ks.trans (Ks.trans (Ks.trans (Ks.trans (Ks.trans (Ks.trans (Ks.trans (Ks.trans (Ks.trans (Ks.trans q5 q9) q14) q18) q23) q27) q32) q36) q41) q45) q50) q54) q59) q63) q68) q72) q77) q81) q86) q90) q95) q99) q104) q108) q113) q117) q122) q126) q131) q135) q140) q144) q149) q153) q158) q162) q167) q171) q176) q180) q185) q189) q194) q198) q203) q207) q212) k_x0) rfl rfl (hin) dX12_init_190 ?_
  refine x_S (fun S214 e215 => ?_)
  replace hw := hw S214 e215
  have q216 := Ks_uR e215 (Or.inr (Or.inr h213))
  refine x_aload_n (pc := 193) C 0 rfl dX12_init_193 rfl ?_
  refine x_bipush (pc := 194) C (12 : Int32) dX12_init_194 (by decide) ?_
  refine x_newaG (pc := 196) C (kd := 231) (N := 12) 1 rfl (by decide) dX12_init_196 (tb1 107 rfl rfl) rfl (fun _ => rfl) (by decide) (by decide) (by decide) (by decide) (by decide) (fun a217 z218 => ?_)
  replace hw := hw a217 z218
  refine x_S (fun S219 e220 => ?_)
  replace hw := hw S219 e220
  have q221 := Ks_nA z218 e220
  obtain ⟨h222, hw⟩ := hw
  refine x_putRF (pc := 198) C (v := (some a217)) fw_X12_84 (Ks.k (Ks.trans (Ks.trans (Ks.trans (Ks.trans (Ks.trans (Ks.trans (Ks.trans (Ks.trans (Ks.trans (Ks.trans (Ks.trans (Ks.trans (Ks.trans (Ks.trans (Ks.trans (Ks.trans (Ks.trans (Ks.trans (Ks.trans (Ks.trans (Ks.trans (Ks.trans (Ks.trans (Ks.trans (Ks.trans (Ks.trans (Ks.trans (Ks.trans (Ks.trans (Ks.trans (Ks.trans (Ks.trans (Ks.trans (Ks.trans (Ks.trans (Ks.trans (Ks.trans (Ks.trans (Ks.trans (Ks.trans (Ks.trans (Ks.trans (Ks.trans (Ks.trans (Ks.trans (Ks.trans (Ks.trans (Ks.trans q5 q9) q14) q18) q23) q27) q32) q36) q41) q45) q50) q54) q59) q63) q68) q72) q77) q81) q86) q90) q95) q99) q104) q108) q113) q117) q122) q126) q131) q135) q140) q144) q149) q153) q158) q162) q167) q171) q176) q180) q185) q189) q194) q198) q203) q207) q212) q216) q221) k_x0) rfl rfl (hin) dX12_init_198 ?_
  refine x_S (fun S223 e224 => ?_)
  replace hw := hw S223 e224
  have q225 := Ks_uR e224 (Or.inr (Or.inr h222))
  refine x_aload_n (pc := 201) C 0 rfl dX12_init_201 rfl ?_
  refine x_bipush (pc := 202) C (12 : Int32) dX12_init_202 (by decide) ?_
  refine x_newaG (pc := 204) C (kd := 232) (N := 12) 1 rfl (by decide) dX12_init_204 (tb1 107 rfl rfl) rfl (fun _ => rfl) (by decide) (by decide) (by decide) (by decide) (by decide) (fun a226 z227 => ?_)
  replace hw := hw a226 z227
  refine x_S (fun S228 e229 => ?_)
  replace hw := hw S228 e229
  have q230 := Ks_nA z227 e229
  obtain ⟨h231, hw⟩ := hw
  refine x_putRF (pc := 206) C (v := (some a226)) fw_X12_87 (Ks.k (Ks.trans (Ks.trans (Ks.trans (Ks.trans (Ks.trans (Ks.trans (Ks.trans (Ks.trans (Ks.trans (Ks.trans (Ks.trans (Ks.trans (Ks.trans (Ks.trans (Ks.trans (Ks.trans (Ks.trans (Ks.trans (Ks.trans (Ks.trans (Ks.trans (Ks.trans (Ks.trans (Ks.trans (Ks.trans (Ks.trans (Ks.trans (Ks.trans (Ks.trans (Ks.trans (Ks.trans (Ks.trans (Ks.trans (Ks.trans (Ks.trans (Ks.trans (Ks.trans (Ks.trans (Ks.trans (Ks.trans (Ks.trans (Ks.trans (Ks.trans (Ks.trans (Ks.trans (Ks.trans (Ks.trans (Ks.trans (Ks.trans (Ks.trans q5 q9) q14) q18) q23) q27) q32) q36) q41) q45) q50) q54) q59) q63) q68) q72) q77) q81) q86) q90) q95) q99) q104) q108) q113) q117) q122) q126) q131) q135) q140) q144) q149) q153) q158) q162) q167) q171) q176) q180) q185) q189) q194) q198) q203) q207) q212) q216) q221) q225) q230) k_x0) rfl rfl (hin) dX12_init_206 ?_
  refine x_S (fun S232 e233 => ?_)
  replace hw := hw S232 e233
  have q234 := Ks_uR e233 (Or.inr (Or.inr h231))
  refine x_aload_n (pc := 209) C 0 rfl dX12_init_209 rfl ?_
  refine x_bipush (pc := 210) C (12 : Int32) dX12_init_210 (by decide) ?_
  refine x_newaG (pc := 212) C (kd := 233) (N := 12) 1 rfl (by decide) dX12_init_212 (tb1 107 rfl rfl) rfl (fun _ => rfl) (by decide) (by decide) (by decide) (by decide) (by decide) (fun a235 z236 => ?_)
  replace hw := hw a235 z236
  refine x_S (fun S237 e238 => ?_)
  replace hw := hw S237 e238
  have q239 := Ks_nA z236 e238
  obtain ⟨h240, hw⟩ := hw
  refine x_putRF (pc := 214) C (v := (some a235)) fw_X12_90 (Ks.k (Ks.trans (Ks.trans (Ks.trans (Ks.trans (Ks.trans (Ks.trans (Ks.trans (Ks.trans (Ks.trans (Ks.trans (Ks.trans (Ks.trans (Ks.trans (Ks.trans (Ks.trans (Ks.trans (Ks.trans (Ks.trans (Ks.trans (Ks.trans (Ks.trans (Ks.trans (Ks.trans (Ks.trans (Ks.trans (Ks.trans (Ks.trans (Ks.trans (Ks.trans (Ks.trans (Ks.trans (Ks.trans (Ks.trans (Ks.trans (Ks.trans (Ks.trans (Ks.trans (Ks.trans (Ks.trans (Ks.trans (Ks.trans (Ks.trans (Ks.trans (Ks.trans (Ks.trans (Ks.trans (Ks.trans (Ks.trans (Ks.trans (Ks.trans (Ks.trans (Ks.trans q5 q9) q14) q18) q23) q27) q32) q36) q41) q45) q50) q54) q59) q63) q68) q72) q77) q81) q86) q90) q95) q99) q104) q108) q113) q117) q122) q126) q131) q135) q140) q144) q149) q153) q158) q162) q167) q171) q176) q180) q185) q189) q194) q198) q203) q207) q212) q216) q221) q225) q230) q234) q239) k_x0) rfl rfl (hin) dX12_init_214 ?_
  refine x_S (fun S241 e242 => ?_)
  replace hw := hw S241 e242
  have q243 := Ks_uR e242 (Or.inr (Or.inr h240))
  refine x_aload_n (pc := 217) C 0 rfl dX12_init_217 rfl ?_
  refine x_bipush (pc := 218) C (12 : Int32) dX12_init_218 (by decide) ?_
  refine x_newaG (pc := 220) C (kd := 234) (N := 12) 1 rfl (by decide) dX12_init_220 (tb1 107 rfl rfl) rfl (fun _ => rfl) (by decide) (by decide) (by decide) (by decide) (by decide) (fun a244 z245 => ?_)
  replace hw := hw a244 z245
  refine x_S (fun S246 e247 => ?_)
  replace hw := hw S246 e247
  have q248 := Ks_nA z245 e247
  obtain ⟨h249, hw⟩ := hw
  refine x_putRF (pc := 222) C (v := (some a244)) fw_X12_93 (Ks.k (Ks.trans (Ks.trans (Ks.trans (Ks.trans (Ks.trans (Ks.trans (Ks.trans (Ks.trans (Ks.trans (Ks.trans (Ks.trans (Ks.trans (Ks.trans (Ks.trans (Ks.trans (Ks.trans (Ks.trans (Ks.trans (Ks.trans (Ks.trans (Ks.trans (Ks.trans (Ks.trans (Ks.trans (Ks.trans (Ks.trans (Ks.trans (Ks.trans (Ks.trans (Ks.trans (Ks.trans (Ks.trans (Ks.trans (Ks.trans (Ks.trans (Ks.trans (Ks.trans (Ks.trans (Ks.trans (Ks.trans (Ks.trans (Ks.trans (Ks.trans (Ks.trans (Ks.trans (Ks.trans (Ks.trans (Ks.trans (Ks.trans (Ks.trans (Ks.trans (Ks.trans (Ks.trans (Ks.trans q5 q9) q14) q18) q23) q27) q32) q36) q41) q45) q50) q54) q59) q63) q68) q72) q77) q81) q86) q90) q95) q99) q104) q108) q113) q117) q122) q126) q131) q135) q140) q144) q149) q153) q158) q162) q167) q171) q176) q180) q185) q189) q194) q198) q203) q207) q212) q216) q221) q225) q230) q234) q239) q243) q248) k_x0) rfl rfl (hin) dX12_init_222 ?_
  refine x_S (fun S250 e251 => ?_)
  replace hw := hw S250 e251
  have q252 := Ks_uR e251 (Or.inr (Or.inr h249))
  refine x_aload_n (pc := 225) C 0 rfl dX12_init_225 rfl ?_
  refine x_bipush (pc := 226) C (12 : Int32) dX12_init_226 (by decide) ?_
  refine x_newaG (pc := 228) C (kd := 235) (N := 12) 1 rfl (by decide) dX12_init_228 (tb1 107 rfl rfl) rfl (fun _ => rfl) (by decide) (by decide) (by decide) (by decide) (by decide) (fun a253 z254 => ?_)
  replace hw := hw a253 z254
  refine x_S (fun S255 e256 => ?_)
  replace hw := hw S255 e256
  have q257 := Ks_nA z254 e256
  obtain ⟨h258, hw⟩ := hw
  refine x_putRF (pc := 230) C (v := (some a253)) fw_X12_96 (Ks.k (Ks.trans (Ks.trans (Ks.trans (Ks.trans (Ks.trans (Ks.trans (Ks.trans (Ks.trans (Ks.trans (Ks.trans (Ks.trans (Ks.trans (Ks.trans (Ks.trans (Ks.trans (Ks.trans (Ks.trans (Ks.trans (Ks.trans (Ks.trans (Ks.trans (Ks.trans (Ks.trans (Ks.trans (Ks.trans (Ks.trans (Ks.trans (Ks.trans (Ks.trans (Ks.trans (Ks.trans (Ks.trans (Ks.trans (Ks.trans (Ks.trans (Ks.trans (Ks.trans (Ks.trans (Ks.trans (Ks.trans (Ks.trans (Ks.trans (Ks.trans (Ks.trans (Ks.trans (Ks.trans (Ks.trans (Ks.trans (Ks.trans (Ks.trans (Ks.trans (Ks.trans (Ks.trans (Ks.trans (Ks.trans (Ks.trans q5 q9) q14) q18) q23) q27) q32) q36) q41) q45) q50) q54) q59) q63) q68) q72) q77) q81) q86) q90) q95) q99) q104) q108) q113) q117) q122) q126) q131) q135) q140) q144) q149) q153) q158) q162) q167) q171) q176) q180) q185) q189) q194) q198) q203) q207) q212) q216) q221) q225) q230) q234) q239) q243) q248) q252) q257) k_x0) rfl rfl (hin) dX12_init_230 ?_
  refine x_S (fun S259 e260 => ?_)
  replace hw := hw S259 e260
  have q261 := Ks_uR e260 (Or.inr (Or.inr h258))
  refine x_aload_n (pc := 233) C 0 rfl dX12_init_233 rfl ?_
  refine x_bipush (pc := 234) C (12 : Int32) dX12_init_234 (by decide) ?_
  refine x_newaG (pc := 236) C (kd := 236) (N := 12) 1 rfl (by decide) dX12_init_236 (tb1 107 rfl rfl) rfl (fun _ => rfl) (by decide) (by decide) (by decide) (by decide) (by decide) (fun a262 z263 => ?_)
  replace hw := hw a262 z263
  refine x_S (fun S264 e265 => ?_)
  replace hw := hw S264 e265
  have q266 := Ks_nA z263 e265
  obtain ⟨h267, hw⟩ := hw
  refine x_putRF (pc := 238) C (v := (some a262)) fw_X12_99 (Ks.k (Ks.trans (Ks.trans (Ks.trans (Ks.trans (Ks.trans (Ks.trans (Ks.trans (Ks.trans (Ks.trans (Ks.trans (Ks.trans (Ks.trans (Ks.trans (Ks.trans (Ks.trans (Ks.trans (Ks.trans (Ks.trans (Ks.trans (Ks.trans (Ks.trans (Ks.trans (Ks.trans (Ks.trans (Ks.trans (Ks.trans (Ks.trans (Ks.trans (Ks.trans (Ks.trans (Ks.trans (Ks.trans (Ks.trans (Ks.trans (Ks.trans (Ks.trans (Ks.trans (Ks.trans (Ks.trans (Ks.trans (Ks.trans (Ks.trans (Ks.trans (Ks.trans (Ks.trans (Ks.trans (Ks.trans (Ks.trans (Ks.trans (Ks.trans (Ks.trans (Ks.trans (Ks.trans (Ks.trans (Ks.trans (Ks.trans (Ks.trans (Ks.trans q5 q9) q14) q18) q23) q27) q32) q36) q41) q45) q50) q54) q59) q63) q68) q72) q77) q81) q86) q90) q95) q99) q104) q108) q113) q117) q122) q126) q131) q135) q140) q144) q149) q153) q158) q162) q167) q171) q176) q180) q185) q189) q194) q198) q203) q207) q212) q216) q221) q225) q230) q234) q239) q243) q248) q252) q257) q261) q266) k_x0) rfl rfl (hin) dX12_init_238 ?_
  refine x_S (fun S268 e269 => ?_)
  replace hw := hw S268 e269
  have q270 := Ks_uR e269 (Or.inr (Or.inr h267))
  refine x_aload_n (pc := 241) C 0 rfl dX12_init_241 rfl ?_
  refine x_bipush (pc := 242) C (12 : Int32) dX12_init_242 (by decide) ?_
  refine x_newaG (pc := 244) C (kd := 237) (N := 12) 1 rfl (by decide) dX12_init_244 (tb1 107 rfl rfl) rfl (fun _ => rfl) (by decide) (by decide) (by decide) (by decide) (by decide) (fun a271 z272 => ?_)
  replace hw := hw a271 z272
  refine x_S (fun S273 e274 => ?_)
  replace hw := hw S273 e274
  have q275 := Ks_nA z272 e274
  obtain ⟨h276, hw⟩ := hw
  refine x_putRF (pc := 246) C (v := (some a271)) fw_X12_102 (Ks.k (Ks.trans (Ks.trans (Ks.trans (Ks.trans (Ks.trans (Ks.trans (Ks.trans (Ks.trans (Ks.trans (Ks.trans (Ks.trans (Ks.trans (Ks.trans (Ks.trans (Ks.trans (Ks.trans (Ks.trans (Ks.trans (Ks.trans (Ks.trans (Ks.trans (Ks.trans (Ks.trans (Ks.trans (Ks.trans (Ks.trans (Ks.trans (Ks.trans (Ks.trans (Ks.trans (Ks.trans (Ks.trans (Ks.trans (Ks.trans (Ks.trans (Ks.trans (Ks.trans (Ks.trans (Ks.trans (Ks.trans (Ks.trans (Ks.trans (Ks.trans (Ks.trans (Ks.trans (Ks.trans (Ks.trans (Ks.trans (Ks.trans (Ks.trans (Ks.trans (Ks.trans (Ks.trans (Ks.trans (Ks.trans (Ks.trans (Ks.trans (Ks.trans (Ks.trans (Ks.trans q5 q9) q14) q18) q23) q27) q32) q36) q41) q45) q50) q54) q59) q63) q68) q72) q77) q81) q86) q90) q95) q99) q104) q108) q113) q117) q122) q126) q131) q135) q140) q144) q149) q153) q158) q162) q167) q171) q176) q180) q185) q189) q194) q198) q203) q207) q212) q216) q221) q225) q230) q234) q239) q243) q248) q252) q257) q261) q266) q270) q275) k_x0) rfl rfl (hin) dX12_init_246 ?_
  refine x_S (fun S277 e278 => ?_)
  replace hw := hw S277 e278
  have q279 := Ks_uR e278 (Or.inr (Or.inr h276))
  refine x_aload_n (pc := 249) C 0 rfl dX12_init_249 rfl ?_
  refine x_bipush (pc := 250) C (12 : Int32) dX12_init_250 (by decide) ?_
  refine x_newaG (pc := 252) C (kd := 238) (N := 12) 1 rfl (by decide) dX12_init_252 (tb1 107 rfl rfl) rfl (fun _ => rfl) (by decide) (by decide) (by decide) (by decide) (by decide) (fun a280 z281 => ?_)
  replace hw := hw a280 z281
  refine x_S (fun S282 e283 => ?_)
  replace hw := hw S282 e283
  have q284 := Ks_nA z281 e283
  obtain ⟨h285, hw⟩ := hw
  refine x_putRF (pc := 254) C (v := (some a280)) fw_X12_105 (Ks.k (Ks.trans (Ks.trans (Ks.trans (Ks.trans (Ks.trans (Ks.trans (Ks.trans (Ks.trans (Ks.trans (Ks.trans (Ks.trans (Ks.trans (Ks.trans (Ks.trans (Ks.trans (Ks.trans (Ks.trans (Ks.trans (Ks.trans (Ks.trans (Ks.trans (Ks.trans (Ks.trans (Ks.trans (Ks.trans (Ks.trans (Ks.trans (Ks.trans (Ks.trans (Ks.trans (Ks.trans (Ks.trans (Ks.trans (Ks.trans (Ks.trans (Ks.trans (Ks.trans (Ks.trans (Ks.trans (Ks.trans (Ks.trans (Ks.trans (Ks.trans (Ks.trans (Ks.trans (Ks.trans (Ks.trans (Ks.trans (Ks.trans (Ks.trans (Ks.trans (Ks.trans (Ks.trans (Ks.trans (Ks.trans (Ks.trans (Ks.trans (Ks.trans (Ks.trans (Ks.trans (Ks.trans (Ks.trans q5 q9) q14) q18) q23) q27) q32) q36) q41) q45) q50) q54) q59) q63) q68) q72) q77) q81) q86) q90) q95) q99) q104) q108) q113) q117) q122) q126) q131) q135) q140) q144) q149) q153) q158) q162) q167) q171) q176) q180) q185) q189) q194) q198) q203) q207) q212) q216) q221) q225) q230) q234) q239) q243) q248) q252) q257) q261) q266) q270) q275) q279) q284) k_x0) rfl rfl (hin) dX12_init_254 ?_
  refine x_S (fun S286 e287 => ?_)
  replace hw := hw S286 e287
  have q288 := Ks_uR e287 (Or.inr (Or.inr h285))
  refine x_aload_n (pc := 257) C 0 rfl dX12_init_257 rfl ?_
  refine x_iconst (pc := 258) C (4 : Int32) dX12_init_258 (by decide) ?_
  refine x_newaG (pc := 259) C (kd := 239) (N := 4) 1 rfl (by decide) dX12_init_259 (tb1 107 rfl rfl) rfl (fun _ => rfl) (by decide) (by decide) (by decide) (by decide) (by decide) (fun a289 z290 => ?_)
  replace hw := hw a289 z290
  refine x_S (fun S291 e292 => ?_)
  replace hw := hw S291 e292
  have q293 := Ks_nA z290 e292
  obtain ⟨h294, hw⟩ := hw
  refine x_putRF (pc := 261) C (v := (some a289)) fw_X12_108 (Ks.k (Ks.trans (Ks.trans (Ks.trans (Ks.trans (Ks.trans (Ks.trans (Ks.trans (Ks.trans (Ks.trans (Ks.trans (Ks.trans (Ks.trans (Ks.trans (Ks.trans (Ks.trans (Ks.trans (Ks.trans (Ks.trans (Ks.trans (Ks.trans (Ks.trans (Ks.trans (Ks.trans (Ks.trans (Ks.trans (Ks.trans (Ks.trans (Ks.trans (Ks.trans (Ks.trans (Ks.trans (Ks.trans (Ks.trans (Ks.trans (Ks.trans (Ks.trans (Ks.trans (Ks.trans (Ks.trans (Ks.trans (Ks.trans (Ks.trans (Ks.trans (Ks.trans (Ks.trans (Ks.trans (Ks.trans (Ks.trans (Ks.trans (Ks.trans (Ks.trans (Ks.trans (Ks.trans (Ks.trans (Ks.trans (Ks.trans (Ks.trans (Ks.trans (Ks.trans (Ks.trans (Ks.trans (Ks.trans (Ks.trans (Ks.trans q5 q9) q14) q18) q23) q27) q32) q36) q41) q45) q50) q54) q59) q63) q68) q72) q77) q81) q86) q90) q95) q99) q104) q108) q113) q117) q122) q126) q131) q135) q140) q144) q149) q153) q158) q162) q167) q171) q176) q180) q185) q189) q194) q198) q203) q207) q212) q216) q221) q225) q230) q234) q239) q243) q248) q252) q257) q261) q266) q270) q275) q279) q284) q288) q293) k_x0) rfl rfl (hin) dX12_init_261 ?_
  refine x_S (fun S295 e296 => ?_)
  replace hw := hw S295 e296
  have q297 := Ks_uR e296 (Or.inr (Or.inr h294))
  refine x_aload_n (pc := 264) C 0 rfl dX12_init_264 rfl ?_
  refine x_iconst (pc := 265) C (4 : Int32) dX12_init_265 (by decide) ?_
  refine x_newaG (pc := 266) C (kd := 240) (N := 4) 1 rfl (by decide) dX12_init_266 (tb1 107 rfl rfl) rfl (fun _ => rfl) (by decide) (by decide) (by decide) (by decide) (by decide) (fun a298 z299 => ?_)
  replace hw := hw a298 z299
  refine x_S (fun S300 e301 => ?_)
  replace hw := hw S300 e301
  have q302 := Ks_nA z299 e301
  obtain ⟨h303, hw⟩ := hw
  refine x_putRF (pc := 268) C (v := (some a298)) fw_X12_111 (Ks.k (Ks.trans (Ks.trans (Ks.trans (Ks.trans (Ks.trans (Ks.trans (Ks.trans (Ks.trans (Ks.trans (Ks.trans (Ks.trans (Ks.trans (Ks.trans (Ks.trans (Ks.trans (Ks.trans (Ks.trans (Ks.trans (Ks.trans (Ks.trans (Ks.trans (Ks.trans (Ks.trans (Ks.trans (Ks.trans (Ks.trans (Ks.trans (Ks.trans (Ks.trans (Ks.trans (Ks.trans (Ks.trans (Ks.trans (Ks.trans (Ks.trans (Ks.trans (Ks.trans (Ks.trans (Ks.trans (Ks.trans (Ks.trans (Ks.trans (Ks.trans (Ks.trans (Ks.trans (Ks.trans (Ks.trans (Ks.trans (Ks.trans (Ks.trans (Ks.trans (Ks.trans (Ks.trans (Ks.trans (Ks.trans (Ks.trans (Ks.trans (Ks.trans (Ks.trans (Ks.trans (Ks.trans (Ks.trans (Ks.trans (Ks.trans (Ks.trans (Ks.trans q5 q9) q14) q18) q23) q27) q32) q36) q41) q45) q50) q54) q59) q63) q68) q72) q77) q81) q86) q90) q95) q99) q104) q108) q113) q117) q122) q126) q131) q135) q140) q144) q149) q153) q158) q162) q167) q171) q176) q180) q185) q189) q194) q198) q203) q207) q212) q216) q221) q225) q230) q234) q239) q243) q248) q252) q257) q261) q266) q270) q275) q279) q284) q288) q293) q297) q302) k_x0) rfl rfl (hin) dX12_init_268 ?_
  refine x_S (fun S304 e305 => ?_)
  replace hw := hw S304 e305
  have q306 := Ks_uR e305 (Or.inr (Or.inr h303))
  refine x_aload_n (pc := 271) C 0 rfl dX12_init_271 rfl ?_
  refine x_sipush (pc := 272) C (160 : Int32) dX12_init_272 (by decide) ?_
  refine x_newaG (pc := 275) C (kd := 241) (N := 160) 1 rfl (by decide) dX12_init_275 (tb1 107 rfl rfl) rfl (fun _ => rfl) (by decide) (by decide) (by decide) (by decide) (by decide) (fun a307 z308 => ?_)
  replace hw := hw a307 z308
  refine x_S (fun S309 e310 => ?_)
  replace hw := hw S309 e310
  have q311 := Ks_nA z308 e310
  obtain ⟨h312, hw⟩ := hw
  refine x_putRF (pc := 277) C (v := (some a307)) fw_X12_114 (Ks.k (Ks.trans (Ks.trans (Ks.trans (Ks.trans (Ks.trans (Ks.trans (Ks.trans (Ks.trans (Ks.trans (Ks.trans (Ks.trans (Ks.trans (Ks.trans (Ks.trans (Ks.trans (Ks.trans (Ks.trans (Ks.trans (Ks.trans (Ks.trans (Ks.trans (Ks.trans (Ks.trans (Ks.trans (Ks.trans (Ks.trans (Ks.trans (Ks.trans (Ks.trans (Ks.trans (Ks.trans (Ks.trans (Ks.trans (Ks.trans (Ks.trans (Ks.trans (Ks.trans (Ks.trans (Ks.trans (Ks.trans (Ks.trans (Ks.trans (Ks.trans (Ks.trans (Ks.trans (Ks.trans (Ks.trans (Ks.trans (Ks.trans (Ks.trans (Ks.trans (Ks.trans (Ks.trans (Ks.trans (Ks.trans (Ks.trans (Ks.trans (Ks.trans (Ks.trans (Ks.trans (Ks.trans (Ks.trans (Ks.trans (Ks.trans (Ks.trans (Ks.trans (Ks.trans (Ks.trans q5 q9) q14) q18) q23) q27) q32) q36) q41) q45) q50) q54) q59) q63) q68) q72) q77) q81) q86) q90) q95) q99) q104) q108) q113) q117) q122) q126) q131) q135) q140) q144) q149) q153) q158) q162) q167) q171) q176) q180) q185) q189) q194) q198) q203) q207) q212) q216) q221) q225) q230) q234) q239) q243) q248) q252) q257) q261) q266) q270) q275) q279) q284) q288) q293) q297) q302) q306) q311) k_x0) rfl rfl (hin) dX12_init_277 ?_
  refine x_S (fun S313 e314 => ?_)
  replace hw := hw S313 e314
  have q315 := Ks_uR e314 (Or.inr (Or.inr h312))
  refine x_aload_n (pc := 280) C 0 rfl dX12_init_280 rfl ?_
  refine x_bipush (pc := 281) C (32 : Int32) dX12_init_281 (by decide) ?_
  refine x_newaG (pc := 283) C (kd := 242) (N := 32) 1 rfl (by decide) dX12_init_283 (tb1 107 rfl rfl) rfl (fun _ => rfl) (by decide) (by decide) (by decide) (by decide) (by decide) (fun a316 z317 => ?_)
  replace hw := hw a316 z317
  refine x_S (fun S318 e319 => ?_)
  replace hw := hw S318 e319
  have q320 := Ks_nA z317 e319
  refine x_dup (pc := 285) C dX12_init_285 rfl ?_
  refine x_iconst (pc := 286) C (0 : Int32) dX12_init_286 (by decide) ?_
  refine x_bipush (pc := 287) C (108 : Int32) dX12_init_287 (by decide) ?_
  obtain ⟨h321, hw⟩ := hw
  refine x_iast (pc := 289) (kd := 242) (a := a316) C (gK_nA e319) rfl h321 dX12_init_289 ?_
  refine x_S (fun S322 e323 => ?_)
  replace hw := hw S322 e323
  have q324 := Ks_uA e323
  refine x_dup (pc := 290) C dX12_init_290 rfl ?_
  refine x_iconst (pc := 291) C (1 : Int32) dX12_init_291 (by decide) ?_
  refine x_bipush (pc := 292) C (97 : Int32) dX12_init_292 (by decide) ?_
  obtain ⟨h325, hw⟩ := hw
  refine x_iast (pc := 294) (kd := 242) (a := a316) C (Ks.k q324 (gK_nA e319)) rfl h325 dX12_init_294 ?_
  refine x_S (fun S326 e327 => ?_)
  replace hw := hw S326 e327
  have q328 := Ks_uA e327
  refine x_dup (pc := 295) C dX12_init_295 rfl ?_
  refine x_iconst (pc := 296) C (2 : Int32) dX12_init_296 (by decide) ?_
  refine x_bipush (pc := 297) C (121 : Int32) dX12_init_297 (by decide) ?_
  obtain ⟨h329, hw⟩ := hw
  refine x_iast (pc := 299) (kd := 242) (a := a316) C (Ks.k (Ks.trans q324 q328) (gK_nA e319)) rfl h329 dX12_init_299 ?_
  refine x_S (fun S330 e331 => ?_)
  replace hw := hw S330 e331
  have q332 := Ks_uA e331
  refine x_dup (pc := 300) C dX12_init_300 rfl ?_
  refine x_iconst (pc := 301) C (3 : Int32) dX12_init_301 (by decide) ?_
  refine x_bipush (pc := 302) C (32 : Int32) dX12_init_302 (by decide) ?_
  obtain ⟨h333, hw⟩ := hw
  refine x_iast (pc := 304) (kd := 242) (a := a316) C (Ks.k (Ks.trans (Ks.trans q324 q328) q332) (gK_nA e319)) rfl h333 dX12_init_304 ?_
  refine x_S (fun S334 e335 => ?_)
  replace hw := hw S334 e335
  have q336 := Ks_uA e335
  refine x_dup (pc := 305) C dX12_init_305 rfl ?_
  refine x_iconst (pc := 306) C (4 : Int32) dX12_init_306 (by decide) ?_
  refine x_bipush (pc := 307) C (115 : Int32) dX12_init_307 (by decide) ?_
  obtain ⟨h337, hw⟩ := hw
  refine x_iast (pc := 309) (kd := 242) (a := a316) C (Ks.k (Ks.trans (Ks.trans (Ks.trans q324 q328) q332) q336) (gK_nA e319)) rfl h337 dX12_init_309 ?_
  refine x_S (fun S338 e339 => ?_)
  replace hw := hw S338 e339
  have q340 := Ks_uA e339
  refine x_dup (pc := 310) C dX12_init_310 rfl ?_
  refine x_iconst (pc := 311) C (5 : Int32) dX12_init_311 (by decide) ?_
  refine x_bipush (pc := 312) C (111 : Int32) dX12_init_312 (by decide) ?_
  obtain ⟨h341, hw⟩ := hw
  refine x_iast (pc := 314) (kd := 242) (a := a316) C (Ks.k (Ks.trans (Ks.trans (Ks.trans (Ks.trans q324 q328) q332) q336) q340) (gK_nA e319)) rfl h341 dX12_init_314 ?_
  refine x_S (fun S342 e343 => ?_)
  replace hw := hw S342 e343
  have q344 := Ks_uA e343
  refine x_dup (pc := 315) C dX12_init_315 rfl ?_
  refine x_bipush (pc := 316) C (6 : Int32) dX12_init_316 (by decide) ?_
  refine x_bipush (pc := 318) C (114 : Int32) dX12_init_318 (by decide) ?_
  obtain ⟨h345, hw⟩ := hw
  refine x_iast (pc := 320) (kd := 242) (a := a316) C (Ks.k (Ks.trans (Ks.trans (Ks.trans (Ks.trans (Ks.trans q324 q328) q332) q336) q340) q344) (gK_nA e319)) rfl h345 dX12_init_320 ?_
  refine x_S (fun S346 e347 => ?_)
  replace hw := hw S346 e347
  have q348 := Ks_uA e347
  refine x_dup (pc := 321) C dX12_init_321 rfl ?_
  refine x_bipush (pc := 322) C (7 : Int32) dX12_init_322 (by decide) ?_
  refine x_bipush (pc := 324) C (116 : Int32) dX12_init_324 (by decide) ?_
  obtain ⟨h349, hw⟩ := hw
  refine x_iast (pc := 326) (kd := 242) (a := a316) C (Ks.k (Ks.trans (Ks.trans (Ks.trans (Ks.trans (Ks.trans (Ks.trans q324 q328) q332) q336) q340) q344) q348) (gK_nA e319)) rfl h349 dX12_init_326 ?_
  refine x_S (fun S350 e351 => ?_)
  replace hw := hw S350 e351
  have q352 := Ks_uA e351
  refine x_dup (pc := 327) C dX12_init_327 rfl ?_
  refine x_bipush (pc := 328) C (8 : Int32) dX12_init_328 (by decide) ?_
  refine x_bipush (pc := 330) C (61 : Int32) dX12_init_330 (by decide) ?_
  obtain ⟨h353, hw⟩ := hw
  refine x_iast (pc := 332) (kd := 242) (a := a316) C (Ks.k (Ks.trans (Ks.trans (Ks.trans (Ks.trans (Ks.trans (Ks.trans (Ks.trans q324 q328) q332) q336) q340) q344) q348) q352) (gK_nA e319)) rfl h353 dX12_init_332 ?_
  refine x_S (fun S354 e355 => ?_)
  replace hw := hw S354 e355
  have q356 := Ks_uA e355
  refine x_dup (pc := 333) C dX12_init_333 rfl ?_
  refine x_bipush (pc := 334) C (9 : Int32) dX12_init_334 (by decide) ?_
  refine x_bipush (pc := 336) C (49 : Int32) dX12_init_336 (by decide) ?_
  obtain ⟨h357, hw⟩ := hw
  refine x_iast (pc := 338) (kd := 242) (a := a316) C (Ks.k (Ks.trans (Ks.trans (Ks.trans (Ks.trans (Ks.trans (Ks.trans (Ks.trans (Ks.trans q324 q328) q332) q336) q340) q344) q348) q352) q356) (gK_nA e319)) rfl h357 dX12_init_338 ?_
  refine x_S (fun S358 e359 => ?_)
  replace hw := hw S358 e359
  have q360 := Ks_uA e359
  refine x_dup (pc := 339) C dX12_init_339 rfl ?_
  refine x_bipush (pc := 340) C (10 : Int32) dX12_init_340 (by decide) ?_
  refine x_bipush (pc := 342) C (32 : Int32) dX12_init_342 (by decide) ?_
  obtain ⟨h361, hw⟩ := hw
  refine x_iast (pc := 344) (kd := 242) (a := a316) C (Ks.k (Ks.trans (Ks.trans (Ks.trans (Ks.trans (Ks.trans (Ks.trans (Ks.trans (Ks.trans (Ks.trans q324 q328) q332) q336) q340) q344) q348) q352) q356) q360) (gK_nA e319)) rfl h361 dX12_init_344 ?_
  refine x_S (fun S362 e363 => ?_)
  replace hw := hw S362 e363
  have q364 := Ks_uA e363
  refine x_dup (pc := 345) C dX12_init_345 rfl ?_
  refine x_bipush (pc := 346) C (11 : Int32) dX12_init_346 (by decide) ?_
  refine x_bipush (pc := 348) C (111 : Int32) dX12_init_348 (by decide) ?_
  obtain ⟨h365, hw⟩ := hw
  refine x_iast (pc := 350) (kd := 242) (a := a316) C (Ks.k (Ks.trans (Ks.trans (Ks.trans (Ks.trans (Ks.trans (Ks.trans (Ks.trans (Ks.trans (Ks.trans (Ks.trans q324 q328) q332) q336) q340) q344) q348) q352) q356) q360) q364) (gK_nA e319)) rfl h365 dX12_init_350 ?_
  refine x_S (fun S366 e367 => ?_)
  replace hw := hw S366 e367
  have q368 := Ks_uA e367
  refine x_dup (pc := 351) C dX12_init_351 rfl ?_
  refine x_bipush (pc := 352) C (12 : Int32) dX12_init_352 (by decide) ?_
  refine x_bipush (pc := 354) C (114 : Int32) dX12_init_354 (by decide) ?_
  obtain ⟨h369, hw⟩ := hw
  refine x_iast (pc := 356) (kd := 242) (a := a316) C (Ks.k (Ks.trans (Ks.trans (Ks.trans (Ks.trans (Ks.trans (Ks.trans (Ks.trans (Ks.trans (Ks.trans (Ks.trans (Ks.trans q324 q328) q332) q336) q340) q344) q348) q352) q356) q360) q364) q368) (gK_nA e319)) rfl h369 dX12_init_356 ?_
  refine x_S (fun S370 e371 => ?_)
  replace hw := hw S370 e371
  have q372 := Ks_uA e371
  refine x_dup (pc := 357) C dX12_init_357 rfl ?_
  refine x_bipush (pc := 358) C (13 : Int32) dX12_init_358 (by decide) ?_
  refine x_bipush (pc := 360) C (32 : Int32) dX12_init_360 (by decide) ?_
  obtain ⟨h373, hw⟩ := hw
  refine x_iast (pc := 362) (kd := 242) (a := a316) C (Ks.k (Ks.trans (Ks.trans (Ks.trans (Ks.trans (Ks.trans (Ks.trans (Ks.trans (Ks.trans (Ks.trans (Ks.trans (Ks.trans (Ks.trans q324 q328) q332) q336) q340) q344) q348) q352) q356) q360) q364) q368) q372) (gK_nA e319)) rfl h373 dX12_init_362 ?_
  refine x_S (fun S374 e375 => ?_)
  replace hw := hw S374 e375
  have q376 := Ks_uA e375
  refine x_dup (pc := 363) C dX12_init_363 rfl ?_
  refine x_bipush (pc := 364) C (14 : Int32) dX12_init_364 (by decide) ?_
  refine x_bipush (pc := 366) C (115 : Int32) dX12_init_366 (by decide) ?_
  obtain ⟨h377, hw⟩ := hw
  refine x_iast (pc := 368) (kd := 242) (a := a316) C (Ks.k (Ks.trans (Ks.trans (Ks.trans (Ks.trans (Ks.trans (Ks.trans (Ks.trans (Ks.trans (Ks.trans (Ks.trans (Ks.trans (Ks.trans (Ks.trans q324 q328) q332) q336) q340) q344) q348) q352) q356) q360) q364) q368) q372) q376) (gK_nA e319)) rfl h377 dX12_init_368 ?_
  refine x_S (fun S378 e379 => ?_)
  replace hw := hw S378 e379
  have q380 := Ks_uA e379
  refine x_dup (pc := 369) C dX12_init_369 rfl ?_
  refine x_bipush (pc := 370) C (15 : Int32) dX12_init_370 (by decide) ?_
  refine x_bipush (pc := 372) C (111 : Int32) dX12_init_372 (by decide) ?_
  obtain ⟨h381, hw⟩ := hw
  refine x_iast (pc := 374) (kd := 242) (a := a316) C (Ks.k (Ks.trans (Ks.trans (Ks.trans (Ks.trans (Ks.trans (Ks.trans (Ks.trans (Ks.trans (Ks.trans (Ks.trans (Ks.trans (Ks.trans (Ks.trans (Ks.trans q324 q328) q332) q336) q340) q344) q348) q352) q356) q360) q364) q368) q372) q376) q380) (gK_nA e319)) rfl h381 dX12_init_374 ?_
  refine x_S (fun S382 e383 => ?_)
  replace hw := hw S382 e383
  have q384 := Ks_uA e383
  refine x_dup (pc := 375) C dX12_init_375 rfl ?_
  refine x_bipush (pc := 376) C (16 : Int32) dX12_init_376 (by decide) ?_
  refine x_bipush (pc := 378) C (114 : Int32) dX12_init_378 (by decide) ?_
  obtain ⟨h385, hw⟩ := hw
  refine x_iast (pc := 380) (kd := 242) (a := a316) C (Ks.k (Ks.trans (Ks.trans (Ks.trans (Ks.trans (Ks.trans (Ks.trans (Ks.trans (Ks.trans (Ks.trans (Ks.trans (Ks.trans (Ks.trans (Ks.trans (Ks.trans (Ks.trans q324 q328) q332) q336) q340) q344) q348) q352) q356) q360) q364) q368) q372) q376) q380) q384) (gK_nA e319)) rfl h385 dX12_init_380 ?_
  refine x_S (fun S386 e387 => ?_)
  replace hw := hw S386 e387
  have q388 := Ks_uA e387
  refine x_dup (pc := 381) C dX12_init_381 rfl ?_
  refine x_bipush (pc := 382) C (17 : Int32) dX12_init_382 (by decide) ?_
  refine x_bipush (pc := 384) C (116 : Int32) dX12_init_384 (by decide) ?_
  obtain ⟨h389, hw⟩ := hw
  refine x_iast (pc := 386) (kd := 242) (a := a316) C (Ks.k (Ks.trans (Ks.trans (Ks.trans (Ks.trans (Ks.trans (Ks.trans (Ks.trans (Ks.trans (Ks.trans (Ks.trans (Ks.trans (Ks.trans (Ks.trans (Ks.trans (Ks.trans (Ks.trans q324 q328) q332) q336) q340) q344) q348) q352) q356) q360) q364) q368) q372) q376) q380) q384) q388) (gK_nA e319)) rfl h389 dX12_init_386 ?_
  refine x_S (fun S390 e391 => ?_)
  replace hw := hw S390 e391
  have q392 := Ks_uA e391
  refine x_dup (pc := 387) C dX12_init_387 rfl ?_
  refine x_bipush (pc := 388) C (18 : Int32) dX12_init_388 (by decide) ?_
  refine x_bipush (pc := 390) C (61 : Int32) dX12_init_390 (by decide) ?_
  obtain ⟨h393, hw⟩ := hw
  refine x_iast (pc := 392) (kd := 242) (a := a316) C (Ks.k (Ks.trans (Ks.trans (Ks.trans (Ks.trans (Ks.trans (Ks.trans (Ks.trans (Ks.trans (Ks.trans (Ks.trans (Ks.trans (Ks.trans (Ks.trans (Ks.trans (Ks.trans (Ks.trans (Ks.trans q324 q328) q332) q336) q340) q344) q348) q352) q356) q360) q364) q368) q372) q376) q380) q384) q388) q392) (gK_nA e319)) rfl h393 dX12_init_392 ?_
  refine x_S (fun S394 e395 => ?_)
  replace hw := hw S394 e395
  have q396 := Ks_uA e395
  refine x_dup (pc := 393) C dX12_init_393 rfl ?_
  refine x_bipush (pc := 394) C (19 : Int32) dX12_init_394 (by decide) ?_
  refine x_bipush (pc := 396) C (50 : Int32) dX12_init_396 (by decide) ?_
  obtain ⟨h397, hw⟩ := hw
  refine x_iast (pc := 398) (kd := 242) (a := a316) C (Ks.k (Ks.trans (Ks.trans (Ks.trans (Ks.trans (Ks.trans (Ks.trans (Ks.trans (Ks.trans (Ks.trans (Ks.trans (Ks.trans (Ks.trans (Ks.trans (Ks.trans (Ks.trans (Ks.trans (Ks.trans (Ks.trans q324 q328) q332) q336) q340) q344) q348) q352) q356) q360) q364) q368) q372) q376) q380) q384) q388) q392) q396) (gK_nA e319)) rfl h397 dX12_init_398 ?_
  refine x_S (fun S398 e399 => ?_)
  replace hw := hw S398 e399
  have q400 := Ks_uA e399
  refine x_dup (pc := 399) C dX12_init_399 rfl ?_
  refine x_bipush (pc := 400) C (20 : Int32) dX12_init_400 (by decide) ?_
  refine x_bipush (pc := 402) C (59 : Int32) dX12_init_402 (by decide) ?_
  obtain ⟨h401, hw⟩ := hw
  refine x_iast (pc := 404) (kd := 242) (a := a316) C (Ks.k (Ks.trans (Ks.trans (Ks.trans (Ks.trans (Ks.trans (Ks.trans (Ks.trans (Ks.trans (Ks.trans (Ks.trans (Ks.trans (Ks.trans (Ks.trans (Ks.trans (Ks.trans (Ks.trans (Ks.trans (Ks.trans (Ks.trans q324 q328) q332) q336) q340) q344) q348) q352) q356) q360) q364) q368) q372) q376) q380) q384) q388) q392) q396) q400) (gK_nA e319)) rfl h401 dX12_init_404 ?_
  refine x_S (fun S402 e403 => ?_)
  replace hw := hw S402 e403
  have q404 := Ks_uA e403
  refine x_dup (pc := 405) C dX12_init_405 rfl ?_
  refine x_bipush (pc := 406) C (21 : Int32) dX12_init_406 (by decide) ?_
  refine x_bipush (pc := 408) C (111 : Int32) dX12_init_408 (by decide) ?_
  obtain ⟨h405, hw⟩ := hw
  refine x_iast (pc := 410) (kd := 242) (a := a316) C (Ks.k (Ks.trans (Ks.trans (Ks.trans (Ks.trans (Ks.trans (Ks.trans (Ks.trans (Ks.trans (Ks.trans (Ks.trans (Ks.trans (Ks.trans (Ks.trans (Ks.trans (Ks.trans (Ks.trans (Ks.trans (Ks.trans (Ks.trans (Ks.trans q324 q328) q332) q336) q340) q344) q348) q352) q356) q360) q364) q368) q372) q376) q380) q384) q388) q392) q396) q400) q404) (gK_nA e319)) rfl h405 dX12_init_410 ?_
  refine x_S (fun S406 e407 => ?_)
  replace hw := hw S406 e407
  have q408 := Ks_uA e407
  refine x_dup (pc := 411) C dX12_init_411 rfl ?_
  refine x_bipush (pc := 412) C (22 : Int32) dX12_init_412 (by decide) ?_
  refine x_bipush (pc := 414) C (102 : Int32) dX12_init_414 (by decide) ?_
  obtain ⟨h409, hw⟩ := hw
  refine x_iast (pc := 416) (kd := 242) (a := a316) C (Ks.k (Ks.trans (Ks.trans (Ks.trans (Ks.trans (Ks.trans (Ks.trans (Ks.trans (Ks.trans (Ks.trans (Ks.trans (Ks.trans (Ks.trans (Ks.trans (Ks.trans (Ks.trans (Ks.trans (Ks.trans (Ks.trans (Ks.trans (Ks.trans (Ks.trans q324 q328) q332) q336) q340) q344) q348) q352) q356) q360) q364) q368) q372) q376) q380) q384) q388) q392) q396) q400) q404) q408) (gK_nA e319)) rfl h409 dX12_init_416 ?_
  refine x_S (fun S410 e411 => ?_)
  replace hw := hw S410 e411
  have q412 := Ks_uA e411
  refine x_dup (pc := 417) C dX12_init_417 rfl ?_
  refine x_bipush (pc := 418) C (23 : Int32) dX12_init_418 (by decide) ?_
  refine x_bipush (pc := 420) C (102 : Int32) dX12_init_420 (by decide) ?_
  obtain ⟨h413, hw⟩ := hw
  refine x_iast (pc := 422) (kd := 242) (a := a316) C (Ks.k (Ks.trans (Ks.trans (Ks.trans (Ks.trans (Ks.trans (Ks.trans (Ks.trans (Ks.trans (Ks.trans (Ks.trans (Ks.trans (Ks.trans (Ks.trans (Ks.trans (Ks.trans (Ks.trans (Ks.trans (Ks.trans (Ks.trans (Ks.trans (Ks.trans (Ks.trans q324 q328) q332) q336) q340) q344) q348) q352) q356) q360) q364) q368) q372) q376) q380) q384) q388) q392) q396) q400) q404) q408) q412) (gK_nA e319)) rfl h413 dX12_init_422 ?_
  refine x_S (fun S414 e415 => ?_)
  replace hw := hw S414 e415
  have q416 := Ks_uA e415
  refine x_dup (pc := 423) C dX12_init_423 rfl ?_
  refine x_bipush (pc := 424) C (24 : Int32) dX12_init_424 (by decide) ?_
  refine x_bipush (pc := 426) C (32 : Int32) dX12_init_426 (by decide) ?_
  obtain ⟨h417, hw⟩ := hw
  refine x_iast (pc := 428) (kd := 242) (a := a316) C (Ks.k (Ks.trans (Ks.trans (Ks.trans (Ks.trans (Ks.trans (Ks.trans (Ks.trans (Ks.trans (Ks.trans (Ks.trans (Ks.trans (Ks.trans (Ks.trans (Ks.trans (Ks.trans (Ks.trans (Ks.trans (Ks.trans (Ks.trans (Ks.trans (Ks.trans (Ks.trans (Ks.trans q324 q328) q332) q336) q340) q344) q348) q352) q356) q360) q364) q368) q372) q376) q380) q384) q388) q392) q396) q400) q404) q408) q412) q416) (gK_nA e319)) rfl h417 dX12_init_428 ?_
  refine x_S (fun S418 e419 => ?_)
  replace hw := hw S418 e419
  have q420 := Ks_uA e419
  refine x_dup (pc := 429) C dX12_init_429 rfl ?_
  refine x_bipush (pc := 430) C (25 : Int32) dX12_init_430 (by decide) ?_
  refine x_bipush (pc := 432) C (115 : Int32) dX12_init_432 (by decide) ?_
  obtain ⟨h421, hw⟩ := hw
  refine x_iast (pc := 434) (kd := 242) (a := a316) C (Ks.k (Ks.trans (Ks.trans (Ks.trans (Ks.trans (Ks.trans (Ks.trans (Ks.trans (Ks.trans (Ks.trans (Ks.trans (Ks.trans (Ks.trans (Ks.trans (Ks.trans (Ks.trans (Ks.trans (Ks.trans (Ks.trans (Ks.trans (Ks.trans (Ks.trans (Ks.trans (Ks.trans (Ks.trans q324 q328) q332) q336) q340) q344) q348) q352) q356) q360) q364) q368) q372) q376) q380) q384) q388) q392) q396) q400) q404) q408) q412) q416) q420) (gK_nA e319)) rfl h421 dX12_init_434 ?_
  refine x_S (fun S422 e423 => ?_)
  replace hw := hw S422 e423
  have q424 := Ks_uA e423
  refine x_dup (pc := 435) C dX12_init_435 rfl ?_
  refine x_bipush (pc := 436) C (26 : Int32) dX12_init_436 (by decide) ?_
  refine x_bipush (pc := 438) C (111 : Int32) dX12_init_438 (by decide) ?_
  obtain ⟨h425, hw⟩ := hw
  refine x_iast (pc := 440) (kd := 242) (a := a316) C (Ks.k (Ks.trans (Ks.trans (Ks.trans (Ks.trans (Ks.trans (Ks.trans (Ks.trans (Ks.trans (Ks.trans (Ks.trans (Ks.trans (Ks.trans (Ks.trans (Ks.trans (Ks.trans (Ks.trans (Ks.trans (Ks.trans (Ks.trans (Ks.trans (Ks.trans (Ks.trans (Ks.trans (Ks.trans (Ks.trans q324 q328) q332) q336) q340) q344) q348) q352) q356) q360) q364) q368) q372) q376) q380) q384) q388) q392) q396) q400) q404) q408) q412) q416) q420) q424) (gK_nA e319)) rfl h425 dX12_init_440 ?_
  refine x_S (fun S426 e427 => ?_)
  replace hw := hw S426 e427
  have q428 := Ks_uA e427
  refine x_dup (pc := 441) C dX12_init_441 rfl ?_
  refine x_bipush (pc := 442) C (27 : Int32) dX12_init_442 (by decide) ?_
  refine x_bipush (pc := 444) C (114 : Int32) dX12_init_444 (by decide) ?_
  obtain ⟨h429, hw⟩ := hw
  refine x_iast (pc := 446) (kd := 242) (a := a316) C (Ks.k (Ks.trans (Ks.trans (Ks.trans (Ks.trans (Ks.trans (Ks.trans (Ks.trans (Ks.trans (Ks.trans (Ks.trans (Ks.trans (Ks.trans (Ks.trans (Ks.trans (Ks.trans (Ks.trans (Ks.trans (Ks.trans (Ks.trans (Ks.trans (Ks.trans (Ks.trans (Ks.trans (Ks.trans (Ks.trans (Ks.trans q324 q328) q332) q336) q340) q344) q348) q352) q356) q360) q364) q368) q372) q376) q380) q384) q388) q392) q396) q400) q404) q408) q412) q416) q420) q424) q428) (gK_nA e319)) rfl h429 dX12_init_446 ?_
  refine x_S (fun S430 e431 => ?_)
  replace hw := hw S430 e431
  have q432 := Ks_uA e431
  refine x_dup (pc := 447) C dX12_init_447 rfl ?_
  refine x_bipush (pc := 448) C (28 : Int32) dX12_init_448 (by decide) ?_
  refine x_bipush (pc := 450) C (116 : Int32) dX12_init_450 (by decide) ?_
  obtain ⟨h433, hw⟩ := hw
  refine x_iast (pc := 452) (kd := 242) (a := a316) C (Ks.k (Ks.trans (Ks.trans (Ks.trans (Ks.trans (Ks.trans (Ks.trans (Ks.trans (Ks.trans (Ks.trans (Ks.trans (Ks.trans (Ks.trans (Ks.trans (Ks.trans (Ks.trans (Ks.trans (Ks.trans (Ks.trans (Ks.trans (Ks.trans (Ks.trans (Ks.trans (Ks.trans (Ks.trans (Ks.trans (Ks.trans (Ks.trans q324 q328) q332) q336) q340) q344) q348) q352) q356) q360) q364) q368) q372) q376) q380) q384) q388) q392) q396) q400) q404) q408) q412) q416) q420) q424) q428) q432) (gK_nA e319)) rfl h433 dX12_init_452 ?_
  refine x_S (fun S434 e435 => ?_)
  replace hw := hw S434 e435
  have q436 := Ks_uA e435
  refine x_dup (pc := 453) C dX12_init_453 rfl ?_
  refine x_bipush (pc := 454) C (29 : Int32) dX12_init_454 (by decide) ?_
  refine x_bipush (pc := 456) C (61 : Int32) dX12_init_456 (by decide) ?_
  obtain ⟨h437, hw⟩ := hw
  refine x_iast (pc := 458) (kd := 242) (a := a316) C (Ks.k (Ks.trans (Ks.trans (Ks.trans (Ks.trans (Ks.trans (Ks.trans (Ks.trans (Ks.trans (Ks.trans (Ks.trans (Ks.trans (Ks.trans (Ks.trans (Ks.trans (Ks.trans (Ks.trans (Ks.trans (Ks.trans (Ks.trans (Ks.trans (Ks.trans (Ks.trans (Ks.trans (Ks.trans (Ks.trans (Ks.trans (Ks.trans (Ks.trans q324 q328) q332) q336) q340) q344) q348) q352) q356) q360) q364) q368) q372) q376) q380) q384) q388) q392) q396) q400) q404) q408) q412) q416) q420) q424) q428) q432) q436) (gK_nA e319)) rfl h437 dX12_init_458 ?_
  refine x_S (fun S438 e439 => ?_)
  replace hw := hw S438 e439
  have q440 := Ks_uA e439
  refine x_dup (pc := 459) C dX12_init_459 rfl ?_
  refine x_bipush (pc := 460) C (30 : Int32) dX12_init_460 (by decide) ?_
  refine x_bipush (pc := 462) C (52 : Int32) dX12_init_462 (by decide) ?_
  obtain ⟨h441, hw⟩ := hw
  refine x_iast (pc := 464) (kd := 242) (a := a316) C (Ks.k (Ks.trans (Ks.trans (Ks.trans (Ks.trans (Ks.trans (Ks.trans (Ks.trans (Ks.trans (Ks.trans (Ks.trans (Ks.trans (Ks.trans (Ks.trans (Ks.trans (Ks.trans (Ks.trans (Ks.trans (Ks.trans (Ks.trans (Ks.trans (Ks.trans (Ks.trans (Ks.trans (Ks.trans (Ks.trans (Ks.trans (Ks.trans (Ks.trans (Ks.trans q324 q328) q332) q336) q340) q344) q348) q352) q356) q360) q364) q368) q372) q376) q380) q384) q388) q392) q396) q400) q404) q408) q412) q416) q420) q424) q428) q432) q436) q440) (gK_nA e319)) rfl h441 dX12_init_464 ?_
  refine x_S (fun S442 e443 => ?_)
  replace hw := hw S442 e443
  have q444 := Ks_uA e443
  refine x_dup (pc := 465) C dX12_init_465 rfl ?_
  refine x_bipush (pc := 466) C (31 : Int32) dX12_init_466 (by decide) ?_
  refine x_bipush (pc := 468) C (59 : Int32) dX12_init_468 (by decide) ?_
  obtain ⟨h445, hw⟩ := hw
  refine x_iast (pc := 470) (kd := 242) (a := a316) C (Ks.k (Ks.trans (Ks.trans (Ks.trans (Ks.trans (Ks.trans (Ks.trans (Ks.trans (Ks.trans (Ks.trans (Ks.trans (Ks.trans (Ks.trans (Ks.trans (Ks.trans (Ks.trans (Ks.trans (Ks.trans (Ks.trans (Ks.trans (Ks.trans (Ks.trans (Ks.trans (Ks.trans (Ks.trans (Ks.trans (Ks.trans (Ks.trans (Ks.trans (Ks.trans (Ks.trans q324 q328) q332) q336) q340) q344) q348) q352) q356) q360) q364) q368) q372) q376) q380) q384) q388) q392) q396) q400) q404) q408) q412) q416) q420) q424) q428) q432) q436) q440) q444) (gK_nA e319)) rfl h445 dX12_init_470 ?_
  refine x_S (fun S446 e447 => ?_)
  replace hw := hw S446 e447
  have q448 := Ks_uA e447
  obtain ⟨h449, hw⟩ := hw
  refine x_putRF (pc := 471) C (v := (some a316)) fw_X12_117 (Ks.k (Ks.trans (Ks.trans (Ks.trans (Ks.trans (Ks.trans (Ks.trans (Ks.trans (Ks.trans (Ks.trans (Ks.trans (Ks.trans (Ks.trans (Ks.trans (Ks.trans (Ks.trans (Ks.trans (Ks.trans (Ks.trans (Ks.trans (Ks.trans (Ks.trans (Ks.trans (Ks.trans (Ks.trans (Ks.trans (Ks.trans (Ks.trans (Ks.trans (Ks.trans (Ks.trans (Ks.trans (Ks.trans (Ks.trans (Ks.trans (Ks.trans (Ks.trans (Ks.trans (Ks.trans (Ks.trans (Ks.trans (Ks.trans (Ks.trans (Ks.trans (Ks.trans (Ks.trans (Ks.trans (Ks.trans (Ks.trans (Ks.trans (Ks.trans (Ks.trans (Ks.trans (Ks.trans (Ks.trans (Ks.trans (Ks.trans (Ks.trans (Ks.trans (Ks.trans (Ks.trans (Ks.trans (Ks.trans (Ks.trans (Ks.trans (Ks.trans (Ks.trans (Ks.trans (Ks.trans (Ks.trans (Ks.trans (Ks.trans (Ks.trans (Ks.trans (Ks.trans (Ks.trans (Ks.trans (Ks.trans (Ks.trans (Ks.trans (Ks.trans (Ks.trans (Ks.trans (Ks.trans (Ks.trans (Ks.trans (Ks.trans (Ks.trans (Ks.trans (Ks.trans (Ks.trans (Ks.trans (Ks.trans (Ks.trans (Ks.trans (Ks.trans (Ks.trans (Ks.trans (Ks.trans (Ks.trans (Ks.trans (Ks.trans (Ks.trans q5 q9) q14) q18) q23) q27) q32) q36) q41) q45) q50) q54) q59) q63) q68) q72) q77) q81) q86) q90) q95) q99) q104) q108) q113) q117) q122) q126) q131) q135) q140) q144) q149) q153) q158) q162) q167) q171) q176) q180) q185) q189) q194) q198) q203) q207) q212) q216) q221) q225) q230) q234) q239) q243) q248) q252) q257) q261) q266) q270) q275) q279) q284) q288) q293) q297) q302) q306) q311) q315) q320) q324) q328) q332) q336) q340) q344) q348) q352) q356) q360) q364) q368) q372) q376) q380) q384) q388) q392) q396) q400) q404) q408) q412) q416) q420) q424) q428) q432) q436) q440) q444) q448) k_x0) rfl rfl (hin) dX12_init_471 ?_
  refine x_S (fun S450 e451 => ?_)
  replace hw := hw S450 e451
  have q452 := Ks_uR e451 (Or.inr (Or.inr h449))
  refine x_aload_n (pc := 474) C 0 rfl dX12_init_474 rfl ?_
  refine x_iconst (pc := 475) C (3 : Int32) dX12_init_475 (by decide) ?_
  refine x_newaG (pc := 476) C (kd := 246) (N := 3) 1 rfl (by decide) dX12_init_476 (tb1 107 rfl rfl) rfl (fun _ => rfl) (by decide) (by decide) (by decide) (by decide) (by decide) (fun a453 z454 => ?_)
  replace hw := hw a453 z454
  refine x_S (fun S455 e456 => ?_)
  replace hw := hw S455 e456
  have q457 := Ks_nA z454 e456
  obtain ⟨h458, hw⟩ := hw
  refine x_putRF (pc := 478) C (v := (some a453)) fw_X12_120 (Ks.k (Ks.trans (Ks.trans (Ks.trans (Ks.trans (Ks.trans (Ks.trans (Ks.trans (Ks.trans (Ks.trans (Ks.trans (Ks.trans (Ks.trans (Ks.trans (Ks.trans (Ks.trans (Ks.trans (Ks.trans (Ks.trans (Ks.trans (Ks.trans (Ks.trans (Ks.trans (Ks.trans (Ks.trans (Ks.trans (Ks.trans (Ks.trans (Ks.trans (Ks.trans (Ks.trans (Ks.trans (Ks.trans (Ks.trans (Ks.trans (Ks.trans (Ks.trans (Ks.trans (Ks.trans (Ks.trans (Ks.trans (Ks.trans (Ks.trans (Ks.trans (Ks.trans (Ks.trans (Ks.trans (Ks.trans (Ks.trans (Ks.trans (Ks.trans (Ks.trans (Ks.trans (Ks.trans (Ks.trans (Ks.trans (Ks.trans (Ks.trans (Ks.trans (Ks.trans (Ks.trans (Ks.trans (Ks.trans (Ks.trans (Ks.trans (Ks.trans (Ks.trans (Ks.trans (Ks.trans (Ks.trans (Ks.trans (Ks.trans (Ks.trans (Ks.trans (Ks.trans (Ks.trans (Ks.trans (Ks.trans (Ks.trans (Ks.trans (Ks.trans (Ks.trans (Ks.trans (Ks.trans (Ks.trans (Ks.trans (Ks.trans (Ks.trans (Ks.trans (Ks.trans (Ks.trans (Ks.trans (Ks.trans (Ks.trans (Ks.trans (Ks.trans (Ks.trans (Ks.trans (Ks.trans (Ks.trans (Ks.trans (Ks.trans (Ks.trans (Ks.trans (Ks.trans q5 q9) q14) q18) q23) q27) q32) q36) q41) q45) q50) q54) q59) q63) q68) q72) q77) q81) q86) q90) q95) q99) q104) q108) q113) q117) q122) q126) q131) q135) q140) q144) q149) q153) q158) q162) q167) q171) q176) q180) q185) q189) q194) q198) q203) q207) q212) q216) q221) q225) q230) q234) q239) q243) q248) q252) q257) q261) q266) q270) q275) q279) q284) q288) q293) q297) q302) q306) q311) q315) q320) q324) q328) q332) q336) q340) q344) q348) q352) q356) q360) q364) q368) q372) q376) q380) q384) q388) q392) q396) q400) q404) q408) q412) q416) q420) q424) q428) q432) q436) q440) q444) q448) q452) q457) k_x0) rfl rfl (hin) dX12_init_478 ?_
  refine x_S (fun S459 e460 => ?_)
  replace hw := hw S459 e460
  have q461 := Ks_uR e460 (Or.inr (Or.inr h458))
  refine x_aload_n (pc := 481) C 0 rfl dX12_init_481 rfl ?_
  refine x_iconst (pc := 482) C (3 : Int32) dX12_init_482 (by decide) ?_
  refine x_newaG (pc := 483) C (kd := 247) (N := 3) 1 rfl (by decide) dX12_init_483 (tb1 107 rfl rfl) rfl (fun _ => rfl) (by decide) (by decide) (by decide) (by decide) (by decide) (fun a462 z463 => ?_)
  replace hw := hw a462 z463
  refine x_S (fun S464 e465 => ?_)
  replace hw := hw S464 e465
  have q466 := Ks_nA z463 e465
  obtain ⟨h467, hw⟩ := hw
  refine x_putRF (pc := 485) C (v := (some a462)) fw_X12_123 (Ks.k (Ks.trans (Ks.trans (Ks.trans (Ks.trans (Ks.trans (Ks.trans (Ks.trans (Ks.trans (Ks.trans (Ks.trans (Ks.trans (Ks.trans (Ks.trans (Ks.trans (Ks.trans (Ks.trans (Ks.trans (Ks.trans (Ks.trans (Ks.trans (Ks.trans (Ks.trans (Ks.trans (Ks.trans (Ks.trans (Ks.trans (Ks.trans (Ks.trans (Ks.trans (Ks.trans (Ks.trans (Ks.trans (Ks.trans (Ks.trans (Ks.trans (Ks.trans (Ks.trans (Ks.trans (Ks.trans (Ks.trans (Ks.trans (Ks.trans (Ks.trans (Ks.trans (Ks.trans (Ks.trans (Ks.trans (Ks.trans (Ks.trans (Ks.trans (Ks.trans (Ks.trans (Ks.trans (Ks.trans (Ks.trans (Ks.trans (Ks.trans (Ks.trans (Ks.trans (Ks.trans (Ks.trans (Ks.trans (Ks.trans (Ks.trans (Ks.trans (Ks.trans (Ks.trans (Ks.trans (Ks.trans (Ks.trans (Ks.trans (Ks.trans (Ks.trans (Ks.trans (Ks.trans (Ks.trans (Ks.trans (Ks.trans (Ks.trans (Ks.trans (Ks.trans (Ks.trans (Ks.trans (Ks.trans (Ks.trans (Ks.trans (Ks.trans (Ks.trans (Ks.trans (Ks.trans (Ks.trans (Ks.trans (Ks.trans (Ks.trans (Ks.trans (Ks.trans (Ks.trans (Ks.trans (Ks.trans (Ks.trans (Ks.trans (Ks.trans (Ks.trans (Ks.trans (Ks.trans (Ks.trans q5 q9) q14) q18) q23) q27) q32) q36) q41) q45) q50) q54) q59) q63) q68) q72) q77) q81) q86) q90) q95) q99) q104) q108) q113) q117) q122) q126) q131) q135) q140) q144) q149) q153) q158) q162) q167) q171) q176) q180) q185) q189) q194) q198) q203) q207) q212) q216) q221) q225) q230) q234) q239) q243) q248) q252) q257) q261) q266) q270) q275) q279) q284) q288) q293) q297) q302) q306) q311) q315) q320) q324) q328) q332) q336) q340) q344) q348) q352) q356) q360) q364) q368) q372) q376) q380) q384) q388) q392) q396) q400) q404) q408) q412) q416) q420) q424) q428) q432) q436) q440) q444) q448) q452) q457) q461) q466) k_x0) rfl rfl (hin) dX12_init_485 ?_
  refine x_S (fun S468 e469 => ?_)
  replace hw := hw S468 e469
  have q470 := Ks_uR e469 (Or.inr (Or.inr h467))
  refine x_aload_n (pc := 488) C 0 rfl dX12_init_488 rfl ?_
  refine x_sipush (pc := 489) C (6000 : Int32) dX12_init_489 (by decide) ?_
  refine x_newaG (pc := 492) C (kd := 248) (N := 6000) 1 rfl (by decide) dX12_init_492 (tb1 107 rfl rfl) rfl (fun _ => rfl) (by decide) (by decide) (by decide) (by decide) (by decide) (fun a471 z472 => ?_)
  replace hw := hw a471 z472
  refine x_S (fun S473 e474 => ?_)
  replace hw := hw S473 e474
  have q475 := Ks_nA z472 e474
  obtain ⟨h476, hw⟩ := hw
  refine x_putRF (pc := 494) C (v := (some a471)) fw_X12_126 (Ks.k (Ks.trans (Ks.trans (Ks.trans (Ks.trans (Ks.trans (Ks.trans (Ks.trans (Ks.trans (Ks.trans (Ks.trans (Ks.trans (Ks.trans (Ks.trans (Ks.trans (Ks.trans (Ks.trans (Ks.trans (Ks.trans (Ks.trans (Ks.trans (Ks.trans (Ks.trans (Ks.trans (Ks.trans (Ks.trans (Ks.trans (Ks.trans (Ks.trans (Ks.trans (Ks.trans (Ks.trans (Ks.trans (Ks.trans (Ks.trans (Ks.trans (Ks.trans (Ks.trans (Ks.trans (Ks.trans (Ks.trans (Ks.trans (Ks.trans (Ks.trans (Ks.trans (Ks.trans (Ks.trans (Ks.trans (Ks.trans (Ks.trans (Ks.trans (Ks.trans (Ks.trans (Ks.trans (Ks.trans (Ks.trans (Ks.trans (Ks.trans (Ks.trans (Ks.trans (Ks.trans (Ks.trans (Ks.trans (Ks.trans (Ks.trans (Ks.trans (Ks.trans (Ks.trans (Ks.trans (Ks.trans (Ks.trans (Ks.trans (Ks.trans (Ks.trans (Ks.trans (Ks.trans (Ks.trans (Ks.trans (Ks.trans (Ks.trans (Ks.trans (Ks.trans (Ks.trans (Ks.trans (Ks.trans (Ks.trans (Ks.trans (Ks.trans (Ks.trans (Ks.trans (Ks.trans (Ks.trans (Ks.trans (Ks.trans (Ks.trans (Ks.trans (Ks.trans (Ks.trans (Ks.trans (Ks.trans (Ks.trans (Ks.trans (Ks.trans (Ks.trans (Ks.trans (Ks.trans (Ks.trans (Ks.trans (Ks.trans q5 q9) q14) q18) q23) q27) q32) q36) q41) q45) q50) q54) q59) q63) q68) q72) q77) q81) q86) q90) q95) q99) q104) q108) q113) q117) q122) q126) q131) q135) q140) q144) q149) q153) q158) q162) q167) q171) q176) q180) q185) q189) q194) q198) q203) q207) q212) q216) q221) q225) q230) q234) q239) q243) q248) q252) q257) q261) q266) q270) q275) q279) q284) q288) q293) q297) q302) q306) q311) q315) q320) q324) q328) q332) q336) q340) q344) q348) q352) q356) q360) q364) q368) q372) q376) q380) q384) q388) q392) q396) q400) q404) q408) q412) q416) q420) q424) q428) q432) q436) q440) q444) q448) q452) q457) q461) q466) q470) q475) k_x0) rfl rfl (hin) dX12_init_494 ?_
  refine x_S (fun S477 e478 => ?_)
  replace hw := hw S477 e478
  have q479 := Ks_uR e478 (Or.inr (Or.inr h476))
  refine x_aload_n (pc := 497) C 0 rfl dX12_init_497 rfl ?_
  refine x_bipush (pc := 498) C (48 : Int32) dX12_init_498 (by decide) ?_
  refine x_newaG (pc := 500) C (kd := 249) (N := 48) 1 rfl (by decide) dX12_init_500 (tb1 107 rfl rfl) rfl (fun _ => rfl) (by decide) (by decide) (by decide) (by decide) (by decide) (fun a480 z481 => ?_)
  replace hw := hw a480 z481
  refine x_S (fun S482 e483 => ?_)
  replace hw := hw S482 e483
  have q484 := Ks_nA z481 e483
  refine x_dup (pc := 502) C dX12_init_502 rfl ?_
  refine x_iconst (pc := 503) C (0 : Int32) dX12_init_503 (by decide) ?_
  refine x_bipush (pc := 504) C (115 : Int32) dX12_init_504 (by decide) ?_
  obtain ⟨h485, hw⟩ := hw
  refine x_iast (pc := 506) (kd := 249) (a := a480) C (gK_nA e483) rfl h485 dX12_init_506 ?_
  refine x_S (fun S486 e487 => ?_)
  replace hw := hw S486 e487
  have q488 := Ks_uA e487
  refine x_dup (pc := 507) C dX12_init_507 rfl ?_
  refine x_iconst (pc := 508) C (1 : Int32) dX12_init_508 (by decide) ?_
  refine x_bipush (pc := 509) C (111 : Int32) dX12_init_509 (by decide) ?_
  obtain ⟨h489, hw⟩ := hw
  refine x_iast (pc := 511) (kd := 249) (a := a480) C (Ks.k q488 (gK_nA e483)) rfl h489 dX12_init_511 ?_
  refine x_S (fun S490 e491 => ?_)
  replace hw := hw S490 e491
  have q492 := Ks_uA e491
  refine x_dup (pc := 512) C dX12_init_512 rfl ?_
  refine x_iconst (pc := 513) C (2 : Int32) dX12_init_513 (by decide) ?_
  refine x_bipush (pc := 514) C (114 : Int32) dX12_init_514 (by decide) ?_
  obtain ⟨h493, hw⟩ := hw
  refine x_iast (pc := 516) (kd := 249) (a := a480) C (Ks.k (Ks.trans q488 q492) (gK_nA e483)) rfl h493 dX12_init_516 ?_
  refine x_S (fun S494 e495 => ?_)
  replace hw := hw S494 e495
  have q496 := Ks_uA e495
  refine x_dup (pc := 517) C dX12_init_517 rfl ?_
  refine x_iconst (pc := 518) C (3 : Int32) dX12_init_518 (by decide) ?_
  refine x_bipush (pc := 519) C (116 : Int32) dX12_init_519 (by decide) ?_
  obtain ⟨h497, hw⟩ := hw
  refine x_iast (pc := 521) (kd := 249) (a := a480) C (Ks.k (Ks.trans (Ks.trans q488 q492) q496) (gK_nA e483)) rfl h497 dX12_init_521 ?_
  refine x_S (fun S498 e499 => ?_)
  replace hw := hw S498 e499
  have q500 := Ks_uA e499
  refine x_dup (pc := 522) C dX12_init_522 rfl ?_
  refine x_iconst (pc := 523) C (4 : Int32) dX12_init_523 (by decide) ?_
  refine x_iconst (pc := 524) C (0 : Int32) dX12_init_524 (by decide) ?_
  obtain ⟨h501, hw⟩ := hw
  refine x_iast (pc := 525) (kd := 249) (a := a480) C (Ks.k (Ks.trans (Ks.trans (Ks.trans q488 q492) q496) q500) (gK_nA e483)) rfl h501 dX12_init_525 ?_
  refine x_S (fun S502 e503 => ?_)
  replace hw := hw S502 e503
  have q504 := Ks_uA e503
  refine x_dup (pc := 526) C dX12_init_526 rfl ?_
  refine x_iconst (pc := 527) C (5 : Int32) dX12_init_527 (by decide) ?_
  refine x_bipush (pc := 528) C (119 : Int32) dX12_init_528 (by decide) ?_
  obtain ⟨h505, hw⟩ := hw
  refine x_iast (pc := 530) (kd := 249) (a := a480) C (Ks.k (Ks.trans (Ks.trans (Ks.trans (Ks.trans q488 q492) q496) q500) q504) (gK_nA e483)) rfl h505 dX12_init_530 ?_
  refine x_S (fun S506 e507 => ?_)
  replace hw := hw S506 e507
  have q508 := Ks_uA e507
  refine x_dup (pc := 531) C dX12_init_531 rfl ?_
  refine x_bipush (pc := 532) C (6 : Int32) dX12_init_532 (by decide) ?_
  refine x_bipush (pc := 534) C (101 : Int32) dX12_init_534 (by decide) ?_
  obtain ⟨h509, hw⟩ := hw
  refine x_iast (pc := 536) (kd := 249) (a := a480) C (Ks.k (Ks.trans (Ks.trans (Ks.trans (Ks.trans (Ks.trans q488 q492) q496) q500) q504) q508) (gK_nA e483)) rfl h509 dX12_init_536 ?_
  refine x_S (fun S510 e511 => ?_)
  replace hw := hw S510 e511
  have q512 := Ks_uA e511
  refine x_dup (pc := 537) C dX12_init_537 rfl ?_
  refine x_bipush (pc := 538) C (7 : Int32) dX12_init_538 (by decide) ?_
  refine x_bipush (pc := 540) C (101 : Int32) dX12_init_540 (by decide) ?_
  obtain ⟨h513, hw⟩ := hw
  refine x_iast (pc := 542) (kd := 249) (a := a480) C (Ks.k (Ks.trans (Ks.trans (Ks.trans (Ks.trans (Ks.trans (Ks.trans q488 q492) q496) q500) q504) q508) q512) (gK_nA e483)) rfl h513 dX12_init_542 ?_
  refine x_S (fun S514 e515 => ?_)
  replace hw := hw S514 e515
  have q516 := Ks_uA e515
  refine x_dup (pc := 543) C dX12_init_543 rfl ?_
  refine x_bipush (pc := 544) C (8 : Int32) dX12_init_544 (by decide) ?_
  refine x_bipush (pc := 546) C (107 : Int32) dX12_init_546 (by decide) ?_
  obtain ⟨h517, hw⟩ := hw
  refine x_iast (pc := 548) (kd := 249) (a := a480) C (Ks.k (Ks.trans (Ks.trans (Ks.trans (Ks.trans (Ks.trans (Ks.trans (Ks.trans q488 q492) q496) q500) q504) q508) q512) q516) (gK_nA e483)) rfl h517 dX12_init_548 ?_
  refine x_S (fun S518 e519 => ?_)
  replace hw := hw S518 e519
  have q520 := Ks_uA e519
  refine x_dup (pc := 549) C dX12_init_549 rfl ?_
  refine x_bipush (pc := 550) C (9 : Int32) dX12_init_550 (by decide) ?_
  refine x_bipush (pc := 552) C (100 : Int32) dX12_init_552 (by decide) ?_
  obtain ⟨h521, hw⟩ := hw
  refine x_iast (pc := 554) (kd := 249) (a := a480) C (Ks.k (Ks.trans (Ks.trans (Ks.trans (Ks.trans (Ks.trans (Ks.trans (Ks.trans (Ks.trans q488 q492) q496) q500) q504) q508) q512) q516) q520) (gK_nA e483)) rfl h521 dX12_init_554 ?_
  refine x_S (fun S522 e523 => ?_)
  replace hw := hw S522 e523
  have q524 := Ks_uA e523
  refine x_dup (pc := 555) C dX12_init_555 rfl ?_
  refine x_bipush (pc := 556) C (10 : Int32) dX12_init_556 (by decide) ?_
  refine x_bipush (pc := 558) C (97 : Int32) dX12_init_558 (by decide) ?_
  obtain ⟨h525, hw⟩ := hw
  refine x_iast (pc := 560) (kd := 249) (a := a480) C (Ks.k (Ks.trans (Ks.trans (Ks.trans (Ks.trans (Ks.trans (Ks.trans (Ks.trans (Ks.trans (Ks.trans q488 q492) q496) q500) q504) q508) q512) q516) q520) q524) (gK_nA e483)) rfl h525 dX12_init_560 ?_
  refine x_S (fun S526 e527 => ?_)
  replace hw := hw S526 e527
  have q528 := Ks_uA e527
  refine x_dup (pc := 561) C dX12_init_561 rfl ?_
  refine x_bipush (pc := 562) C (11 : Int32) dX12_init_562 (by decide) ?_
  refine x_bipush (pc := 564) C (121 : Int32) dX12_init_564 (by decide) ?_
  obtain ⟨h529, hw⟩ := hw
  refine x_iast (pc := 566) (kd := 249) (a := a480) C (Ks.k (Ks.trans (Ks.trans (Ks.trans (Ks.trans (Ks.trans (Ks.trans (Ks.trans (Ks.trans (Ks.trans (Ks.trans q488 q492) q496) q500) q504) q508) q512) q516) q520) q524) q528) (gK_nA e483)) rfl h529 dX12_init_566 ?_
  refine x_S (fun S530 e531 => ?_)
  replace hw := hw S530 e531
  have q532 := Ks_uA e531
  refine x_dup (pc := 567) C dX12_init_567 rfl ?_
  refine x_bipush (pc := 568) C (12 : Int32) dX12_init_568 (by decide) ?_
  refine x_iconst (pc := 570) C (0 : Int32) dX12_init_570 (by decide) ?_
  obtain ⟨h533, hw⟩ := hw
  refine x_iast (pc := 571) (kd := 249) (a := a480) C (Ks.k (Ks.trans (Ks.trans (Ks.trans (Ks.trans (Ks.trans (Ks.trans (Ks.trans (Ks.trans (Ks.trans (Ks.trans (Ks.trans q488 q492) q496) q500) q504) q508) q512) q516) q520) q524) q528) q532) (gK_nA e483)) rfl h533 dX12_init_571 ?_
  refine x_S (fun S534 e535 => ?_)
  replace hw := hw S534 e535
  have q536 := Ks_uA e535
  refine x_dup (pc := 572) C dX12_init_572 rfl ?_
  refine x_bipush (pc := 573) C (13 : Int32) dX12_init_573 (by decide) ?_
  refine x_bipush (pc := 575) C (99 : Int32) dX12_init_575 (by decide) ?_
  obtain ⟨h537, hw⟩ := hw
  refine x_iast (pc := 577) (kd := 249) (a := a480) C (Ks.k (Ks.trans (Ks.trans (Ks.trans (Ks.trans (Ks.trans (Ks.trans (Ks.trans (Ks.trans (Ks.trans (Ks.trans (Ks.trans (Ks.trans q488 q492) q496) q500) q504) q508) q512) q516) q520) q524) q528) q532) q536) (gK_nA e483)) rfl h537 dX12_init_577 ?_
  refine x_S (fun S538 e539 => ?_)
  replace hw := hw S538 e539
  have q540 := Ks_uA e539
  refine x_dup (pc := 578) C dX12_init_578 rfl ?_
  refine x_bipush (pc := 579) C (14 : Int32) dX12_init_579 (by decide) ?_
  refine x_bipush (pc := 581) C (108 : Int32) dX12_init_581 (by decide) ?_
  obtain ⟨h541, hw⟩ := hw
  refine x_iast (pc := 583) (kd := 249) (a := a480) C (Ks.k (Ks.trans (Ks.trans (Ks.trans (Ks.trans (Ks.trans (Ks.trans (Ks.trans (Ks.trans (Ks.trans (Ks.trans (Ks.trans (Ks.trans (Ks.trans q488 q492) q496) q500) q504) q508) q512) q516) q520) q524) q528) q532) q536) q540) (gK_nA e483)) rfl h541 dX12_init_583 ?_
  refine x_S (fun S542 e543 => ?_)
  replace hw := hw S542 e543
  have q544 := Ks_uA e543
  refine x_dup (pc := 584) C dX12_init_584 rfl ?_
  refine x_bipush (pc := 585) C (15 : Int32) dX12_init_585 (by decide) ?_
  refine x_bipush (pc := 587) C (111 : Int32) dX12_init_587 (by decide) ?_
  obtain ⟨h545, hw⟩ := hw
  refine x_iast (pc := 589) (kd := 249) (a := a480) C (Ks.k (Ks.trans (Ks.trans (Ks.trans (Ks.trans (Ks.trans (Ks.trans (Ks.trans (Ks.trans (Ks.trans (Ks.trans (Ks.trans (Ks.trans (Ks.trans (Ks.trans q488 q492) q496) q500) q504) q508) q512) q516) q520) q524) q528) q532) q536) q540) q544) (gK_nA e483)) rfl h545 dX12_init_589 ?_
  refine x_S (fun S546 e547 => ?_)
  replace hw := hw S546 e547
  have q548 := Ks_uA e547
  refine x_dup (pc := 590) C dX12_init_590 rfl ?_
  refine x_bipush (pc := 591) C (16 : Int32) dX12_init_591 (by decide) ?_
  refine x_bipush (pc := 593) C (99 : Int32) dX12_init_593 (by decide) ?_
  obtain ⟨h549, hw⟩ := hw
  refine x_iast (pc := 595) (kd := 249) (a := a480) C (Ks.k (Ks.trans (Ks.trans (Ks.trans (Ks.trans (Ks.trans (Ks.trans (Ks.trans (Ks.trans (Ks.trans (Ks.trans (Ks.trans (Ks.trans (Ks.trans (Ks.trans (Ks.trans q488 q492) q496) q500) q504) q508) q512) q516) q520) q524) q528) q532) q536) q540) q544) q548) (gK_nA e483)) rfl h549 dX12_init_595 ?_
  refine x_S (fun S550 e551 => ?_)
  replace hw := hw S550 e551
  have q552 := Ks_uA e551
  refine x_dup (pc := 596) C dX12_init_596 rfl ?_
  refine x_bipush (pc := 597) C (17 : Int32) dX12_init_597 (by decide) ?_
  refine x_bipush (pc := 599) C (107 : Int32) dX12_init_599 (by decide) ?_
  obtain ⟨h553, hw⟩ := hw
  refine x_iast (pc := 601) (kd := 249) (a := a480) C (Ks.k (Ks.trans (Ks.trans (Ks.trans (Ks.trans (Ks.trans (Ks.trans (Ks.trans (Ks.trans (Ks.trans (Ks.trans (Ks.trans (Ks.trans (Ks.trans (Ks.trans (Ks.trans (Ks.trans q488 q492) q496) q500) q504) q508) q512) q516) q520) q524) q528) q532) q536) q540) q544) q548) q552) (gK_nA e483)) rfl h553 dX12_init_601 ?_
  refine x_S (fun S554 e555 => ?_)
  replace hw := hw S554 e555
  have q556 := Ks_uA e555
  refine x_dup (pc := 602) C dX12_init_602 rfl ?_
  refine x_bipush (pc := 603) C (18 : Int32) dX12_init_603 (by decide) ?_
  refine x_iconst (pc := 605) C (0 : Int32) dX12_init_605 (by decide) ?_
  obtain ⟨h557, hw⟩ := hw
  refine x_iast (pc := 606) (kd := 249) (a := a480) C (Ks.k (Ks.trans (Ks.trans (Ks.trans (Ks.trans (Ks.trans (Ks.trans (Ks.trans (Ks.trans (Ks.trans (Ks.trans (Ks.trans (Ks.trans (Ks.trans (Ks.trans (Ks.trans (Ks.trans (Ks.trans q488 q492) q496) q500) q504) q508) q512) q516) q520) q524) q528) q532) q536) q540) q544) q548) q552) q556) (gK_nA e483)) rfl h557 dX12_init_606 ?_
  refine x_S (fun S558 e559 => ?_)
  replace hw := hw S558 e559
  have q560 := Ks_uA e559
  refine x_dup (pc := 607) C dX12_init_607 rfl ?_
  refine x_bipush (pc := 608) C (19 : Int32) dX12_init_608 (by decide) ?_
  refine x_bipush (pc := 610) C (104 : Int32) dX12_init_610 (by decide) ?_
  obtain ⟨h561, hw⟩ := hw
  refine x_iast (pc := 612) (kd := 249) (a := a480) C (Ks.k (Ks.trans (Ks.trans (Ks.trans (Ks.trans (Ks.trans (Ks.trans (Ks.trans (Ks.trans (Ks.trans (Ks.trans (Ks.trans (Ks.trans (Ks.trans (Ks.trans (Ks.trans (Ks.trans (Ks.trans (Ks.trans q488 q492) q496) q500) q504) q508) q512) q516) q520) q524) q528) q532) q536) q540) q544) q548) q552) q556) q560) (gK_nA e483)) rfl h561 dX12_init_612 ?_
  refine x_S (fun S562 e563 => ?_)
  replace hw := hw S562 e563
  have q564 := Ks_uA e563
  refine x_dup (pc := 613) C dX12_init_613 rfl ?_
  refine x_bipush (pc := 614) C (20 : Int32) dX12_init_614 (by decide) ?_
  refine x_bipush (pc := 616) C (111 : Int32) dX12_init_616 (by decide) ?_
  obtain ⟨h565, hw⟩ := hw
  refine x_iast (pc := 618) (kd := 249) (a := a480) C (Ks.k (Ks.trans (Ks.trans (Ks.trans (Ks.trans (Ks.trans (Ks.trans (Ks.trans (Ks.trans (Ks.trans (Ks.trans (Ks.trans (Ks.trans (Ks.trans (Ks.trans (Ks.trans (Ks.trans (Ks.trans (Ks.trans (Ks.trans q488 q492) q496) q500) q504) q508) q512) q516) q520) q524) q528) q532) q536) q540) q544) q548) q552) q556) q560) q564) (gK_nA e483)) rfl h565 dX12_init_618 ?_
  refine x_S (fun S566 e567 => ?_)
  replace hw := hw S566 e567
  have q568 := Ks_uA e567
  refine x_dup (pc := 619) C dX12_init_619 rfl ?_
  refine x_bipush (pc := 620) C (21 : Int32) dX12_init_620 (by decide) ?_
  refine x_bipush (pc := 622) C (117 : Int32) dX12_init_622 (by decide) ?_
  obtain ⟨h569, hw⟩ := hw
  refine x_iast (pc := 624) (kd := 249) (a := a480) C (Ks.k (Ks.trans (Ks.trans (Ks.trans (Ks.trans (Ks.trans (Ks.trans (Ks.trans (Ks.trans (Ks.trans (Ks.trans (Ks.trans (Ks.trans (Ks.trans (Ks.trans (Ks.trans (Ks.trans (Ks.trans (Ks.trans (Ks.trans (Ks.trans q488 q492) q496) q500) q504) q508) q512) q516) q520) q524) q528) q532) q536) q540) q544) q548) q552) q556) q560) q564) q568) (gK_nA e483)) rfl h569 dX12_init_624 ?_
  refine x_S (fun S570 e571 => ?_)
  replace hw := hw S570 e571
  have q572 := Ks_uA e571
  refine x_dup (pc := 625) C dX12_init_625 rfl ?_
  refine x_bipush (pc := 626) C (22 : Int32) dX12_init_626 (by decide) ?_
  refine x_bipush (pc := 628) C (114 : Int32) dX12_init_628 (by decide) ?_
  obtain ⟨h573, hw⟩ := hw
  refine x_iast (pc := 630) (kd := 249) (a := a480) C (Ks.k (Ks.trans (Ks.trans (Ks.trans (Ks.trans (Ks.trans (Ks.trans (Ks.trans (Ks.trans (Ks.trans (Ks.trans (Ks.trans (Ks.trans (Ks.trans (Ks.trans (Ks.trans (Ks.trans (Ks.trans (Ks.trans (Ks.trans (Ks.trans (Ks.trans q488 q492) q496) q500) q504) q508) q512) q516) q520) q524) q528) q532) q536) q540) q544) q548) q552) q556) q560) q564) q568) q572) (gK_nA e483)) rfl h573 dX12_init_630 ?_
  refine x_S (fun S574 e575 => ?_)
  replace hw := hw S574 e575
  have q576 := Ks_uA e575
  refine x_dup (pc := 631) C dX12_init_631 rfl ?_
  refine x_bipush (pc := 632) C (23 : Int32) dX12_init_632 (by decide) ?_
  refine x_iconst (pc := 634) C (0 : Int32) dX12_init_634 (by decide) ?_
  obtain ⟨h577, hw⟩ := hw
  refine x_iast (pc := 635) (kd := 249) (a := a480) C (Ks.k (Ks.trans (Ks.trans (Ks.trans (Ks.trans (Ks.trans (Ks.trans (Ks.trans (Ks.trans (Ks.trans (Ks.trans (Ks.trans (Ks.trans (Ks.trans (Ks.trans (Ks.trans (Ks.trans (Ks.trans (Ks.trans (Ks.trans (Ks.trans (Ks.trans (Ks.trans q488 q492) q496) q500) q504) q508) q512) q516) q520) q524) q528) q532) q536) q540) q544) q548) q552) q556) q560) q564) q568) q572) q576) (gK_nA e483)) rfl h577 dX12_init_635 ?_
  refine x_S (fun S578 e579 => ?_)
  replace hw := hw S578 e579
  have q580 := Ks_uA e579
  refine x_dup (pc := 636) C dX12_init_636 rfl ?_
  refine x_bipush (pc := 637) C (24 : Int32) dX12_init_637 (by decide) ?_
  refine x_bipush (pc := 639) C (111 : Int32) dX12_init_639 (by decide) ?_
  obtain ⟨h581, hw⟩ := hw
  refine x_iast (pc := 641) (kd := 249) (a := a480) C (Ks.k (Ks.trans (Ks.trans (Ks.trans (Ks.trans (Ks.trans (Ks.trans (Ks.trans (Ks.trans (Ks.trans (Ks.trans (Ks.trans (Ks.trans (Ks.trans (Ks.trans (Ks.trans (Ks.trans (Ks.trans (Ks.trans (Ks.trans (Ks.trans (Ks.trans (Ks.trans (Ks.trans q488 q492) q496) q500) q504) q508) q512) q516) q520) q524) q528) q532) q536) q540) q544) q548) q552) q556) q560) q564) q568) q572) q576) q580) (gK_nA e483)) rfl h581 dX12_init_641 ?_
  refine x_S (fun S582 e583 => ?_)
  replace hw := hw S582 e583
  have q584 := Ks_uA e583
  refine x_dup (pc := 642) C dX12_init_642 rfl ?_
  refine x_bipush (pc := 643) C (25 : Int32) dX12_init_643 (by decide) ?_
  refine x_bipush (pc := 645) C (118 : Int32) dX12_init_645 (by decide) ?_
  obtain ⟨h585, hw⟩ := hw
  refine x_iast (pc := 647) (kd := 249) (a := a480) C (Ks.k (Ks.trans (Ks.trans (Ks.trans (Ks.trans (Ks.trans (Ks.trans (Ks.trans (Ks.trans (Ks.trans (Ks.trans (Ks.trans (Ks.trans (Ks.trans (Ks.trans (Ks.trans (Ks.trans (Ks.trans (Ks.trans (Ks.trans (Ks.trans (Ks.trans (Ks.trans (Ks.trans (Ks.trans q488 q492) q496) q500) q504) q508) q512) q516) q520) q524) q528) q532) q536) q540) q544) q548) q552) q556) q560) q564) q568) q572) q576) q580) q584) (gK_nA e483)) rfl h585 dX12_init_647 ?_
  refine x_S (fun S586 e587 => ?_)
  replace hw := hw S586 e587
  have q588 := Ks_uA e587
  refine x_dup (pc := 648) C dX12_init_648 rfl ?_
  refine x_bipush (pc := 649) C (26 : Int32) dX12_init_649 (by decide) ?_
  refine x_bipush (pc := 651) C (101 : Int32) dX12_init_651 (by decide) ?_
  obtain ⟨h589, hw⟩ := hw
  refine x_iast (pc := 653) (kd := 249) (a := a480) C (Ks.k (Ks.trans (Ks.trans (Ks.trans (Ks.trans (Ks.trans (Ks.trans (Ks.trans (Ks.trans (Ks.trans (Ks.trans (Ks.trans (Ks.trans (Ks.trans (Ks.trans (Ks.trans (Ks.trans (Ks.trans (Ks.trans (Ks.trans (Ks.trans (Ks.trans (Ks.trans (Ks.trans (Ks.trans (Ks.trans q488 q492) q496) q500) q504) q508) q512) q516) q520) q524) q528) q532) q536) q540) q544) q548) q552) q556) q560) q564) q568) q572) q576) q580) q584) q588) (gK_nA e483)) rfl h589 dX12_init_653 ?_
  refine x_S (fun S590 e591 => ?_)
  replace hw := hw S590 e591
  have q592 := Ks_uA e591
  refine x_dup (pc := 654) C dX12_init_654 rfl ?_
  refine x_bipush (pc := 655) C (27 : Int32) dX12_init_655 (by decide) ?_
  refine x_bipush (pc := 657) C (114 : Int32) dX12_init_657 (by decide) ?_
  obtain ⟨h593, hw⟩ := hw
  refine x_iast (pc := 659) (kd := 249) (a := a480) C (Ks.k (Ks.trans (Ks.trans (Ks.trans (Ks.trans (Ks.trans (Ks.trans (Ks.trans (Ks.trans (Ks.trans (Ks.trans (Ks.trans (Ks.trans (Ks.trans (Ks.trans (Ks.trans (Ks.trans (Ks.trans (Ks.trans (Ks.trans (Ks.trans (Ks.trans (Ks.trans (Ks.trans (Ks.trans (Ks.trans (Ks.trans q488 q492) q496) q500) q504) q508) q512) q516) q520) q524) q528) q532) q536) q540) q544) q548) q552) q556) q560) q564) q568) q572) q576) q580) q584) q588) q592) (gK_nA e483)) rfl h593 dX12_init_659 ?_
  refine x_S (fun S594 e595 => ?_)
  replace hw := hw S594 e595
  have q596 := Ks_uA e595
  refine x_dup (pc := 660) C dX12_init_660 rfl ?_
  refine x_bipush (pc := 661) C (28 : Int32) dX12_init_661 (by decide) ?_
  refine x_iconst (pc := 663) C (0 : Int32) dX12_init_663 (by decide) ?_
  obtain ⟨h597, hw⟩ := hw
  refine x_iast (pc := 664) (kd := 249) (a := a480) C (Ks.k (Ks.trans (Ks.trans (Ks.trans (Ks.trans (Ks.trans (Ks.trans (Ks.trans (Ks.trans (Ks.trans (Ks.trans (Ks.trans (Ks.trans (Ks.trans (Ks.trans (Ks.trans (Ks.trans (Ks.trans (Ks.trans (Ks.trans (Ks.trans (Ks.trans (Ks.trans (Ks.trans (Ks.trans (Ks.trans (Ks.trans (Ks.trans q488 q492) q496) q500) q504) q508) q512) q516) q520) q524) q528) q532) q536) q540) q544) q548) q552) q556) q560) q564) q568) q572) q576) q580) q584) q588) q592) q596) (gK_nA e483)) rfl h597 dX12_init_664 ?_
  refine x_S (fun S598 e599 => ?_)
  replace hw := hw S598 e599
  have q600 := Ks_uA e599
  refine x_dup (pc := 665) C dX12_init_665 rfl ?_
  refine x_bipush (pc := 666) C (29 : Int32) dX12_init_666 (by decide) ?_
  refine x_bipush (pc := 668) C (108 : Int32) dX12_init_668 (by decide) ?_
  obtain ⟨h601, hw⟩ := hw
  refine x_iast (pc := 670) (kd := 249) (a := a480) C (Ks.k (Ks.trans (Ks.trans (Ks.trans (Ks.trans (Ks.trans (Ks.trans (Ks.trans (Ks.trans (Ks.trans (Ks.trans (Ks.trans (Ks.trans (Ks.trans (Ks.trans (Ks.trans (Ks.trans (Ks.trans (Ks.trans (Ks.trans (Ks.trans (Ks.trans (Ks.trans (Ks.trans (Ks.trans (Ks.trans (Ks.trans (Ks.trans (Ks.trans q488 q492) q496) q500) q504) q508) q512) q516) q520) q524) q528) q532) q536) q540) q544) q548) q552) q556) q560) q564) q568) q572) q576) q580) q584) q588) q592) q596) q600) (gK_nA e483)) rfl h601 dX12_init_670 ?_
  refine x_S (fun S602 e603 => ?_)
  replace hw := hw S602 e603
  have q604 := Ks_uA e603
  refine x_dup (pc := 671) C dX12_init_671 rfl ?_
  refine x_bipush (pc := 672) C (30 : Int32) dX12_init_672 (by decide) ?_
  refine x_bipush (pc := 674) C (97 : Int32) dX12_init_674 (by decide) ?_
  obtain ⟨h605, hw⟩ := hw
  refine x_iast (pc := 676) (kd := 249) (a := a480) C (Ks.k (Ks.trans (Ks.trans (Ks.trans (Ks.trans (Ks.trans (Ks.trans (Ks.trans (Ks.trans (Ks.trans (Ks.trans (Ks.trans (Ks.trans (Ks.trans (Ks.trans (Ks.trans (Ks.trans (Ks.trans (Ks.trans (Ks.trans (Ks.trans (Ks.trans (Ks.trans (Ks.trans (Ks.trans (Ks.trans (Ks.trans (Ks.trans (Ks.trans (Ks.trans q488 q492) q496) q500) q504) q508) q512) q516) q520) q524) q528) q532) q536) q540) q544) q548) q552) q556) q560) q564) q568) q572) q576) q580) q584) q588) q592) q596) q600) q604) (gK_nA e483)) rfl h605 dX12_init_676 ?_
  refine x_S (fun S606 e607 => ?_)
  replace hw := hw S606 e607
  have q608 := Ks_uA e607
  refine x_dup (pc := 677) C dX12_init_677 rfl ?_
  refine x_bipush (pc := 678) C (31 : Int32) dX12_init_678 (by decide) ?_
  refine x_bipush (pc := 680) C (121 : Int32) dX12_init_680 (by decide) ?_
  obtain ⟨h609, hw⟩ := hw
  refine x_iast (pc := 682) (kd := 249) (a := a480) C (Ks.k (Ks.trans (Ks.trans (Ks.trans (Ks.trans (Ks.trans (Ks.trans (Ks.trans (Ks.trans (Ks.trans (Ks.trans (Ks.trans (Ks.trans (Ks.trans (Ks.trans (Ks.trans (Ks.trans (Ks.trans (Ks.trans (Ks.trans (Ks.trans (Ks.trans (Ks.trans (Ks.trans (Ks.trans (Ks.trans (Ks.trans (Ks.trans (Ks.trans (Ks.trans (Ks.trans q488 q492) q496) q500) q504) q508) q512) q516) q520) q524) q528) q532) q536) q540) q544) q548) q552) q556) q560) q564) q568) q572) q576) q580) q584) q588) q592) q596) q600) q604) q608) (gK_nA e483)) rfl h609 dX12_init_682 ?_
  refine x_S (fun S610 e611 => ?_)
  replace hw := hw S610 e611
  have q612 := Ks_uA e611
  refine x_dup (pc := 683) C dX12_init_683 rfl ?_
  refine x_bipush (pc := 684) C (32 : Int32) dX12_init_684 (by decide) ?_
  refine x_iconst (pc := 686) C (0 : Int32) dX12_init_686 (by decide) ?_
  obtain ⟨h613, hw⟩ := hw
  refine x_iast (pc := 687) (kd := 249) (a := a480) C (Ks.k (Ks.trans (Ks.trans (Ks.trans (Ks.trans (Ks.trans (Ks.trans (Ks.trans (Ks.trans (Ks.trans (Ks.trans (Ks.trans (Ks.trans (Ks.trans (Ks.trans (Ks.trans (Ks.trans (Ks.trans (Ks.trans (Ks.trans (Ks.trans (Ks.trans (Ks.trans (Ks.trans (Ks.trans (Ks.trans (Ks.trans (Ks.trans (Ks.trans (Ks.trans (Ks.trans (Ks.trans q488 q492) q496) q500) q504) q508) q512) q516) q520) q524) q528) q532) q536) q540) q544) q548) q552) q556) q560) q564) q568) q572) q576) q580) q584) q588) q592) q596) q600) q604) q608) q612) (gK_nA e483)) rfl h613 dX12_init_687 ?_
  refine x_S (fun S614 e615 => ?_)
  replace hw := hw S614 e615
  have q616 := Ks_uA e615
  refine x_dup (pc := 688) C dX12_init_688 rfl ?_
  refine x_bipush (pc := 689) C (33 : Int32) dX12_init_689 (by decide) ?_
  refine x_bipush (pc := 691) C (111 : Int32) dX12_init_691 (by decide) ?_
  obtain ⟨h617, hw⟩ := hw
  refine x_iast (pc := 693) (kd := 249) (a := a480) C (Ks.k (Ks.trans (Ks.trans (Ks.trans (Ks.trans (Ks.trans (Ks.trans (Ks.trans (Ks.trans (Ks.trans (Ks.trans (Ks.trans (Ks.trans (Ks.trans (Ks.trans (Ks.trans (Ks.trans (Ks.trans (Ks.trans (Ks.trans (Ks.trans (Ks.trans (Ks.trans (Ks.trans (Ks.trans (Ks.trans (Ks.trans (Ks.trans (Ks.trans (Ks.trans (Ks.trans (Ks.trans (Ks.trans q488 q492) q496) q500) q504) q508) q512) q516) q520) q524) q528) q532) q536) q540) q544) q548) q552) q556) q560) q564) q568) q572) q576) q580) q584) q588) q592) q596) q600) q604) q608) q612) q616) (gK_nA e483)) rfl h617 dX12_init_693 ?_
  refine x_S (fun S618 e619 => ?_)
  replace hw := hw S618 e619
  have q620 := Ks_uA e619
  refine x_dup (pc := 694) C dX12_init_694 rfl ?_
  refine x_bipush (pc := 695) C (34 : Int32) dX12_init_695 (by decide) ?_
  refine x_bipush (pc := 697) C (102 : Int32) dX12_init_697 (by decide) ?_
  obtain ⟨h621, hw⟩ := hw
  refine x_iast (pc := 699) (kd := 249) (a := a480) C (Ks.k (Ks.trans (Ks.trans (Ks.trans (Ks.trans (Ks.trans (Ks.trans (Ks.trans (Ks.trans (Ks.trans (Ks.trans (Ks.trans (Ks.trans (Ks.trans (Ks.trans (Ks.trans (Ks.trans (Ks.trans (Ks.trans (Ks.trans (Ks.trans (Ks.trans (Ks.trans (Ks.trans (Ks.trans (Ks.trans (Ks.trans (Ks.trans (Ks.trans (Ks.trans (Ks.trans (Ks.trans (Ks.trans (Ks.trans q488 q492) q496) q500) q504) q508) q512) q516) q520) q524) q528) q532) q536) q540) q544) q548) q552) q556) q560) q564) q568) q572) q576) q580) q584) q588) q592) q596) q600) q604) q608) q612) q616) q620) (gK_nA e483)) rfl h621 dX12_init_699 ?_
  refine x_S (fun S622 e623 => ?_)
  replace hw := hw S622 e623
  have q624 := Ks_uA e623
  refine x_dup (pc := 700) C dX12_init_700 rfl ?_
  refine x_bipush (pc := 701) C (35 : Int32) dX12_init_701 (by decide) ?_
  refine x_bipush (pc := 703) C (102 : Int32) dX12_init_703 (by decide) ?_
  obtain ⟨h625, hw⟩ := hw
  refine x_iast (pc := 705) (kd := 249) (a := a480) C (Ks.k (Ks.trans (Ks.trans (Ks.trans (Ks.trans (Ks.trans (Ks.trans (Ks.trans (Ks.trans (Ks.trans (Ks.trans (Ks.trans (Ks.trans (Ks.trans (Ks.trans (Ks.trans (Ks.trans (Ks.trans (Ks.trans (Ks.trans (Ks.trans (Ks.trans (Ks.trans (Ks.trans (Ks.trans (Ks.trans (Ks.trans (Ks.trans (Ks.trans (Ks.trans (Ks.trans (Ks.trans (Ks.trans (Ks.trans (Ks.trans q488 q492) q496) q500) q504) q508) q512) q516) q520) q524) q528) q532) q536) q540) q544) q548) q552) q556) q560) q564) q568) q572) q576) q580) q584) q588) q592) q596) q600) q604) q608) q612) q616) q620) q624) (gK_nA e483)) rfl h625 dX12_init_705 ?_
  refine x_S (fun S626 e627 => ?_)
  replace hw := hw S626 e627
  have q628 := Ks_uA e627
  refine x_dup (pc := 706) C dX12_init_706 rfl ?_
  refine x_bipush (pc := 707) C (36 : Int32) dX12_init_707 (by decide) ?_
  refine x_iconst (pc := 709) C (0 : Int32) dX12_init_709 (by decide) ?_
  obtain ⟨h629, hw⟩ := hw
  refine x_iast (pc := 710) (kd := 249) (a := a480) C (Ks.k (Ks.trans (Ks.trans (Ks.trans (Ks.trans (Ks.trans (Ks.trans (Ks.trans (Ks.trans (Ks.trans (Ks.trans (Ks.trans (Ks.trans (Ks.trans (Ks.trans (Ks.trans (Ks.trans (Ks.trans (Ks.trans (Ks.trans (Ks.trans (Ks.trans (Ks.trans (Ks.trans (Ks.trans (Ks.trans (Ks.trans (Ks.trans (Ks.trans (Ks.trans (Ks.trans (Ks.trans (Ks.trans (Ks.trans (Ks.trans (Ks.trans q488 q492) q496) q500) q504) q508) q512) q516) q520) q524) q528) q532) q536) q540) q544) q548) q552) q556) q560) q564) q568) q572) q576) q580) q584) q588) q592) q596) q600) q604) q608) q612) q616) q620) q624) q628) (gK_nA e483)) rfl h629 dX12_init_710 ?_
  refine x_S (fun S630 e631 => ?_)
  replace hw := hw S630 e631
  have q632 := Ks_uA e631
  refine x_dup (pc := 711) C dX12_init_711 rfl ?_
  refine x_bipush (pc := 712) C (37 : Int32) dX12_init_712 (by decide) ?_
  refine x_bipush (pc := 714) C (111 : Int32) dX12_init_714 (by decide) ?_
  obtain ⟨h633, hw⟩ := hw
  refine x_iast (pc := 716) (kd := 249) (a := a480) C (Ks.k (Ks.trans (Ks.trans (Ks.trans (Ks.trans (Ks.trans (Ks.trans (Ks.trans (Ks.trans (Ks.trans (Ks.trans (Ks.trans (Ks.trans (Ks.trans (Ks.trans (Ks.trans (Ks.trans (Ks.trans (Ks.trans (Ks.trans (Ks.trans (Ks.trans (Ks.trans (Ks.trans (Ks.trans (Ks.trans (Ks.trans (Ks.trans (Ks.trans (Ks.trans (Ks.trans (Ks.trans (Ks.trans (Ks.trans (Ks.trans (Ks.trans (Ks.trans q488 q492) q496) q500) q504) q508) q512) q516) q520) q524) q528) q532) q536) q540) q544) q548) q552) q556) q560) q564) q568) q572) q576) q580) q584) q588) q592) q596) q600) q604) q608) q612) q616) q620) q624) q628) q632) (gK_nA e483)) rfl h633 dX12_init_716 ?_
  refine x_S (fun S634 e635 => ?_)
  replace hw := hw S634 e635
  have q636 := Ks_uA e635
  refine x_dup (pc := 717) C dX12_init_717 rfl ?_
  refine x_bipush (pc := 718) C (38 : Int32) dX12_init_718 (by decide) ?_
  refine x_bipush (pc := 720) C (114 : Int32) dX12_init_720 (by decide) ?_
  obtain ⟨h637, hw⟩ := hw
  refine x_iast (pc := 722) (kd := 249) (a := a480) C (Ks.k (Ks.trans (Ks.trans (Ks.trans (Ks.trans (Ks.trans (Ks.trans (Ks.trans (Ks.trans (Ks.trans (Ks.trans (Ks.trans (Ks.trans (Ks.trans (Ks.trans (Ks.trans (Ks.trans (Ks.trans (Ks.trans (Ks.trans (Ks.trans (Ks.trans (Ks.trans (Ks.trans (Ks.trans (Ks.trans (Ks.trans (Ks.trans (Ks.trans (Ks.trans (Ks.trans (Ks.trans (Ks.trans (Ks.trans (Ks.trans (Ks.trans (Ks.trans (Ks.trans q488 q492) q496) q500) q504) q508) q512) q516) q520) q524) q528) q532) q536) q540) q544) q548) q552) q556) q560) q564) q568) q572) q576) q580) q584) q588) q592) q596) q600) q604) q608) q612) q616) q620) q624) q628) q632) q636) (gK_nA e483)) rfl h637 dX12_init_722 ?_
  refine x_S (fun S638 e639 => ?_)
  replace hw := hw S638 e639
  have q640 := Ks_uA e639
  refine x_dup (pc := 723) C dX12_init_723 rfl ?_
  refine x_bipush (pc := 724) C (39 : Int32) dX12_init_724 (by decide) ?_
  refine x_iconst (pc := 726) C (0 : Int32) dX12_init_726 (by decide) ?_
  obtain ⟨h641, hw⟩ := hw
  refine x_iast (pc := 727) (kd := 249) (a := a480) C (Ks.k (Ks.trans (Ks.trans (Ks.trans (Ks.trans (Ks.trans (Ks.trans (Ks.trans (Ks.trans (Ks.trans (Ks.trans (Ks.trans (Ks.trans (Ks.trans (Ks.trans (Ks.trans (Ks.trans (Ks.trans (Ks.trans (Ks.trans (Ks.trans (Ks.trans (Ks.trans (Ks.trans (Ks.trans (Ks.trans (Ks.trans (Ks.trans (Ks.trans (Ks.trans (Ks.trans (Ks.trans (Ks.trans (Ks.trans (Ks.trans (Ks.trans (Ks.trans (Ks.trans (Ks.trans q488 q492) q496) q500) q504) q508) q512) q516) q520) q524) q528) q532) q536) q540) q544) q548) q552) q556) q560) q564) q568) q572) q576) q580) q584) q588) q592) q596) q600) q604) q608) q612) q616) q620) q624) q628) q632) q636) q640) (gK_nA e483)) rfl h641 dX12_init_727 ?_
  refine x_S (fun S642 e643 => ?_)
  replace hw := hw S642 e643
  have q644 := Ks_uA e643
  refine x_dup (pc := 728) C dX12_init_728 rfl ?_
  refine x_bipush (pc := 729) C (40 : Int32) dX12_init_729 (by decide) ?_
  refine x_bipush (pc := 731) C (97 : Int32) dX12_init_731 (by decide) ?_
  obtain ⟨h645, hw⟩ := hw
  refine x_iast (pc := 733) (kd := 249) (a := a480) C (Ks.k (Ks.trans (Ks.trans (Ks.trans (Ks.trans (Ks.trans (Ks.trans (Ks.trans (Ks.trans (Ks.trans (Ks.trans (Ks.trans (Ks.trans (Ks.trans (Ks.trans (Ks.trans (Ks.trans (Ks.trans (Ks.trans (Ks.trans (Ks.trans (Ks.trans (Ks.trans (Ks.trans (Ks.trans (Ks.trans (Ks.trans (Ks.trans (Ks.trans (Ks.trans (Ks.trans (Ks.trans (Ks.trans (Ks.trans (Ks.trans (Ks.trans (Ks.trans (Ks.trans (Ks.trans (Ks.trans q488 q492) q496) q500) q504) q508) q512) q516) q520) q524) q528) q532) q536) q540) q544) q548) q552) q556) q560) q564) q568) q572) q576) q580) q584) q588) q592) q596) q600) q604) q608) q612) q616) q620) q624) q628) q632) q636) q640) q644) (gK_nA e483)) rfl h645 dX12_init_733 ?_
  refine x_S (fun S646 e647 => ?_)
  replace hw := hw S646 e647
  have q648 := Ks_uA e647
  refine x_dup (pc := 734) C dX12_init_734 rfl ?_
  refine x_bipush (pc := 735) C (41 : Int32) dX12_init_735 (by decide) ?_
  refine x_bipush (pc := 737) C (110 : Int32) dX12_init_737 (by decide) ?_
  obtain ⟨h649, hw⟩ := hw
  refine x_iast (pc := 739) (kd := 249) (a := a480) C (Ks.k (Ks.trans (Ks.trans (Ks.trans (Ks.trans (Ks.trans (Ks.trans (Ks.trans (Ks.trans (Ks.trans (Ks.trans (Ks.trans (Ks.trans (Ks.trans (Ks.trans (Ks.trans (Ks.trans (Ks.trans (Ks.trans (Ks.trans (Ks.trans (Ks.trans (Ks.trans (Ks.trans (Ks.trans (Ks.trans (Ks.trans (Ks.trans (Ks.trans (Ks.trans (Ks.trans (Ks.trans (Ks.trans (Ks.trans (Ks.trans (Ks.trans (Ks.trans (Ks.trans (Ks.trans (Ks.trans (Ks.trans q488 q492) q496) q500) q504) q508) q512) q516) q520) q524) q528) q532) q536) q540) q544) q548) q552) q556) q560) q564) q568) q572) q576) q580) q584) q588) q592) q596) q600) q604) q608) q612) q616) q620) q624) q628) q632) q636) q640) q644) q648) (gK_nA e483)) rfl h649 dX12_init_739 ?_
  refine x_S (fun S650 e651 => ?_)
  replace hw := hw S650 e651
  have q652 := Ks_uA e651
  refine x_dup (pc := 740) C dX12_init_740 rfl ?_
  refine x_bipush (pc := 741) C (42 : Int32) dX12_init_741 (by decide) ?_
  refine x_bipush (pc := 743) C (100 : Int32) dX12_init_743 (by decide) ?_
  obtain ⟨h653, hw⟩ := hw
  refine x_iast (pc := 745) (kd := 249) (a := a480) C (Ks.k (Ks.trans (Ks.trans (Ks.trans (Ks.trans (Ks.trans (Ks.trans (Ks.trans (Ks.trans (Ks.trans (Ks.trans (Ks.trans (Ks.trans (Ks.trans (Ks.trans (Ks.trans (Ks.trans (Ks.trans (Ks.trans (Ks.trans (Ks.trans (Ks.trans (Ks.trans (Ks.trans (Ks.trans (Ks.trans (Ks.trans (Ks.trans (Ks.trans (Ks.trans (Ks.trans (Ks.trans (Ks.trans (Ks.trans (Ks.trans (Ks.trans (Ks.trans (Ks.trans (Ks.trans (Ks.trans (Ks.trans (Ks.trans q488 q492) q496) q500) q504) q508) q512) q516) q520) q524) q528) q532) q536) q540) q544) q548) q552) q556) q560) q564) q568) q572) q576) q580) q584) q588) q592) q596) q600) q604) q608) q612) q616) q620) q624) q628) q632) q636) q640) q644) q648) q652) (gK_nA e483)) rfl h653 dX12_init_745 ?_
  refine x_S (fun S654 e655 => ?_)
  replace hw := hw S654 e655
  have q656 := Ks_uA e655
  refine x_dup (pc := 746) C dX12_init_746 rfl ?_
  refine x_bipush (pc := 747) C (43 : Int32) dX12_init_747 (by decide) ?_
  refine x_iconst (pc := 749) C (0 : Int32) dX12_init_749 (by decide) ?_
  obtain ⟨h657, hw⟩ := hw
  refine x_iast (pc := 750) (kd := 249) (a := a480) C (Ks.k (Ks.trans (Ks.trans (Ks.trans (Ks.trans (Ks.trans (Ks.trans (Ks.trans (Ks.trans (Ks.trans (Ks.trans (Ks.trans (Ks.trans (Ks.trans (Ks.trans (Ks.trans (Ks.trans (Ks.trans (Ks.trans (Ks.trans (Ks.trans (Ks.trans (Ks.trans (Ks.trans (Ks.trans (Ks.trans (Ks.trans (Ks.trans (Ks.trans (Ks.trans (Ks.trans (Ks.trans (Ks.trans (Ks.trans (Ks.trans (Ks.trans (Ks.trans (Ks.trans (Ks.trans (Ks.trans (Ks.trans (Ks.trans (Ks.trans q488 q492) q496) q500) q504) q508) q512) q516) q520) q524) q528) q532) q536) q540) q544) q548) q552) q556) q560) q564) q568) q572) q576) q580) q584) q588) q592) q596) q600) q604) q608) q612) q616) q620) q624) q628) q632) q636) q640) q644) q648) q652) q656) (gK_nA e483)) rfl h657 dX12_init_750 ?_
  refine x_S (fun S658 e659 => ?_)
  replace hw := hw S658 e659
  have q660 := Ks_uA e659
  refine x_dup (pc := 751) C dX12_init_751 rfl ?_
  refine x_bipush (pc := 752) C (44 : Int32) dX12_init_752 (by decide) ?_
  refine x_bipush (pc := 754) C (110 : Int32) dX12_init_754 (by decide) ?_
  obtain ⟨h661, hw⟩ := hw
  refine x_iast (pc := 756) (kd := 249) (a := a480) C (Ks.k (Ks.trans (Ks.trans (Ks.trans (Ks.trans (Ks.trans (Ks.trans (Ks.trans (Ks.trans (Ks.trans (Ks.trans (Ks.trans (Ks.trans (Ks.trans (Ks.trans (Ks.trans (Ks.trans (Ks.trans (Ks.trans (Ks.trans (Ks.trans (Ks.trans (Ks.trans (Ks.trans (Ks.trans (Ks.trans (Ks.trans (Ks.trans (Ks.trans (Ks.trans (Ks.trans (Ks.trans (Ks.trans (Ks.trans (Ks.trans (Ks.trans (Ks.trans (Ks.trans (Ks.trans (Ks.trans (Ks.trans (Ks.trans (Ks.trans (Ks.trans q488 q492) q496) q500) q504) q508) q512) q516) q520) q524) q528) q532) q536) q540) q544) q548) q552) q556) q560) q564) q568) q572) q576) q580) q584) q588) q592) q596) q600) q604) q608) q612) q616) q620) q624) q628) q632) q636) q640) q644) q648) q652) q656) q660) (gK_nA e483)) rfl h661 dX12_init_756 ?_
  refine x_S (fun S662 e663 => ?_)
  replace hw := hw S662 e663
  have q664 := Ks_uA e663
  refine x_dup (pc := 757) C dX12_init_757 rfl ?_
  refine x_bipush (pc := 758) C (45 : Int32) dX12_init_758 (by decide) ?_
  refine x_bipush (pc := 760) C (111 : Int32) dX12_init_760 (by decide) ?_
  obtain ⟨h665, hw⟩ := hw
  refine x_iast (pc := 762) (kd := 249) (a := a480) C (Ks.k (Ks.trans (Ks.trans (Ks.trans (Ks.trans (Ks.trans (Ks.trans (Ks.trans (Ks.trans (Ks.trans (Ks.trans (Ks.trans (Ks.trans (Ks.trans (Ks.trans (Ks.trans (Ks.trans (Ks.trans (Ks.trans (Ks.trans (Ks.trans (Ks.trans (Ks.trans (Ks.trans (Ks.trans (Ks.trans (Ks.trans (Ks.trans (Ks.trans (Ks.trans (Ks.trans (Ks.trans (Ks.trans (Ks.trans (Ks.trans (Ks.trans (Ks.trans (Ks.trans (Ks.trans (Ks.trans (Ks.trans (Ks.trans (Ks.trans (Ks.trans (Ks.trans q488 q492) q496) q500) q504) q508) q512) q516) q520) q524) q528) q532) q536) q540) q544) q548) q552) q556) q560) q564) q568) q572) q576) q580) q584) q588) q592) q596) q600) q604) q608) q612) q616) q620) q624) q628) q632) q636) q640) q644) q648) q652) q656) q660) q664) (gK_nA e483)) rfl h665 dX12_init_762 ?_
  refine x_S (fun S666 e667 => ?_)
  replace hw := hw S666 e667
  have q668 := Ks_uA e667
  refine x_dup (pc := 763) C dX12_init_763 rfl ?_
  refine x_bipush (pc := 764) C (46 : Int32) dX12_init_764 (by decide) ?_
  refine x_bipush (pc := 766) C (116 : Int32) dX12_init_766 (by decide) ?_
  obtain ⟨h669, hw⟩ := hw
  refine x_iast (pc := 768) (kd := 249) (a := a480) C (Ks.k (Ks.trans (Ks.trans (Ks.trans (Ks.trans (Ks.trans (Ks.trans (Ks.trans (Ks.trans (Ks.trans (Ks.trans (Ks.trans (Ks.trans (Ks.trans (Ks.trans (Ks.trans (Ks.trans (Ks.trans (Ks.trans (Ks.trans (Ks.trans (Ks.trans (Ks.trans (Ks.trans (Ks.trans (Ks.trans (Ks.trans (Ks.trans (Ks.trans (Ks.trans (Ks.trans (Ks.trans (Ks.trans (Ks.trans (Ks.trans (Ks.trans (Ks.trans (Ks.trans (Ks.trans (Ks.trans (Ks.trans (Ks.trans (Ks.trans (Ks.trans (Ks.trans (Ks.trans q488 q492) q496) q500) q504) q508) q512) q516) q520) q524) q528) q532) q536) q540) q544) q548) q552) q556) q560) q564) q568) q572) q576) q580) q584) q588) q592) q596) q600) q604) q608) q612) q616) q620) q624) q628) q632) q636) q640) q644) q648) q652) q656) q660) q664) q668) (gK_nA e483)) rfl h669 dX12_init_768 ?_
  refine x_S (fun S670 e671 => ?_)
  replace hw := hw S670 e671
  have q672 := Ks_uA e671
  refine x_dup (pc := 769) C dX12_init_769 rfl ?_
  refine x_bipush (pc := 770) C (47 : Int32) dX12_init_770 (by decide) ?_
  refine x_iconst (pc := 772) C (0 : Int32) dX12_init_772 (by decide) ?_
  obtain ⟨h673, hw⟩ := hw
  refine x_iast (pc := 773) (kd := 249) (a := a480) C (Ks.k (Ks.trans (Ks.trans (Ks.trans (Ks.trans (Ks.trans (Ks.trans (Ks.trans (Ks.trans (Ks.trans (Ks.trans (Ks.trans (Ks.trans (Ks.trans (Ks.trans (Ks.trans (Ks.trans (Ks.trans (Ks.trans (Ks.trans (Ks.trans (Ks.trans (Ks.trans (Ks.trans (Ks.trans (Ks.trans (Ks.trans (Ks.trans (Ks.trans (Ks.trans (Ks.trans (Ks.trans (Ks.trans (Ks.trans (Ks.trans (Ks.trans (Ks.trans (Ks.trans (Ks.trans (Ks.trans (Ks.trans (Ks.trans (Ks.trans (Ks.trans (Ks.trans (Ks.trans (Ks.trans q488 q492) q496) q500) q504) q508) q512) q516) q520) q524) q528) q532) q536) q540) q544) q548) q552) q556) q560) q564) q568) q572) q576) q580) q584) q588) q592) q596) q600) q604) q608) q612) q616) q620) q624) q628) q632) q636) q640) q644) q648) q652) q656) q660) q664) q668) q672) (gK_nA e483)) rfl h673 dX12_init_773 ?_
  refine x_S (fun S674 e675 => ?_)
  replace hw := hw S674 e675
  have q676 := Ks_uA e675
  obtain ⟨h677, hw⟩ := hw
  refine x_putRF (pc := 774) C (v := (some a480)) fw_X12_129 (Ks.k (Ks.trans (Ks.trans (Ks.trans (Ks.trans (Ks.trans (Ks.trans (Ks.trans (Ks.trans (Ks.trans (Ks.trans (Ks.trans (Ks.trans (Ks.trans (Ks.trans (Ks.trans (Ks.trans (Ks.trans (Ks.trans (Ks.trans (Ks.trans (Ks.trans (Ks.trans (Ks.trans (Ks.trans (Ks.trans (Ks.trans (Ks.trans (Ks.trans (Ks.trans (Ks.trans (Ks.trans (Ks.trans (Ks.trans (Ks.trans (Ks.trans (Ks.trans (Ks.trans (Ks.trans (Ks.trans (Ks.trans (Ks.trans (Ks.trans (Ks.trans (Ks.trans (Ks.trans (Ks.trans (Ks.trans (Ks.trans (Ks.trans (Ks.trans (Ks.trans (Ks.trans (Ks.trans (Ks.trans (Ks.trans (Ks.trans (Ks.trans (Ks.trans (Ks.trans (Ks.trans (Ks.trans (Ks.trans (Ks.trans (Ks.trans (Ks.trans (Ks.trans (Ks.trans (Ks.trans (Ks.trans (Ks.trans (Ks.trans (Ks.trans (Ks.trans (Ks.trans (Ks.trans (Ks.trans (Ks.trans (Ks.trans (Ks.trans (Ks.trans (Ks.trans (Ks.trans (Ks.trans (Ks.trans (Ks.trans (Ks.trans (Ks.trans (Ks.trans (Ks.trans (Ks.trans (Ks.trans (Ks.trans (Ks.trans (Ks.trans (Ks.trans (Ks.trans (Ks.trans (Ks.trans (Ks.trans (Ks.trans (Ks.trans (Ks.trans (Ks.trans (Ks.trans (Ks.trans (Ks.trans (Ks.trans (Ks.trans (Ks.trans (Ks.trans (Ks.trans (Ks.trans (Ks.trans (Ks.trans (Ks.trans (Ks.trans (Ks.trans (Ks.trans (Ks.trans (Ks.trans (Ks.trans (Ks.trans (Ks.trans (Ks.trans (Ks.trans (Ks.trans (Ks.trans (Ks.trans (Ks.trans (Ks.trans (Ks.trans (Ks.trans (Ks.trans (Ks.trans (Ks.trans (Ks.trans (Ks.trans (Ks.trans (Ks.trans (Ks.trans (Ks.trans (Ks.trans (Ks.trans (Ks.trans (Ks.trans (Ks.trans (Ks.trans (Ks.trans (Ks.trans (Ks.trans (Ks.trans (Ks.trans (Ks.trans (Ks.trans (Ks.trans (Ks.trans (Ks.trans (Ks.trans q5 q9) q14) q18) q23) q27) q32) q36) q41) q45) q50) q54) q59) q63) q68) q72) q77) q81) q86) q90) q95) q99) q104) q108) q113) q117) q122) q126) q131) q135) q140) q144) q149) q153) q158) q162) q167) q171) q176) q180) q185) q189) q194) q198) q203) q207) q212) q216) q221) q225) q230) q234) q239) q243) q248) q252) q257) q261) q266) q270) q275) q279) q284) q288) q293) q297) q302) q306) q311) q315) q320) q324) q328) q332) q336) q340) q344) q348) q352) q356) q360) q364) q368) q372) q376) q380) q384) q388) q392) q396) q400) q404) q408) q412) q416) q420) q424) q428) q432) q436) q440) q444) q448) q452) q457) q461) q466) q470) q475) q479) q484) q488) q492) q496) q500) q504) q508) q512) q516) q520) q524) q528) q532) q536) q540) q544) q548) q552) q556) q560) q564) q568) q572) q576) q580) q584) q588) q592) q596) q600) q604) q608) q612) q616) q620) q624) q628) q632) q636) q640) q644) q648) q652) q656) q660) q664) q668) q672) q676) k_x0) rfl rfl (hin) dX12_init_774 ?_
  refine x_S (fun S678 e679 => ?_)
  replace hw := hw S678 e679
  have q680 := Ks_uR e679 (Or.inr (Or.inr h677))
  refine x_aload_n (pc := 777) C 0 rfl dX12_init_777 rfl ?_
  refine x_sipush (pc := 778) C (180 : Int32) dX12_init_778 (by decide) ?_
  refine x_newaG (pc := 781) C (kd := 259) (N := 180) 1 rfl (by decide) dX12_init_781 (tb1 107 rfl rfl) rfl (fun _ => rfl) (by decide) (by decide) (by decide) (by decide) (by decide) (fun a681 z682 => ?_)
  replace hw := hw a681 z682
  refine x_S (fun S683 e684 => ?_)
  replace hw := hw S683 e684
  have q685 := Ks_nA z682 e684
  obtain ⟨h686, hw⟩ := hw
  refine x_putRF (pc := 783) C (v := (some a681)) fw_X12_132 (Ks.k (Ks.trans (Ks.trans (Ks.trans (Ks.trans (Ks.trans (Ks.trans (Ks.trans (Ks.trans (Ks.trans (Ks.trans (Ks.trans (Ks.trans (Ks.trans (Ks.trans (Ks.trans (Ks.trans (Ks.trans (Ks.trans (Ks.trans (Ks.trans (Ks.trans (Ks.trans (Ks.trans (Ks.trans (Ks.trans (Ks.trans (Ks.trans (Ks.trans (Ks.trans (Ks.trans (Ks.trans (Ks.trans (Ks.trans (Ks.trans (Ks.trans (Ks.trans (Ks.trans (Ks.trans (Ks.trans (Ks.trans (Ks.trans (Ks.trans (Ks.trans (Ks.trans (Ks.trans (Ks.trans (Ks.trans (Ks.trans (Ks.trans (Ks.trans (Ks.trans (Ks.trans (Ks.trans (Ks.trans (Ks.trans (Ks.trans (Ks.trans (Ks.trans (Ks.trans (Ks.trans (Ks.trans (Ks.trans (Ks.trans (Ks.trans (Ks.trans (Ks.trans (Ks.trans (Ks.trans (Ks.trans (Ks.trans (Ks.trans (Ks.trans (Ks.trans (Ks.trans (Ks.trans (Ks.trans (Ks.trans (Ks.trans (Ks.trans (Ks.trans (Ks.trans (Ks.trans (Ks.trans (Ks.trans (Ks.trans (Ks.trans (Ks.trans (Ks.trans (Ks.trans (Ks.trans (Ks.trans (Ks.trans (Ks.trans (Ks.trans (Ks.trans (Ks.trans (Ks.trans (Ks.trans (Ks.trans (Ks.trans (Ks.trans (Ks.trans (Ks.trans (Ks.trans (Ks.trans (Ks.trans (Ks.trans (Ks.trans (Ks.trans (Ks.trans (Ks.trans (Ks.trans (Ks.trans (Ks.trans (Ks.trans (Ks.trans (Ks.trans (Ks.trans (Ks.trans (Ks.trans (Ks.trans (Ks.trans (Ks.trans (Ks.trans (Ks.trans (Ks.trans (Ks.trans (Ks.trans (Ks.trans (Ks.trans (Ks.trans (Ks.trans (Ks.trans (Ks.trans (Ks.trans (Ks.trans (Ks.trans (Ks.trans (Ks.trans (Ks.trans (Ks.trans (Ks.trans (Ks.trans (Ks.trans (Ks.trans (Ks.trans (Ks.trans (Ks.trans (Ks.trans (Ks.trans (Ks.trans (Ks.trans (Ks.trans (Ks.trans (Ks.trans (Ks.trans (Ks.trans (Ks.trans (Ks.trans (Ks.trans q5 q9) q14) q18) q23) q27) q32) q36) q41) q45) q50) q54) q59) q63) q68) q72) q77) q81) q86) q90) q95) q99) q104) q108) q113) q117) q122) q126) q131) q135) q140) q144) q149) q153) q158) q162) q167) q171) q176) q180) q185) q189) q194) q198) q203) q207) q212) q216) q221) q225) q230) q234) q239) q243) q248) q252) q257) q261) q266) q270) q275) q279) q284) q288) q293) q297) q302) q306) q311) q315) q320) q324) q328) q332) q336) q340) q344) q348) q352) q356) q360) q364) q368) q372) q376) q380) q384) q388) q392) q396) q400) q404) q408) q412) q416) q420) q424) q428) q432) q436) q440) q444) q448) q452) q457) q461) q466) q470) q475) q479) q484) q488) q492) q496) q500) q504) q508) q512) q516) q520) q524) q528) q532) q536) q540) q544) q548) q552) q556) q560) q564) q568) q572) q576) q580) q584) q588) q592) q596) q600) q604) q608) q612) q616) q620) q624) q628) q632) q636) q640) q644) q648) q652) q656) q660) q664) q668) q672) q676) q680) q685) k_x0) rfl rfl (hin) dX12_init_783 ?_
  refine x_S (fun S687 e688 => ?_)
  replace hw := hw S687 e688
  have q689 := Ks_uR e688 (Or.inr (Or.inr h686))
  refine x_iconst (pc := 786) C (0 : Int32) dX12_init_786 (by decide) ?_
  refine x_istore_n (pc := 787) (i := 1) C [(1, .int (0 : Int32)), (0, .ref x0)] dX12_init_787 rfl (by decide) rfl ?_
  obtain ⟨n690, hw⟩ := hw
  have L_n690 : ∀ (K_n690_815 : Int32 → HSt → Prop), (∀ (w691 : Int32) (SX : HSt), Ks S687 SX → K_n690_815 w691 SX → Wx p l e (rmL 87 41 19154) s m args below meth c (MQ below (Qx G vV (fun r S' => Post r S' ∧ Ks S S')) args s 41 19154 G.2.2) G 2 41 19154 SX 815 [(1, .int w691), (0, .ref x0)] []) → ∀ (n : Nat) (w691 : Int32) (S692 : HSt), Ks S687 S692 → lp_X12_init_788a x0 K_n690_815 n w691 S692 → Wx p l e (rmL 87 41 19154) s m args below meth c (MQ below (Qx G vV (fun r S' => Post r S' ∧ Ks S S')) args s 41 19154 G.2.2) G 2 41 19154 S692 788 [(1, .int w691), (0, .ref x0)] [] := by
    intro K_n690_815 X_K_n690_815 n
    induction n with
    | zero => intro w691 S692 q693 hw; exact hw.elim
    | succ n690 ih_n690 =>
      intro w691 S692 q693 hw
      unfold lp_X12_init_788a at hw
      refine x_iload_n (pc := 788) C 0 rfl dX12_init_788 rfl ?_
      refine x_aload_n (pc := 789) C 1 rfl dX12_init_789 rfl ?_
      refine x_getR (pc := 790) C fr_X12_117 (Ks.k (Ks.trans (Ks.trans (Ks.trans (Ks.trans (Ks.trans (Ks.trans (Ks.trans (Ks.trans (Ks.trans (Ks.trans (Ks.trans (Ks.trans (Ks.trans (Ks.trans (Ks.trans (Ks.trans (Ks.trans (Ks.trans (Ks.trans (Ks.trans (Ks.trans (Ks.trans (Ks.trans (Ks.trans (Ks.trans (Ks.trans (Ks.trans (Ks.trans (Ks.trans (Ks.trans (Ks.trans (Ks.trans (Ks.trans (Ks.trans (Ks.trans (Ks.trans (Ks.trans (Ks.trans (Ks.trans (Ks.trans (Ks.trans (Ks.trans (Ks.trans (Ks.trans (Ks.trans (Ks.trans (Ks.trans (Ks.trans (Ks.trans (Ks.trans (Ks.trans (Ks.trans (Ks.trans (Ks.trans (Ks.trans (Ks.trans (Ks.trans (Ks.trans (Ks.trans (Ks.trans (Ks.trans (Ks.trans (Ks.trans (Ks.trans (Ks.trans (Ks.trans (Ks.trans (Ks.trans (Ks.trans (Ks.trans (Ks.trans (Ks.trans (Ks.trans (Ks.trans (Ks.trans (Ks.trans (Ks.trans (Ks.trans (Ks.trans (Ks.trans (Ks.trans (Ks.trans (Ks.trans (Ks.trans (Ks.trans (Ks.trans (Ks.trans (Ks.trans (Ks.trans (Ks.trans (Ks.trans (Ks.trans (Ks.trans (Ks.trans (Ks.trans (Ks.trans (Ks.trans (Ks.trans (Ks.trans (Ks.trans (Ks.trans (Ks.trans (Ks.trans (Ks.trans (Ks.trans (Ks.trans (Ks.trans (Ks.trans (Ks.trans (Ks.trans (Ks.trans (Ks.trans (Ks.trans (Ks.trans (Ks.trans (Ks.trans (Ks.trans (Ks.trans (Ks.trans (Ks.trans (Ks.trans (Ks.trans (Ks.trans (Ks.trans (Ks.trans (Ks.trans (Ks.trans (Ks.trans (Ks.trans (Ks.trans (Ks.trans (Ks.trans (Ks.trans (Ks.trans (Ks.trans (Ks.trans (Ks.trans (Ks.trans (Ks.trans (Ks.trans (Ks.trans (Ks.trans (Ks.trans (Ks.trans (Ks.trans (Ks.trans (Ks.trans (Ks.trans (Ks.trans (Ks.trans (Ks.trans (Ks.trans (Ks.trans (Ks.trans (Ks.trans (Ks.trans (Ks.trans (Ks.trans (Ks.trans (Ks.trans (Ks.trans (Ks.trans q5 q9) q14) q18) q23) q27) q32) q36) q41) q45) q50) q54) q59) q63) q68) q72) q77) q81) q86) q90) q95) q99) q104) q108) q113) q117) q122) q126) q131) q135) q140) q144) q149) q153) q158) q162) q167) q171) q176) q180) q185) q189) q194) q198) q203) q207) q212) q216) q221) q225) q230) q234) q239) q243) q248) q252) q257) q261) q266) q270) q275) q279) q284) q288) q293) q297) q302) q306) q311) q315) q320) q324) q328) q332) q336) q340) q344) q348) q352) q356) q360) q364) q368) q372) q376) q380) q384) q388) q392) q396) q400) q404) q408) q412) q416) q420) q424) q428) q432) q436) q440) q444) q448) q452) q457) q461) q466) q470) q475) q479) q484) q488) q492) q496) q500) q504) q508) q512) q516) q520) q524) q528) q532) q536) q540) q544) q548) q552) q556) q560) q564) q568) q572) q576) q580) q584) q588) q592) q596) q600) q604) q608) q612) q616) q620) q624) q628) q632) q636) q640) q644) q648) q652) q656) q660) q664) q668) q672) q676) q680) q685) q689) q693) k_x0) dX12_init_790 ?_
      obtain ⟨b694, h695, hw⟩ := hw
      refine x_deref h695 ?_
      obtain ⟨k696, hw⟩ := hw
      refine x_alen (pc := 793) C k696 (by decide) dX12_init_793 ?_
      refine x_ic_ge (pc := 794) C 815 dX12_init_794 (by decide) (fun c697 => ?_) (fun c697 => ?_)
      · replace hw := hw.1 c697
        exact X_K_n690_815 w691 S692 q693 hw
      · replace hw := hw.2 c697
        refine x_aload_n (pc := 797) C 1 rfl dX12_init_797 rfl ?_
        refine x_getR (pc := 798) C fr_X12_69 (Ks.k (Ks.trans (Ks.trans (Ks.trans (Ks.trans (Ks.trans (Ks.trans (Ks.trans (Ks.trans (Ks.trans (Ks.trans (Ks.trans (Ks.trans (Ks.trans (Ks.trans (Ks.trans (Ks.trans (Ks.trans (Ks.trans (Ks.trans (Ks.trans (Ks.trans (Ks.trans (Ks.trans (Ks.trans (Ks.trans (Ks.trans (Ks.trans (Ks.trans (Ks.trans (Ks.trans (Ks.trans (Ks.trans (Ks.trans (Ks.trans (Ks.trans (Ks.trans (Ks.trans (Ks.trans (Ks.trans (Ks.trans (Ks.trans (Ks.trans (Ks.trans (Ks.trans (Ks.trans (Ks.trans (Ks.trans (Ks.trans (Ks.trans (Ks.trans (Ks.trans (Ks.trans (Ks.trans (Ks.trans (Ks.trans (Ks.trans (Ks.trans (Ks.trans (Ks.trans (Ks.trans (Ks.trans (Ks.trans (Ks.trans (Ks.trans (Ks.trans (Ks.trans (Ks.trans (Ks.trans (Ks.trans (Ks.trans (Ks.trans (Ks.trans (Ks.trans (Ks.trans (Ks.trans (Ks.trans (Ks.trans (Ks.trans (Ks.trans (Ks.trans (Ks.trans (Ks.trans (Ks.trans (Ks.trans (Ks.trans (Ks.trans (Ks.trans (Ks.trans (Ks.trans (Ks.trans (Ks.trans (Ks.trans (Ks.trans (Ks.trans (Ks.trans (Ks.trans (Ks.trans (Ks.trans (Ks.trans (Ks.trans (Ks.trans (Ks.trans (Ks.trans (Ks.trans (Ks.trans (Ks.trans (Ks.trans (Ks.trans (Ks.trans (Ks.trans (Ks.trans (Ks.trans (Ks.trans (Ks.trans (Ks.trans (Ks.trans (Ks.trans (Ks.trans (Ks.trans (Ks.trans (Ks.trans (Ks.trans (Ks.trans (Ks.trans (Ks.trans (Ks.trans (Ks.trans (Ks.trans (Ks.trans (Ks.trans (Ks.trans (Ks.trans (Ks.trans (Ks.trans (Ks.trans (Ks.trans (Ks.trans (Ks.trans (Ks.trans (Ks.trans (Ks.trans (Ks.trans (Ks.trans (Ks.trans (Ks.trans (Ks.trans (Ks.trans (Ks.trans (Ks.trans (Ks.trans (Ks.trans (Ks.trans (Ks.trans (Ks.trans (Ks.trans (Ks.trans (Ks.trans (Ks.trans (Ks.trans (Ks.trans (Ks.trans (Ks.trans q5 q9) q14) q18) q23) q27) q32) q36) q41) q45) q50) q54) q59) q63) q68) q72) q77) q81) q86) q90) q95) q99) q104) q108) q113) q117) q122) q126) q131) q135) q140) q144) q149) q153) q158) q162) q167) q171) q176) q180) q185) q189) q194) q198) q203) q207) q212) q216) q221) q225) q230) q234) q239) q243) q248) q252) q257) q261) q266) q270) q275) q279) q284) q288) q293) q297) q302) q306) q311) q315) q320) q324) q328) q332) q336) q340) q344) q348) q352) q356) q360) q364) q368) q372) q376) q380) q384) q388) q392) q396) q400) q404) q408) q412) q416) q420) q424) q428) q432) q436) q440) q444) q448) q452) q457) q461) q466) q470) q475) q479) q484) q488) q492) q496) q500) q504) q508) q512) q516) q520) q524) q528) q532) q536) q540) q544) q548) q552) q556) q560) q564) q568) q572) q576) q580) q584) q588) q592) q596) q600) q604) q608) q612) q616) q620) q624) q628) q632) q636) q640) q644) q648) q652) q656) q660) q664) q668) q672) q676) q680) q685) q689) q693) k_x0) dX12_init_798 ?_
        obtain ⟨b698, h699, hw⟩ := hw
        refine x_deref h699 ?_
        refine x_iload_n (pc := 801) C 0 rfl dX12_init_801 rfl ?_
        refine x_aload_n (pc := 802) C 1 rfl dX12_init_802 rfl ?_
        refine x_getR (pc := 803) C fr_X12_117 (Ks.k (Ks.trans (Ks.trans (Ks.trans (Ks.trans (Ks.trans (Ks.trans (Ks.trans (Ks.trans (Ks.trans (Ks.trans (Ks.trans (Ks.trans (Ks.trans (Ks.trans (Ks.trans (Ks.trans (Ks.trans (Ks.trans (Ks.trans (Ks.trans (Ks.trans (Ks.trans (Ks.trans (Ks.trans (Ks.trans (Ks.trans (Ks.trans (Ks.trans (Ks.trans (Ks.trans (Ks.trans (Ks.trans (Ks.trans (Ks.trans (Ks.trans (Ks.trans (Ks.trans (Ks.trans (Ks.trans (Ks.trans (Ks.trans (Ks.trans (Ks.trans (Ks.trans (Ks.trans (Ks.trans (Ks.trans (Ks.trans (Ks.trans (Ks.trans (Ks.trans (Ks.trans (Ks.trans (Ks.trans (Ks.trans (Ks.trans (Ks.trans (Ks.trans (Ks.trans (Ks.trans (Ks.trans (Ks.trans (Ks.trans (Ks.trans (Ks.trans (Ks.trans (Ks.trans (Ks.trans (Ks.trans (Ks.trans (Ks.trans (Ks.trans (Ks.trans (Ks.trans (Ks.trans (Ks.trans (Ks.trans (Ks.trans (Ks.trans (Ks.trans (Ks.trans (Ks.trans (Ks.trans (Ks.trans (Ks.trans (Ks.trans (Ks.trans (Ks.trans (Ks.trans (Ks.trans (Ks.trans (Ks.trans (Ks.trans (Ks.trans (Ks.trans (Ks.trans (Ks.trans (Ks.trans (Ks.trans (Ks.trans (Ks.trans (Ks.trans (Ks.trans (Ks.trans (Ks.trans (Ks.trans (Ks.trans (Ks.trans (Ks.trans (Ks.trans (Ks.trans (Ks.trans (Ks.trans (Ks.trans (Ks.trans (Ks.trans (Ks.trans (Ks.trans (Ks.trans (Ks.trans (Ks.trans (Ks.trans (Ks.trans (Ks.trans (Ks.trans (Ks.trans (Ks.trans (Ks.trans (Ks.trans (Ks.trans (Ks.trans (Ks.trans (Ks.trans (Ks.trans (Ks.trans (Ks.trans (Ks.trans (Ks.trans (Ks.trans (Ks.trans (Ks.trans (Ks.trans (Ks.trans (Ks.trans (Ks.trans (Ks.trans (Ks.trans (Ks.trans (Ks.trans (Ks.trans (Ks.trans (Ks.trans (Ks.trans (Ks.trans (Ks.trans (Ks.trans (Ks.trans (Ks.trans (Ks.trans (Ks.trans (Ks.trans (Ks.trans q5 q9) q14) q18) q23) q27) q32) q36) q41) q45) q50) q54) q59) q63) q68) q72) q77) q81) q86) q90) q95) q99) q104) q108) q113) q117) q122) q126) q131) q135) q140) q144) q149) q153) q158) q162) q167) q171) q176) q180) q185) q189) q194) q198) q203) q207) q212) q216) q221) q225) q230) q234) q239) q243) q248) q252) q257) q261) q266) q270) q275) q279) q284) q288) q293) q297) q302) q306) q311) q315) q320) q324) q328) q332) q336) q340) q344) q348) q352) q356) q360) q364) q368) q372) q376) q380) q384) q388) q392) q396) q400) q404) q408) q412) q416) q420) q424) q428) q432) q436) q440) q444) q448) q452) q457) q461) q466) q470) q475) q479) q484) q488) q492) q496) q500) q504) q508) q512) q516) q520) q524) q528) q532) q536) q540) q544) q548) q552) q556) q560) q564) q568) q572) q576) q580) q584) q588) q592) q596) q600) q604) q608) q612) q616) q620) q624) q628) q632) q636) q640) q644) q648) q652) q656) q660) q664) q668) q672) q676) q680) q685) q689) q693) k_x0) dX12_init_803 ?_
        obtain ⟨b700, h701, hw⟩ := hw
        refine x_deref h701 ?_
        refine x_iload_n (pc := 806) C 0 rfl dX12_init_806 rfl ?_
        obtain ⟨k703, hw⟩ := hw
        obtain ⟨h702, hw⟩ := hw
        refine x_iald (pc := 807) (kd := 242) (a := b700) C k703 rfl h702 dX12_init_807 ?_
        obtain ⟨k705, hw⟩ := hw
        obtain ⟨h704, hw⟩ := hw
        refine x_iast (pc := 808) (kd := 223) (a := b698) C k705 rfl h704 dX12_init_808 ?_
        refine x_S (fun S706 e707 => ?_)
        replace hw := hw S706 e707
        have q708 := Ks_uA e707
        obtain ⟨v709, e710⟩ : ∃ y : Int32, y = (w691 + (1 : Int32)) := ⟨_, rfl⟩
        replace hw := hw v709 e710
        refine x_iinc (pc := 809) C v709 0 rfl [(1, .int v709), (0, .ref x0)] dX12_init_809 (by rw [e710]; rfl) (by decide) rfl ?_
        refine x_goto (pc := 812) C 788 dX12_init_812 (by decide) ?_
        exact ih_n690 v709 S706 (Ks.trans q693 q708) hw
  refine L_n690 _ (fun w691 SX qX hx => ?_) n690 (0 : Int32) S687 Ks.rf hw
  clear hw; have hw := hx; clear hx
  obtain ⟨S711, hSX⟩ : ∃ z, z = SX := ⟨_, rfl⟩
  have q712 := qX; rw [← hSX] at hw q712 ⊢; clear qX hSX
  refine x_aload_n (pc := 815) C 1 rfl dX12_init_815 rfl ?_
  refine x_aload_n (pc := 816) C 1 rfl dX12_init_816 rfl ?_
  refine x_getR (pc := 817) C fr_X12_117 (Ks.k (Ks.trans (Ks.trans (Ks.trans (Ks.trans (Ks.trans (Ks.trans (Ks.trans (Ks.trans (Ks.trans (Ks.trans (Ks.trans (Ks.trans (Ks.trans (Ks.trans (Ks.trans (Ks.trans (Ks.trans (Ks.trans (Ks.trans (Ks.trans (Ks.trans (Ks.trans (Ks.trans (Ks.trans (Ks.trans (Ks.trans (Ks.trans (Ks.trans (Ks.trans (Ks.trans (Ks.trans (Ks.trans (Ks.trans (Ks.trans (Ks.trans (Ks.trans (Ks.trans (Ks.trans (Ks.trans (Ks.trans (Ks.trans (Ks.trans (Ks.trans (Ks.trans (Ks.trans (Ks.trans (Ks.trans (Ks.trans (Ks.trans (Ks.trans (Ks.trans (Ks.trans (Ks.trans (Ks.trans (Ks.trans (Ks.trans (Ks.trans (Ks.trans (Ks.trans (Ks.trans (Ks.trans (Ks.trans (Ks.trans (Ks.trans (Ks.trans (Ks.trans (Ks.trans (Ks.trans (Ks.trans (Ks.trans (Ks.trans (Ks.trans (Ks.trans (Ks.trans (Ks.trans (Ks.trans (Ks.trans (Ks.trans (Ks.trans (Ks.trans (Ks.trans (Ks.trans (Ks.trans (Ks.trans (Ks.trans (Ks.trans (Ks.trans (Ks.trans (Ks.trans (Ks.trans (Ks.trans (Ks.trans (Ks.trans (Ks.trans (Ks.trans (Ks.trans (Ks.trans (Ks.trans (Ks.trans (Ks.trans (Ks.trans (Ks.trans (Ks.trans (Ks.trans (Ks.trans (Ks.trans (Ks.trans (Ks.trans (Ks.trans (Ks.trans (Ks.trans (Ks.trans (Ks.trans (Ks.trans (Ks.trans (Ks.trans (Ks.trans (Ks.trans (Ks.trans (Ks.trans (Ks.trans (Ks.trans (Ks.trans (Ks.trans (Ks.trans (Ks.trans (Ks.trans (Ks.trans (Ks.trans (Ks.trans (Ks.trans (Ks.trans (Ks.trans (Ks.trans (Ks.trans (Ks.trans (Ks.trans (Ks.trans (Ks.trans (Ks.trans (Ks.trans (Ks.trans (Ks.trans (Ks.trans (Ks.trans (Ks.trans (Ks.trans (Ks.trans (Ks.trans (Ks.trans (Ks.trans (Ks.trans (Ks.trans (Ks.trans (Ks.trans (Ks.trans (Ks.trans (Ks.trans (Ks.trans (Ks.trans (Ks.trans (Ks.trans q5 q9) q14) q18) q23) q27) q32) q36) q41) q45) q50) q54) q59) q63) q68) q72) q77) q81) q86) q90) q95) q99) q104) q108) q113) q117) q122) q126) q131) q135) q140) q144) q149) q153) q158) q162) q167) q171) q176) q180) q185) q189) q194) q198) q203) q207) q212) q216) q221) q225) q230) q234) q239) q243) q248) q252) q257) q261) q266) q270) q275) q279) q284) q288) q293) q297) q302) q306) q311) q315) q320) q324) q328) q332) q336) q340) q344) q348) q352) q356) q360) q364) q368) q372) q376) q380) q384) q388) q392) q396) q400) q404) q408) q412) q416) q420) q424) q428) q432) q436) q440) q444) q448) q452) q457) q461) q466) q470) q475) q479) q484) q488) q492) q496) q500) q504) q508) q512) q516) q520) q524) q528) q532) q536) q540) q544) q548) q552) q556) q560) q564) q568) q572) q576) q580) q584) q588) q592) q596) q600) q604) q608) q612) q616) q620) q624) q628) q632) q636) q640) q644) q648) q652) q656) q660) q664) q668) q672) q676) q680) q685) q689) q712) k_x0) dX12_init_817 ?_
  obtain ⟨b713, h714, hw⟩ := hw
  refine x_deref h714 ?_
  obtain ⟨k715, hw⟩ := hw
  refine x_alen (pc := 820) C k715 (by decide) dX12_init_820 ?_
  refine x_putI (pc := 821) C fw_X12_135 (Ks.k (Ks.trans (Ks.trans (Ks.trans (Ks.trans (Ks.trans (Ks.trans (Ks.trans (Ks.trans (Ks.trans (Ks.trans (Ks.trans (Ks.trans (Ks.trans (Ks.trans (Ks.trans (Ks.trans (Ks.trans (Ks.trans (Ks.trans (Ks.trans (Ks.trans (Ks.trans (Ks.trans (Ks.trans (Ks.trans (Ks.trans (Ks.trans (Ks.trans (Ks.trans (Ks.trans (Ks.trans (Ks.trans (Ks.trans (Ks.trans (Ks.trans (Ks.trans (Ks.trans (Ks.trans (Ks.trans (Ks.trans (Ks.trans (Ks.trans (Ks.trans (Ks.trans (Ks.trans (Ks.trans (Ks.trans (Ks.trans (Ks.trans (Ks.trans (Ks.trans (Ks.trans (Ks.trans (Ks.trans (Ks.trans (Ks.trans (Ks.trans (Ks.trans (Ks.trans (Ks.trans (Ks.trans (Ks.trans (Ks.trans (Ks.trans (Ks.trans (Ks.trans (Ks.trans (Ks.trans (Ks.trans (Ks.trans (Ks.trans (Ks.trans (Ks.trans (Ks.trans (Ks.trans (Ks.trans (Ks.trans (Ks.trans (Ks.trans (Ks.trans (Ks.trans (Ks.trans (Ks.trans (Ks.trans (Ks.trans (Ks.trans (Ks.trans (Ks.trans (Ks.trans (Ks.trans (Ks.trans (Ks.trans (Ks.trans (Ks.trans (Ks.trans (Ks.trans (Ks.trans (Ks.trans (Ks.trans (Ks.trans (Ks.trans (Ks.trans (Ks.trans (Ks.trans (Ks.trans (Ks.trans (Ks.trans (Ks.trans (Ks.trans (Ks.trans (Ks.trans (Ks.trans (Ks.trans (Ks.trans (Ks.trans (Ks.trans (Ks.trans (Ks.trans (Ks.trans (Ks.trans (Ks.trans (Ks.trans (Ks.trans (Ks.trans (Ks.trans (Ks.trans (Ks.trans (Ks.trans (Ks.trans (Ks.trans (Ks.trans (Ks.trans (Ks.trans (Ks.trans (Ks.trans (Ks.trans (Ks.trans (Ks.trans (Ks.trans (Ks.trans (Ks.trans (Ks.trans (Ks.trans (Ks.trans (Ks.trans (Ks.trans (Ks.trans (Ks.trans (Ks.trans (Ks.trans (Ks.trans (Ks.trans (Ks.trans (Ks.trans (Ks.trans (Ks.trans (Ks.trans (Ks.trans (Ks.trans (Ks.trans (Ks.trans (Ks.trans q5 q9) q14) q18) q23) q27) q32) q36) q41) q45) q50) q54) q59) q63) q68) q72) q77) q81) q86) q90) q95) q99) q104) q108) q113) q117) q122) q126) q131) q135) q140) q144) q149) q153) q158) q162) q167) q171) q176) q180) q185) q189) q194) q198) q203) q207) q212) q216) q221) q225) q230) q234) q239) q243) q248) q252) q257) q261) q266) q270) q275) q279) q284) q288) q293) q297) q302) q306) q311) q315) q320) q324) q328) q332) q336) q340) q344) q348) q352) q356) q360) q364) q368) q372) q376) q380) q384) q388) q392) q396) q400) q404) q408) q412) q416) q420) q424) q428) q432) q436) q440) q444) q448) q452) q457) q461) q466) q470) q475) q479) q484) q488) q492) q496) q500) q504) q508) q512) q516) q520) q524) q528) q532) q536) q540) q544) q548) q552) q556) q560) q564) q568) q572) q576) q580) q584) q588) q592) q596) q600) q604) q608) q612) q616) q620) q624) q628) q632) q636) q640) q644) q648) q652) q656) q660) q664) q668) q672) q676) q680) q685) q689) q712) k_x0) rfl rfl dX12_init_821 ?_
  refine x_S (fun S716 e717 => ?_)
  replace hw := hw S716 e717
  have q718 := Ks_uI e717
  refine x_aload_n (pc := 824) C 1 rfl dX12_init_824 rfl ?_
  refine x_iconst (pc := 825) C (0 : Int32) dX12_init_825 (by decide) ?_
  obtain ⟨g, hMI, hw⟩ := hw
  refine x_callVv (pc := 826) C [.int (0 : Int32)] [] me_X12_reads mv_X12_reads ml_X12_139 (m_X12_reads l G g _ _ _ _ hMI hw) hMI.1 rfl (Nat.le_of_ble_eq_true rfl) dX12_init_826 (by omega) (by decide) (by decide) rfl (fun _ S720 hx => ?_)
  obtain ⟨hx, q721⟩ := hx
  clear hw; have hw := hx; clear hx
  refine x_aload_n (pc := 829) C 1 rfl dX12_init_829 rfl ?_
  refine x_iconst (pc := 830) C (1 : Int32) dX12_init_830 (by decide) ?_
  refine x_putI (pc := 831) C fw_X12_143 (Ks.k (Ks.trans (Ks.trans (Ks.trans (Ks.trans (Ks.trans (Ks.trans (Ks.trans (Ks.trans (Ks.trans (Ks.trans (Ks.trans (Ks.trans (Ks.trans (Ks.trans (Ks.trans (Ks.trans (Ks.trans (Ks.trans (Ks.trans (Ks.trans (Ks.trans (Ks.trans (Ks.trans (Ks.trans (Ks.trans (Ks.trans (Ks.trans (Ks.trans (Ks.trans (Ks.trans (Ks.trans (Ks.trans (Ks.trans (Ks.trans (Ks.trans (Ks.trans (Ks.trans (Ks.trans (Ks.trans (Ks.trans (Ks.trans (Ks.trans (Ks.trans (Ks.trans (Ks.trans (Ks.trans (Ks.trans (Ks.trans (Ks.trans (Ks.trans (Ks.trans (Ks.trans (Ks.trans (Ks.trans (Ks.trans (Ks.trans (Ks.trans (Ks.trans (Ks.trans (Ks.trans (Ks.trans (Ks.trans (Ks.trans (Ks.trans (Ks.trans (Ks.trans (Ks.trans (Ks.trans (Ks.trans (Ks.trans (Ks.trans (Ks.trans (Ks.trans (Ks.trans (Ks.trans (Ks.trans (Ks.trans (Ks.trans (Ks.trans (Ks.trans (Ks.trans (Ks.trans (Ks.trans (Ks.trans (Ks.trans (Ks.trans (Ks.trans (Ks.trans (Ks.trans (Ks.trans (Ks.trans (Ks.trans (Ks.trans (Ks.trans (Ks.trans (Ks.trans (Ks.trans (Ks.trans (Ks.trans (Ks.trans (Ks.trans (Ks.trans (Ks.trans (Ks.trans (Ks.trans (Ks.trans (Ks.trans (Ks.trans (Ks.trans (Ks.trans (Ks.trans (Ks.trans (Ks.trans (Ks.trans (Ks.trans (Ks.trans (Ks.trans (Ks.trans (Ks.trans (Ks.trans (Ks.trans (Ks.trans (Ks.trans (Ks.trans (Ks.trans (Ks.trans (Ks.trans (Ks.trans (Ks.trans (Ks.trans (Ks.trans (Ks.trans (Ks.trans (Ks.trans (Ks.trans (Ks.trans (Ks.trans (Ks.trans (Ks.trans (Ks.trans (Ks.trans (Ks.trans (Ks.trans (Ks.trans (Ks.trans (Ks.trans (Ks.trans (Ks.trans (Ks.trans (Ks.trans (Ks.trans (Ks.trans (Ks.trans (Ks.trans (Ks.trans (Ks.trans (Ks.trans (Ks.trans (Ks.trans (Ks.trans (Ks.trans (Ks.trans (Ks.trans (Ks.trans q5 q9) q14) q18) q23) q27) q32) q36) q41) q45) q50) q54) q59) q63) q68) q72) q77) q81) q86) q90) q95) q99) q104) q108) q113) q117) q122) q126) q131) q135) q140) q144) q149) q153) q158) q162) q167) q171) q176) q180) q185) q189) q194) q198) q203) q207) q212) q216) q221) q225) q230) q234) q239) q243) q248) q252) q257) q261) q266) q270) q275) q279) q284) q288) q293) q297) q302) q306) q311) q315) q320) q324) q328) q332) q336) q340) q344) q348) q352) q356) q360) q364) q368) q372) q376) q380) q384) q388) q392) q396) q400) q404) q408) q412) q416) q420) q424) q428) q432) q436) q440) q444) q448) q452) q457) q461) q466) q470) q475) q479) q484) q488) q492) q496) q500) q504) q508) q512) q516) q520) q524) q528) q532) q536) q540) q544) q548) q552) q556) q560) q564) q568) q572) q576) q580) q584) q588) q592) q596) q600) q604) q608) q612) q616) q620) q624) q628) q632) q636) q640) q644) q648) q652) q656) q660) q664) q668) q672) q676) q680) q685) q689) q712) q718) q721) k_x0) rfl rfl dX12_init_831 ?_
  refine x_S (fun S722 e723 => ?_)
  replace hw := hw S722 e723
  have q724 := Ks_uI e723
  refine x_iconst (pc := 834) C (0 : Int32) dX12_init_834 (by decide) ?_
  refine x_istore_n (pc := 835) (i := 1) C [(1, .int (0 : Int32)), (0, .ref x0)] dX12_init_835 rfl (by decide) rfl ?_
  obtain ⟨n725, hw⟩ := hw
  have L_n725 : ∀ (K_n725_854 : Int32 → HSt → Prop), (∀ (w726 : Int32) (SX : HSt), Ks S722 SX → K_n725_854 w726 SX → Wx p l e (rmL 87 41 19154) s m args below meth c (MQ below (Qx G vV (fun r S' => Post r S' ∧ Ks S S')) args s 41 19154 G.2.2) G 2 41 19154 SX 854 [(1, .int w726), (0, .ref x0)] []) → ∀ (n : Nat) (w726 : Int32) (S727 : HSt), Ks S722 S727 → lp_X12_init_836a x0 K_n725_854 n w726 S727 → Wx p l e (rmL 87 41 19154) s m args below meth c (MQ below (Qx G vV (fun r S' => Post r S' ∧ Ks S S')) args s 41 19154 G.2.2) G 2 41 19154 S727 836 [(1, .int w726), (0, .ref x0)] [] := by
    intro K_n725_854 X_K_n725_854 n
    induction n with
    | zero => intro w726 S727 q728 hw; exact hw.elim
    | succ n725 ih_n725 =>
      intro w726 S727 q728 hw
      unfold lp_X12_init_836a at hw
      refine x_iload_n (pc := 836) C 0 rfl dX12_init_836 rfl ?_
      refine x_iconst (pc := 837) C (4 : Int32) dX12_init_837 (by decide) ?_
      refine x_ic_ge (pc := 838) C 854 dX12_init_838 (by decide) (fun c729 => ?_) (fun c729 => ?_)
      · replace hw := hw.1 c729
        exact X_K_n725_854 w726 S727 q728 hw
      · replace hw := hw.2 c729
        refine x_aload_n (pc := 841) C 1 rfl dX12_init_841 rfl ?_
        refine x_getR (pc := 842) C fr_X12_108 (Ks.k (Ks.trans (Ks.trans (Ks.trans (Ks.trans (Ks.trans (Ks.trans (Ks.trans (Ks.trans (Ks.trans (Ks.trans (Ks.trans (Ks.trans (Ks.trans (Ks.trans (Ks.trans (Ks.trans (Ks.trans (Ks.trans (Ks.trans (Ks.trans (Ks.trans (Ks.trans (Ks.trans (Ks.trans (Ks.trans (Ks.trans (Ks.trans (Ks.trans (Ks.trans (Ks.trans (Ks.trans (Ks.trans (Ks.trans (Ks.trans (Ks.trans (Ks.trans (Ks.trans (Ks.trans (Ks.trans (Ks.trans (Ks.trans (Ks.trans (Ks.trans (Ks.trans (Ks.trans (Ks.trans (Ks.trans (Ks.trans (Ks.trans (Ks.trans (Ks.trans (Ks.trans (Ks.trans (Ks.trans (Ks.trans (Ks.trans (Ks.trans (Ks.trans (Ks.trans (Ks.trans (Ks.trans (Ks.trans (Ks.trans (Ks.trans (Ks.trans (Ks.trans (Ks.trans (Ks.trans (Ks.trans (Ks.trans (Ks.trans (Ks.trans (Ks.trans (Ks.trans (Ks.trans (Ks.trans (Ks.trans (Ks.trans (Ks.trans (Ks.trans (Ks.trans (Ks.trans (Ks.trans (Ks.trans (Ks.trans (Ks.trans (Ks.trans (Ks.trans (Ks.trans (Ks.trans (Ks.trans (Ks.trans (Ks.trans (Ks.trans (Ks.trans (Ks.trans (Ks.trans (Ks.trans (Ks.trans (Ks.trans (Ks.trans (Ks.trans (Ks.trans (Ks.trans (Ks.trans (Ks.trans (Ks.trans (Ks.trans (Ks.trans (Ks.trans (Ks.trans (Ks.trans (Ks.trans (Ks.trans (Ks.trans (Ks.trans (Ks.trans (Ks.trans (Ks.trans (Ks.trans (Ks.trans (Ks.trans (Ks.trans (Ks.trans (Ks.trans (Ks.trans (Ks.trans (Ks.trans (Ks.trans (Ks.trans (Ks.trans (Ks.trans (Ks.trans (Ks.trans (Ks.trans (Ks.trans (Ks.trans (Ks.trans (Ks.trans (Ks.trans (Ks.trans (Ks.trans (Ks.trans (Ks.trans (Ks.trans (Ks.trans (Ks.trans (Ks.trans (Ks.trans (Ks.trans (Ks.trans (Ks.trans (Ks.trans (Ks.trans (Ks.trans (Ks.trans (Ks.trans (Ks.trans (Ks.trans (Ks.trans (Ks.trans (Ks.trans (Ks.trans (Ks.trans (Ks.trans (Ks.trans q5 q9) q14) q18) q23) q27) q32) q36) q41) q45) q50) q54) q59) q63) q68) q72) q77) q81) q86) q90) q95) q99) q104) q108) q113) q117) q122) q126) q131) q135) q140) q144) q149) q153) q158) q162) q167) q171) q176) q180) q185) q189) q194) q198) q203) q207) q212) q216) q221) q225) q230) q234) q239) q243) q248) q252) q257) q261) q266) q270) q275) q279) q284) q288) q293) q297) q302) q306) q311) q315) q320) q324) q328) q332) q336) q340) q344) q348) q352) q356) q360) q364) q368) q372) q376) q380) q384) q388) q392) q396) q400) q404) q408) q412) q416) q420) q424) q428) q432) q436) q440) q444) q448) q452) q457) q461) q466) q470) q475) q479) q484) q488) q492) q496) q500) q504) q508) q512) q516) q520) q524) q528) q532) q536) q540) q544) q548) q552) q556) q560) q564) q568) q572) q576) q580) q584) q588) q592) q596) q600) q604) q608) q612) q616) q620) q624) q628) q632) q636) q640) q644) q648) q652) q656) q660) q664) q668) q672) q676) q680) q685) q689) q712) q718) q721) q724) q728) k_x0) dX12_init_842 ?_
        obtain ⟨b730, h731, hw⟩ := hw
        refine x_deref h731 ?_
        refine x_iload_n (pc := 845) C 0 rfl dX12_init_845 rfl ?_
        refine x_iconst (pc := 846) C (-1 : Int32) dX12_init_846 (by decide) ?_
        obtain ⟨k733, hw⟩ := hw
        obtain ⟨h732, hw⟩ := hw
        refine x_iast (pc := 847) (kd := 239) (a := b730) C k733 rfl h732 dX12_init_847 ?_
        refine x_S (fun S734 e735 => ?_)
        replace hw := hw S734 e735
        have q736 := Ks_uA e735
        obtain ⟨v737, e738⟩ : ∃ y : Int32, y = (w726 + (1 : Int32)) := ⟨_, rfl⟩
        replace hw := hw v737 e738
        refine x_iinc (pc := 848) C v737 0 rfl [(1, .int v737), (0, .ref x0)] dX12_init_848 (by rw [e738]; rfl) (by decide) rfl ?_
        refine x_goto (pc := 851) C 836 dX12_init_851 (by decide) ?_
        exact ih_n725 v737 S734 (Ks.trans q728 q736) hw
  refine L_n725 _ (fun w726 SX qX hx => ?_) n725 (0 : Int32) S722 Ks.rf hw
  clear hw; have hw := hx; clear hx
  obtain ⟨S739, hSX⟩ : ∃ z, z = SX := ⟨_, rfl⟩
  have q740 := qX; rw [← hSX] at hw q740 ⊢; clear qX hSX
  refine x_vret (pc := 854) C hr hlk dX12_init_854 (by decide) (by decide) ⟨hw, (Ks.trans (Ks.trans (Ks.trans (Ks.trans (Ks.trans (Ks.trans (Ks.trans (Ks.trans (Ks.trans (Ks.trans (Ks.trans (Ks.trans (Ks.trans (Ks.trans (Ks.trans (Ks.trans (Ks.trans (Ks.trans (Ks.trans (Ks.trans (Ks.trans (Ks.trans (Ks.trans (Ks.trans (Ks.trans (Ks.trans (Ks.trans (Ks.trans (Ks.trans (Ks.trans (Ks.trans (Ks.trans (Ks.trans (Ks.trans (Ks.trans (Ks.trans (Ks.trans (Ks.trans (Ks.trans (Ks.trans (Ks.trans (Ks.trans (Ks.trans (Ks.trans (Ks.trans (Ks.trans (Ks.trans (Ks.trans (Ks.trans (Ks.trans (Ks.trans (Ks.trans (Ks.trans (Ks.trans (Ks.trans (Ks.trans (Ks.trans (Ks.trans (Ks.trans (Ks.trans (Ks.trans (Ks.trans (Ks.trans (Ks.trans (Ks.trans (Ks.trans (Ks.trans (Ks.trans (Ks.trans (Ks.trans (Ks.trans (Ks.trans (Ks.trans (Ks.trans (Ks.trans (Ks.trans (Ks.trans (Ks.trans (Ks.trans (Ks.trans (Ks.trans (Ks.trans (Ks.trans (Ks.trans (Ks.trans (Ks.trans (Ks.trans (Ks.trans (Ks.trans (Ks.trans (Ks.trans (Ks.trans (Ks.trans (Ks.trans (Ks.trans (Ks.trans (Ks.trans (Ks.trans (Ks.trans (Ks.trans (Ks.trans (Ks.trans (Ks.trans (Ks.trans (Ks.trans (Ks.trans (Ks.trans (Ks.trans (Ks.trans (Ks.trans (Ks.trans (Ks.trans (Ks.trans (Ks.trans (Ks.trans (Ks.trans (Ks.trans (Ks.trans (Ks.trans (Ks.trans (Ks.trans (Ks.trans (Ks.trans (Ks.trans (Ks.trans (Ks.trans (Ks.trans (Ks.trans (Ks.trans (Ks.trans (Ks.trans (Ks.trans (Ks.trans (Ks.trans (Ks.trans (Ks.trans (Ks.trans (Ks.trans (Ks.trans (Ks.trans (Ks.trans (Ks.trans (Ks.trans (Ks.trans (Ks.trans (Ks.trans (Ks.trans (Ks.trans (Ks.trans (Ks.trans (Ks.trans (Ks.trans (Ks.trans (Ks.trans (Ks.trans (Ks.trans (Ks.trans (Ks.trans (Ks.trans (Ks.trans (Ks.trans (Ks.trans (Ks.trans (Ks.trans (Ks.trans (Ks.trans q5 q9) q14) q18) q23) q27) q32) q36) q41) q45) q50) q54) q59) q63) q68) q72) q77) q81) q86) q90) q95) q99) q104) q108) q113) q117) q122) q126) q131) q135) q140) q144) q149) q153) q158) q162) q167) q171) q176) q180) q185) q189) q194) q198) q203) q207) q212) q216) q221) q225) q230) q234) q239) q243) q248) q252) q257) q261) q266) q270) q275) q279) q284) q288) q293) q297) q302) q306) q311) q315) q320) q324) q328) q332) q336) q340) q344) q348) q352) q356) q360) q364) q368) q372) q376) q380) q384) q388) q392) q396) q400) q404) q408) q412) q416) q420) q424) q428) q432) q436) q440) q444) q448) q452) q457) q461) q466) q470) q475) q479) q484) q488) q492) q496) q500) q504) q508) q512) q516) q520) q524) q528) q532) q536) q540) q544) q548) q552) q556) q560) q564) q568) q572) q576) q580) q584) q588) q592) q596) q600) q604) q608) q612) q616) q620) q624) q628) q632) q636) q640) q644) q648) q652) q656) q660) q664) q668) q672) q676) q680) q685) q689) q712) q718) q721) q724) q740)⟩
def lp_X11_init_160a (x0 : Nat) (K_n200_188 : Int32 → HSt → Prop) : Nat → Int32 → HSt → Prop
  | 0, _, _ => False
  | n200 + 1, w201, S202 => wp_J0_length_8abf5 0 S202 (fun (r204 : Int32) (S205 : HSt) => ((r204 ≤ w201 → K_n200_188 w201 S205) ∧ (¬ r204 ≤ w201 → ∃ b208 : Nat, gR S205 1216 x0 = some b208 ∧ wp_J0_charAt_5068e 0 w201 S205 (fun (r210 : Int32) (S211 : HSt) => gK S211 b208 = 6 ∧ wp_X5_append b208 r210 S211 (fun _ (S215 : HSt) => ∀ v217 : Int32, v217 = (w201 + (1 : Int32)) → lp_X11_init_160a x0 K_n200_188 n200 v217 S215)))))
set_option maxRecDepth 100000 in
def wp_X11_init (x0 : Nat) (S : HSt) (Post : Unit → HSt → Prop) : Prop := ∀ a1 : Nat, gK S a1 = 0 → ∀ S3 : HSt, S3 = nA S 600 a1 8 → gR S3 1200 x0 = none ∧ ∀ S7 : HSt, S7 = uR S3 1200 x0 (some a1) → ∀ a10 : Nat, gK S7 a10 = 0 → ∀ S12 : HSt, S12 = nA S7 800 a10 5 → gR S12 1201 x0 = none ∧ ∀ S16 : HSt, S16 = uR S12 1201 x0 (some a10) → ∀ a19 : Nat, gK S16 a19 = 0 → ∀ S21 : HSt, S21 = nA S16 500 a19 10 → gR S21 1202 x0 = none ∧ ∀ S25 : HSt, S25 = uR S21 1202 x0 (some a19) → ∀ a28 : Nat, gK S25 a28 = 0 → ∀ S30 : HSt, S30 = nA S25 900 a28 6 → gR S30 1203 x0 = none ∧ ∀ S34 : HSt, S34 = uR S30 1203 x0 (some a28) → ∀ a37 : Nat, gK S34 a37 = 0 → ∀ S39 : HSt, S39 = nA S34 400 a37 12 → gR S39 1204 x0 = none ∧ ∀ S43 : HSt, S43 = uR S39 1204 x0 (some a37) → ∀ a46 : Nat, gK S43 a46 = 0 → ∀ S48 : HSt, S48 = nA S43 700 a46 4 → gR S48 1205 x0 = none ∧ ∀ S52 : HSt, S52 = uR S48 1205 x0 (some a46) → ∀ a55 : Nat, gK S52 a55 = 0 → ∀ S57 : HSt, S57 = nA S52 601 a55 6 → gR S57 1206 x0 = none ∧ ∀ S61 : HSt, S61 = uR S57 1206 x0 (some a55) → ∀ a64 : Nat, gK S61 a64 = 0 → ∀ S66 : HSt, S66 = nO S61 5 a64 → wp_X4_init a64 S66 (fun _ (S70 : HSt) => gR S70 1213 x0 = none ∧ ∀ S73 : HSt, S73 = uR S70 1213 x0 (some a64) → ∀ a76 : Nat, gK S73 a76 = 0 → ∀ S78 : HSt, S78 = nO S73 7 a76 → wp_X6_init a76 S78 (fun _ (S82 : HSt) => gR S82 1214 x0 = none ∧ ∀ S85 : HSt, S85 = uR S82 1214 x0 (some a76) → ∀ a88 : Nat, gK S85 a88 = 0 → ∀ S90 : HSt, S90 = nO S85 1 a88 → wp_X0_init a88 S90 (fun _ (S94 : HSt) => gR S94 1215 x0 = none ∧ ∀ S97 : HSt, S97 = uR S94 1215 x0 (some a88) → ∀ a100 : Nat, gK S97 a100 = 0 → ∀ S102 : HSt, S102 = nO S97 6 a100 → wp_X5_init a100 S102 (fun _ (S106 : HSt) => gR S106 1216 x0 = none ∧ ∀ S109 : HSt, S109 = uR S106 1216 x0 (some a100) → ∀ a112 : Nat, gK S109 a112 = 0 → ∀ S114 : HSt, S114 = nO S109 11 a112 → wp_X10_init a112 (0 : Int32) S114 (fun _ (S118 : HSt) => ∀ S120 : HSt, S120 = uR S118 1217 x0 (some a112) → ∀ a123 : Nat, gK S120 a123 = 0 → ∀ S125 : HSt, S125 = nO S120 10 a123 → wp_X9_init a123 S125 (fun _ (S129 : HSt) => gR S129 1218 x0 = none ∧ ∀ S132 : HSt, S132 = uR S129 1218 x0 (some a123) → ∃ b136 : Nat, gR S132 1205 x0 = some b136 ∧ ∀ a138 : Nat, gK S132 a138 = 0 → ∀ S140 : HSt, S140 = nO S132 8 a138 → wp_X7_init a138 S140 (fun _ (S144 : HSt) => gK S144 b136 = 700 ∧ vp_in (0 : Int32) (gN S144 b136) ∧ ∀ S148 : HSt, S148 = uB S144 700 b136 ((0 : Int32)).toNatClampNeg (some a138) → ∃ b152 : Nat, gR S148 1205 x0 = some b152 ∧ ∀ a154 : Nat, gK S148 a154 = 0 → ∀ S156 : HSt, S156 = nO S148 8 a154 → wp_X7_init a154 S156 (fun _ (S160 : HSt) => gK S160 b152 = 700 ∧ vp_in (1 : Int32) (gN S160 b152) ∧ ∀ S164 : HSt, S164 = uB S160 700 b152 ((1 : Int32)).toNatClampNeg (some a154) → ∃ b168 : Nat, gR S164 1205 x0 = some b168 ∧ ∀ a170 : Nat, gK S164 a170 = 0 → ∀ S172 : HSt, S172 = nO S164 8 a170 → wp_X7_init a170 S172 (fun _ (S176 : HSt) => gK S176 b168 = 700 ∧ vp_in (2 : Int32) (gN S176 b168) ∧ ∀ S180 : HSt, S180 = uB S176 700 b168 ((2 : Int32)).toNatClampNeg (some a170) → ∃ b184 : Nat, gR S180 1205 x0 = some b184 ∧ ∀ a186 : Nat, gK S180 a186 = 0 → ∀ S188 : HSt, S188 = nO S180 8 a186 → wp_X7_init a186 S188 (fun _ (S192 : HSt) => gK S192 b184 = 700 ∧ vp_in (3 : Int32) (gN S192 b184) ∧ ∀ S196 : HSt, S196 = uB S192 700 b184 ((3 : Int32)).toNatClampNeg (some a186) → (∃ n200 : Nat, lp_X11_init_160a x0 (fun (w201 : Int32) (S219 : HSt) => wp_X11_text x0 S219 (fun (r221 : Int32) (S222 : HSt) => Post () S222)) n200 (0 : Int32) S196)))))))))))
set_option maxRecDepth 100000 in
set_option maxHeartbeats 4000000 in
theorem m_X11_init (l : Launch) (G : XG) (x0 : Nat) (S : HSt) (Post : Unit → HSt → Prop) (k_x0 : gK S x0 = 12) (hw : wp_X11_init x0 S Post) : Mx l yX11_init cX11_init 2 none 87 42 9254 G vV [.ref x0] S (fun r S' => Post r S' ∧ Ks S S') := by
  refine x_met [(0, .ref x0)] rfl (Nat.le_of_ble_eq_true rfl) rfl (fun p e s m args below meth c C hr hlk hin => ?_)
  have C : Cx p s m c cX11_init 2 args RX11 G := C
  have hin : meth.name = "<init>" := hin
  unfold wp_X11_init at hw
  refine x_aload_n (pc := 0) C 0 rfl dX11_init_0 rfl ?_
  refine x_objInit (pc := 1) C (tb1 26 rfl rfl) (tb1 27 rfl rfl) (tb1 28 rfl rfl) dX11_init_1 (by decide) (Nat.le_of_ble_eq_true rfl) ?_
  refine x_aload_n (pc := 4) C 0 rfl dX11_init_4 rfl ?_
  refine x_bipush (pc := 5) C (8 : Int32) dX11_init_5 (by decide) ?_
  refine x_newq (pc := 7) C (kd := 600) (N := 8) 5 rfl (by decide) dX11_init_7 (tb1 29 rfl rfl) rfl (by decide) (by decide) (by decide) (by decide) (by decide) (fun a1 z2 => ?_)
  replace hw := hw a1 z2
  refine x_S (fun S3 e4 => ?_)
  replace hw := hw S3 e4
  have q5 := Ks_nA z2 e4
  obtain ⟨h6, hw⟩ := hw
  refine x_putRF (pc := 10) C (v := (some a1)) fw_X11_11 (Ks.k q5 k_x0) rfl rfl (hin) dX11_init_10 ?_
  refine x_S (fun S7 e8 => ?_)
  replace hw := hw S7 e8
  have q9 := Ks_uR e8 (Or.inr (Or.inr h6))
  refine x_aload_n (pc := 13) C 0 rfl dX11_init_13 rfl ?_
  refine x_iconst (pc := 14) C (5 : Int32) dX11_init_14 (by decide) ?_
  refine x_newq (pc := 15) C (kd := 800) (N := 5) 7 rfl (by decide) dX11_init_15 (tb1 31 rfl rfl) rfl (by decide) (by decide) (by decide) (by decide) (by decide) (fun a10 z11 => ?_)
  replace hw := hw a10 z11
  refine x_S (fun S12 e13 => ?_)
  replace hw := hw S12 e13
  have q14 := Ks_nA z11 e13
  obtain ⟨h15, hw⟩ := hw
  refine x_putRF (pc := 18) C (v := (some a10)) fw_X11_17 (Ks.k (Ks.trans (Ks.trans q5 q9) q14) k_x0) rfl rfl (hin) dX11_init_18 ?_
  refine x_S (fun S16 e17 => ?_)
  replace hw := hw S16 e17
  have q18 := Ks_uR e17 (Or.inr (Or.inr h15))
  refine x_aload_n (pc := 21) C 0 rfl dX11_init_21 rfl ?_
  refine x_bipush (pc := 22) C (10 : Int32) dX11_init_22 (by decide) ?_
  refine x_newq (pc := 24) C (kd := 500) (N := 10) 4 rfl (by decide) dX11_init_24 (tb1 33 rfl rfl) rfl (by decide) (by decide) (by decide) (by decide) (by decide) (fun a19 z20 => ?_)
  replace hw := hw a19 z20
  refine x_S (fun S21 e22 => ?_)
  replace hw := hw S21 e22
  have q23 := Ks_nA z20 e22
  obtain ⟨h24, hw⟩ := hw
  refine x_putRF (pc := 27) C (v := (some a19)) fw_X11_23 (Ks.k (Ks.trans (Ks.trans (Ks.trans (Ks.trans q5 q9) q14) q18) q23) k_x0) rfl rfl (hin) dX11_init_27 ?_
  refine x_S (fun S25 e26 => ?_)
  replace hw := hw S25 e26
  have q27 := Ks_uR e26 (Or.inr (Or.inr h24))
  refine x_aload_n (pc := 30) C 0 rfl dX11_init_30 rfl ?_
  refine x_bipush (pc := 31) C (6 : Int32) dX11_init_31 (by decide) ?_
  refine x_newq (pc := 33) C (kd := 900) (N := 6) 8 rfl (by decide) dX11_init_33 (tb1 35 rfl rfl) rfl (by decide) (by decide) (by decide) (by decide) (by decide) (fun a28 z29 => ?_)
  replace hw := hw a28 z29
  refine x_S (fun S30 e31 => ?_)
  replace hw := hw S30 e31
  have q32 := Ks_nA z29 e31
  obtain ⟨h33, hw⟩ := hw
  refine x_putRF (pc := 36) C (v := (some a28)) fw_X11_29 (Ks.k (Ks.trans (Ks.trans (Ks.trans (Ks.trans (Ks.trans (Ks.trans q5 q9) q14) q18) q23) q27) q32) k_x0) rfl rfl (hin) dX11_init_36 ?_
  refine x_S (fun S34 e35 => ?_)
  replace hw := hw S34 e35
  have q36 := Ks_uR e35 (Or.inr (Or.inr h33))
  refine x_aload_n (pc := 39) C 0 rfl dX11_init_39 rfl ?_
  refine x_bipush (pc := 40) C (12 : Int32) dX11_init_40 (by decide) ?_
  refine x_newq (pc := 42) C (kd := 400) (N := 12) 3 rfl (by decide) dX11_init_42 (tb1 37 rfl rfl) rfl (by decide) (by decide) (by decide) (by decide) (by decide) (fun a37 z38 => ?_)
  replace hw := hw a37 z38
  refine x_S (fun S39 e40 => ?_)
  replace hw := hw S39 e40
  have q41 := Ks_nA z38 e40
  obtain ⟨h42, hw⟩ := hw
  refine x_putRF (pc := 45) C (v := (some a37)) fw_X11_35 (Ks.k (Ks.trans (Ks.trans (Ks.trans (Ks.trans (Ks.trans (Ks.trans (Ks.trans (Ks.trans q5 q9) q14) q18) q23) q27) q32) q36) q41) k_x0) rfl rfl (hin) dX11_init_45 ?_
  refine x_S (fun S43 e44 => ?_)
  replace hw := hw S43 e44
  have q45 := Ks_uR e44 (Or.inr (Or.inr h42))
  refine x_aload_n (pc := 48) C 0 rfl dX11_init_48 rfl ?_
  refine x_iconst (pc := 49) C (4 : Int32) dX11_init_49 (by decide) ?_
  refine x_newq (pc := 50) C (kd := 700) (N := 4) 6 rfl (by decide) dX11_init_50 (tb1 39 rfl rfl) rfl (by decide) (by decide) (by decide) (by decide) (by decide) (fun a46 z47 => ?_)
  replace hw := hw a46 z47
  refine x_S (fun S48 e49 => ?_)
  replace hw := hw S48 e49
  have q50 := Ks_nA z47 e49
  obtain ⟨h51, hw⟩ := hw
  refine x_putRF (pc := 53) C (v := (some a46)) fw_X11_41 (Ks.k (Ks.trans (Ks.trans (Ks.trans (Ks.trans (Ks.trans (Ks.trans (Ks.trans (Ks.trans (Ks.trans (Ks.trans q5 q9) q14) q18) q23) q27) q32) q36) q41) q45) q50) k_x0) rfl rfl (hin) dX11_init_53 ?_
  refine x_S (fun S52 e53 => ?_)
  replace hw := hw S52 e53
  have q54 := Ks_uR e53 (Or.inr (Or.inr h51))
  refine x_aload_n (pc := 56) C 0 rfl dX11_init_56 rfl ?_
  refine x_bipush (pc := 57) C (6 : Int32) dX11_init_57 (by decide) ?_
  refine x_newq (pc := 59) C (kd := 601) (N := 6) 5 rfl (by decide) dX11_init_59 (tb1 29 rfl rfl) rfl (by decide) (by decide) (by decide) (by decide) (by decide) (fun a55 z56 => ?_)
  replace hw := hw a55 z56
  refine x_S (fun S57 e58 => ?_)
  replace hw := hw S57 e58
  have q59 := Ks_nA z56 e58
  obtain ⟨h60, hw⟩ := hw
  refine x_putRF (pc := 62) C (v := (some a55)) fw_X11_45 (Ks.k (Ks.trans (Ks.trans (Ks.trans (Ks.trans (Ks.trans (Ks.trans (Ks.trans (Ks.trans (Ks.trans (Ks.trans (Ks.trans (Ks.trans q5 q9) q14) q18) q23) q27) q32) q36) q41) q45) q50) q54) q59) k_x0) rfl rfl (hin) dX11_init_62 ?_
  refine x_S (fun S61 e62 => ?_)
  replace hw := hw S61 e62
  have q63 := Ks_uR e62 (Or.inr (Or.inr h60))
  refine x_aload_n (pc := 65) C 0 rfl dX11_init_65 rfl ?_
  refine x_new (pc := 66) C nw_X11_48 dX11_init_66 (by decide) (by decide) (fun a64 z65 => ?_)
  replace hw := hw a64 z65
  refine x_S (fun S66 e67 => ?_)
  replace hw := hw S66 e67
  have q68 := Ks_nO z65 e67
  refine x_dup (pc := 69) C dX11_init_69 rfl ?_
  refine x_callINx (pc := 70) C [] [.ref a64, .ref x0] me_X4_init rfl mi_X4_init ml_X11_50 (m_X4_init l G _ _ _ (gK_nO e67) hw) rfl (Nat.le_of_ble_eq_true rfl) dX11_init_70 (by omega) (by decide) (by decide) rfl (fun S70 hx => ?_)
  obtain ⟨hx, q71⟩ := hx
  clear hw; have hw := hx; clear hx
  obtain ⟨h72, hw⟩ := hw
  refine x_putRF (pc := 73) C (v := (some a64)) fw_X11_51 (Ks.k (Ks.trans (Ks.trans (Ks.trans (Ks.trans (Ks.trans (Ks.trans (Ks.trans (Ks.trans (Ks.trans (Ks.trans (Ks.trans (Ks.trans (Ks.trans (Ks.trans (Ks.trans q5 q9) q14) q18) q23) q27) q32) q36) q41) q45) q50) q54) q59) q63) q68) q71) k_x0) rfl rfl (hin) dX11_init_73 ?_
  refine x_S (fun S73 e74 => ?_)
  replace hw := hw S73 e74
  have q75 := Ks_uR e74 (Or.inr (Or.inr h72))
  refine x_aload_n (pc := 76) C 0 rfl dX11_init_76 rfl ?_
  refine x_new (pc := 77) C nw_X11_55 dX11_init_77 (by decide) (by decide) (fun a76 z77 => ?_)
  replace hw := hw a76 z77
  refine x_S (fun S78 e79 => ?_)
  replace hw := hw S78 e79
  have q80 := Ks_nO z77 e79
  refine x_dup (pc := 80) C dX11_init_80 rfl ?_
  refine x_callINx (pc := 81) C [] [.ref a76, .ref x0] me_X6_init rfl mi_X6_init ml_X11_57 (m_X6_init l G _ _ _ (gK_nO e79) hw) rfl (Nat.le_of_ble_eq_true rfl) dX11_init_81 (by omega) (by decide) (by decide) rfl (fun S82 hx => ?_)
  obtain ⟨hx, q83⟩ := hx
  clear hw; have hw := hx; clear hx
  obtain ⟨h84, hw⟩ := hw
  refine x_putRF (pc := 84) C (v := (some a76)) fw_X11_58 (Ks.k (Ks.trans (Ks.trans (Ks.trans (Ks.trans (Ks.trans (Ks.trans (Ks.trans (Ks.trans (Ks.trans (Ks.trans (Ks.trans (Ks.trans (Ks.trans (Ks.trans (Ks.trans (Ks.trans (Ks.trans (Ks.trans q5 q9) q14) q18) q23) q27) q32) q36) q41) q45) q50) q54) q59) q63) q68) q71) q75) q80) q83) k_x0) rfl rfl (hin) dX11_init_84 ?_
  refine x_S (fun S85 e86 => ?_)
  replace hw := hw S85 e86
  have q87 := Ks_uR e86 (Or.inr (Or.inr h84))
  refine x_aload_n (pc := 87) C 0 rfl dX11_init_87 rfl ?_
  refine x_new (pc := 88) C nw_X11_62 dX11_init_88 (by decide) (by decide) (fun a88 z89 => ?_)
  replace hw := hw a88 z89
  refine x_S (fun S90 e91 => ?_)
  replace hw := hw S90 e91
  have q92 := Ks_nO z89 e91
  refine x_dup (pc := 91) C dX11_init_91 rfl ?_
  refine x_callINx (pc := 92) C [] [.ref a88, .ref x0] me_X0_init rfl mi_X0_init ml_X11_64 (m_X0_init l G _ _ _ (gK_nO e91) hw) rfl (Nat.le_of_ble_eq_true rfl) dX11_init_92 (by omega) (by decide) (by decide) rfl (fun S94 hx => ?_)
  obtain ⟨hx, q95⟩ := hx
  clear hw; have hw := hx; clear hx
  obtain ⟨h96, hw⟩ := hw
  refine x_putRF (pc := 95) C (v := (some a88)) fw_X11_65 (Ks.k (Ks.trans (Ks.trans (Ks.trans (Ks.trans (Ks.trans (Ks.trans (Ks.trans (Ks.trans (Ks.trans (Ks.trans (Ks.trans (Ks.trans (Ks.trans (Ks.trans (Ks.trans (Ks.trans (Ks.trans (Ks.trans (Ks.trans (Ks.trans (Ks.trans q5 q9) q14) q18) q23) q27) q32) q36) q41) q45) q50) q54) q59) q63) q68) q71) q75) q80) q83) q87) q92) q95) k_x0) rfl rfl (hin) dX11_init_95 ?_
  refine x_S (fun S97 e98 => ?_)
  replace hw := hw S97 e98
  have q99 := Ks_uR e98 (Or.inr (Or.inr h96))
  refine x_aload_n (pc := 98) C 0 rfl dX11_init_98 rfl ?_
  refine x_new (pc := 99) C nw_X11_69 dX11_init_99 (by decide) (by decide) (fun a100 z101 => ?_)
  replace hw := hw a100 z101
  refine x_S (fun S102 e103 => ?_)
  replace hw := hw S102 e103
  have q104 := Ks_nO z101 e103
  refine x_dup (pc := 102) C dX11_init_102 rfl ?_
  refine x_callINx (pc := 103) C [] [.ref a100, .ref x0] me_X5_init rfl mi_X5_init ml_X11_71 (m_X5_init l G _ _ _ (gK_nO e103) hw) rfl (Nat.le_of_ble_eq_true rfl) dX11_init_103 (by omega) (by decide) (by decide) rfl (fun S106 hx => ?_)
  obtain ⟨hx, q107⟩ := hx
  clear hw; have hw := hx; clear hx
  obtain ⟨h108, hw⟩ := hw
  refine x_putRF (pc := 106) C (v := (some a100)) fw_X11_72 (Ks.k (Ks.trans (Ks.trans (Ks.trans (Ks.trans (Ks.trans (Ks.trans (Ks.trans (Ks.trans (Ks.trans (Ks.trans (Ks.trans (Ks.trans (Ks.trans (Ks.trans (Ks.trans (Ks.trans (Ks.trans (Ks.trans (Ks.trans (Ks.trans (Ks.trans (Ks.trans (Ks.trans (Ks.trans q5 q9) q14) q18) q23) q27) q32) q36) q41) q45) q50) q54) q59) q63) q68) q71) q75) q80) q83) q87) q92) q95) q99) q104) q107) k_x0) rfl rfl (hin) dX11_init_106 ?_
  refine x_S (fun S109 e110 => ?_)
  replace hw := hw S109 e110
  have q111 := Ks_uR e110 (Or.inr (Or.inr h108))
  refine x_aload_n (pc := 109) C 0 rfl dX11_init_109 rfl ?_
  refine x_new (pc := 110) C nw_X11_27 dX11_init_110 (by decide) (by decide) (fun a112 z113 => ?_)
  replace hw := hw a112 z113
  refine x_S (fun S114 e115 => ?_)
  replace hw := hw S114 e115
  have q116 := Ks_nO z113 e115
  refine x_dup (pc := 113) C dX11_init_113 rfl ?_
  refine x_iconst (pc := 114) C (0 : Int32) dX11_init_114 (by decide) ?_
  refine x_callIx (pc := 115) C [.int (0 : Int32)] [.ref a112, .ref x0] me_X10_init rfl mi_X10_init ml_X11_76 (m_X10_init l G _ _ _ _ (gK_nO e115) hw) rfl (Nat.le_of_ble_eq_true rfl) dX11_init_115 (by omega) (by decide) (by decide) rfl (fun S118 hx => ?_)
  obtain ⟨hx, q119⟩ := hx
  clear hw; have hw := hx; clear hx
  refine x_putR (pc := 118) C (v := (some a112)) fw_X11_79 (Ks.k (Ks.trans (Ks.trans (Ks.trans (Ks.trans (Ks.trans (Ks.trans (Ks.trans (Ks.trans (Ks.trans (Ks.trans (Ks.trans (Ks.trans (Ks.trans (Ks.trans (Ks.trans (Ks.trans (Ks.trans (Ks.trans (Ks.trans (Ks.trans (Ks.trans (Ks.trans (Ks.trans (Ks.trans (Ks.trans (Ks.trans (Ks.trans q5 q9) q14) q18) q23) q27) q32) q36) q41) q45) q50) q54) q59) q63) q68) q71) q75) q80) q83) q87) q92) q95) q99) q104) q107) q111) q116) q119) k_x0) rfl rfl dX11_init_118 ?_
  refine x_S (fun S120 e121 => ?_)
  replace hw := hw S120 e121
  have q122 := Ks_uR e121 (Or.inr (Or.inl rfl))
  refine x_aload_n (pc := 121) C 0 rfl dX11_init_121 rfl ?_
  refine x_new (pc := 122) C nw_X11_83 dX11_init_122 (by decide) (by decide) (fun a123 z124 => ?_)
  replace hw := hw a123 z124
  refine x_S (fun S125 e126 => ?_)
  replace hw := hw S125 e126
  have q127 := Ks_nO z124 e126
  refine x_dup (pc := 125) C dX11_init_125 rfl ?_
  refine x_callINx (pc := 126) C [] [.ref a123, .ref x0] me_X9_init rfl mi_X9_init ml_X11_85 (m_X9_init l G _ _ _ (gK_nO e126) hw) rfl (Nat.le_of_ble_eq_true rfl) dX11_init_126 (by omega) (by decide) (by decide) rfl (fun S129 hx => ?_)
  obtain ⟨hx, q130⟩ := hx
  clear hw; have hw := hx; clear hx
  obtain ⟨h131, hw⟩ := hw
  refine x_putRF (pc := 129) C (v := (some a123)) fw_X11_86 (Ks.k (Ks.trans (Ks.trans (Ks.trans (Ks.trans (Ks.trans (Ks.trans (Ks.trans (Ks.trans (Ks.trans (Ks.trans (Ks.trans (Ks.trans (Ks.trans (Ks.trans (Ks.trans (Ks.trans (Ks.trans (Ks.trans (Ks.trans (Ks.trans (Ks.trans (Ks.trans (Ks.trans (Ks.trans (Ks.trans (Ks.trans (Ks.trans (Ks.trans (Ks.trans (Ks.trans q5 q9) q14) q18) q23) q27) q32) q36) q41) q45) q50) q54) q59) q63) q68) q71) q75) q80) q83) q87) q92) q95) q99) q104) q107) q111) q116) q119) q122) q127) q130) k_x0) rfl rfl (hin) dX11_init_129 ?_
  refine x_S (fun S132 e133 => ?_)
  replace hw := hw S132 e133
  have q134 := Ks_uR e133 (Or.inr (Or.inr h131))
  refine x_iconst (pc := 132) C (0 : Int32) dX11_init_132 (by decide) ?_
  refine x_istore_n (pc := 133) (i := 1) C [(1, .int (0 : Int32)), (0, .ref x0)] dX11_init_133 rfl (by decide) rfl ?_
  refine x_iload_n (pc := 134) C 0 rfl dX11_init_134 rfl ?_
  refine x_iconst (pc := 135) C (4 : Int32) dX11_init_135 (by decide) ?_
  refine x_ic_ge (pc := 136) C 158 dX11_init_136 (by decide) (fun c135 => ?_) (fun c135 => ?_)
  · exact absurd c135 (by decide)
  refine x_aload_n (pc := 139) C 1 rfl dX11_init_139 rfl ?_
  refine x_getR (pc := 140) C fr_X11_41 (Ks.k (Ks.trans (Ks.trans (Ks.trans (Ks.trans (Ks.trans (Ks.trans (Ks.trans (Ks.trans (Ks.trans (Ks.trans (Ks.trans (Ks.trans (Ks.trans (Ks.trans (Ks.trans (Ks.trans (Ks.trans (Ks.trans (Ks.trans (Ks.trans (Ks.trans (Ks.trans (Ks.trans (Ks.trans (Ks.trans (Ks.trans (Ks.trans (Ks.trans (Ks.trans (Ks.trans (Ks.trans q5 q9) q14) q18) q23) q27) q32) q36) q41) q45) q50) q54) q59) q63) q68) q71) q75) q80) q83) q87) q92) q95) q99) q104) q107) q111) q116) q119) q122) q127) q130) q134) k_x0) dX11_init_140 ?_
  obtain ⟨b136, h137, hw⟩ := hw
  refine x_deref h137 ?_
  refine x_iload_n (pc := 143) C 0 rfl dX11_init_143 rfl ?_
  refine x_new (pc := 144) C nw_X11_39 dX11_init_144 (by decide) (by decide) (fun a138 z139 => ?_)
  replace hw := hw a138 z139
  refine x_S (fun S140 e141 => ?_)
  replace hw := hw S140 e141
  have q142 := Ks_nO z139 e141
  refine x_dup (pc := 147) C dX11_init_147 rfl ?_
  refine x_callINx (pc := 148) C [] [.ref a138, .int (0 : Int32), .ref b136] me_X7_init rfl mi_X7_init ml_X11_90 (m_X7_init l G _ _ _ (gK_nO e141) hw) rfl (Nat.le_of_ble_eq_true rfl) dX11_init_148 (by omega) (by decide) (by decide) rfl (fun S144 hx => ?_)
  obtain ⟨hx, q145⟩ := hx
  clear hw; have hw := hx; clear hx
  obtain ⟨k147, hw⟩ := hw
  obtain ⟨h146, hw⟩ := hw
  refine x_aastq (pc := 151) C k147 (by decide) rfl (Ks.k q145 (gK_nO e141)) (by decide) rfl h146 dX11_init_151 ?_
  refine x_S (fun S148 e149 => ?_)
  replace hw := hw S148 e149
  have q150 := Ks_uB e149
  refine x_iinc (pc := 152) C (1 : Int32) 0 rfl [(1, .int (1 : Int32)), (0, .ref x0)] dX11_init_152 (by decide) (by decide) rfl ?_
  refine x_goto (pc := 155) C 134 dX11_init_155 (by decide) ?_
  refine x_iload_n (pc := 134) C 0 rfl dX11_init_134 rfl ?_
  refine x_iconst (pc := 135) C (4 : Int32) dX11_init_135 (by decide) ?_
  refine x_ic_ge (pc := 136) C 158 dX11_init_136 (by decide) (fun c151 => ?_) (fun c151 => ?_)
  · exact absurd c151 (by decide)
  refine x_aload_n (pc := 139) C 1 rfl dX11_init_139 rfl ?_
  refine x_getR (pc := 140) C fr_X11_41 (Ks.k (Ks.trans (Ks.trans (Ks.trans (Ks.trans (Ks.trans (Ks.trans (Ks.trans (Ks.trans (Ks.trans (Ks.trans (Ks.trans (Ks.trans (Ks.trans (Ks.trans (Ks.trans (Ks.trans (Ks.trans (Ks.trans (Ks.trans (Ks.trans (Ks.trans (Ks.trans (Ks.trans (Ks.trans (Ks.trans (Ks.trans (Ks.trans (Ks.trans (Ks.trans (Ks.trans (Ks.trans (Ks.trans (Ks.trans (Ks.trans q5 q9) q14) q18) q23) q27) q32) q36) q41) q45) q50) q54) q59) q63) q68) q71) q75) q80) q83) q87) q92) q95) q99) q104) q107) q111) q116) q119) q122) q127) q130) q134) q142) q145) q150) k_x0) dX11_init_140 ?_
  obtain ⟨b152, h153, hw⟩ := hw
  refine x_deref h153 ?_
  refine x_iload_n (pc := 143) C 0 rfl dX11_init_143 rfl ?_
  refine x_new (pc := 144) C nw_X11_39 dX11_init_144 (by decide) (by decide) (fun a154 z155 => ?_)
  replace hw := hw a154 z155
  refine x_S (fun S156 e157 => ?_)
  replace hw := hw S156 e157
  have q158 := Ks_nO z155 e157
  refine x_dup (pc := 147) C dX11_init_147 rfl ?_
  refine x_callINx (pc := 148) C [] [.ref a154, .int (1 : Int32), .ref b152] me_X7_init rfl mi_X7_init ml_X11_90 (m_X7_init l G _ _ _ (gK_nO e157) hw) rfl (Nat.le_of_ble_eq_true rfl) dX11_init_148 (by omega) (by decide) (by decide) rfl (fun S160 hx => ?_)
  obtain ⟨hx, q161⟩ := hx
  clear hw; have hw := hx; clear hx
  obtain ⟨k163, hw⟩ := hw
  obtain ⟨h162, hw⟩ := hw
  refine x_aastq (pc := 151) C k163 (by decide) rfl (Ks.k q161 (gK_nO e157)) (by decide) rfl h162 dX11_init_151 ?_
  refine x_S (fun S164 e165 => ?_)
  replace hw := hw S164 e165
  have q166 := Ks_uB e165
  refine x_iinc (pc := 152) C (2 : Int32) 0 rfl [(1, .int (2 : Int32)), (0, .ref x0)] dX11_init_152 (by decide) (by decide) rfl ?_
  refine x_goto (pc := 155) C 134 dX11_init_155 (by decide) ?_
  refine x_iload_n (pc := 134) C 0 rfl dX11_init_134 rfl ?_
  refine x_iconst (pc := 135) C (4 : Int32) dX11_init_135 (by decide) ?_
  refine x_ic_ge (pc := 136) C 158 dX11_init_136 (by decide) (fun c167 => ?_) (fun c167 => ?_)
  · exact absurd c167 (by decide)
  refine x_aload_n (pc := 139) C 1 rfl dX11_init_139 rfl ?_
  refine x_getR (pc := 140) C fr_X11_41 (Ks.k (Ks.trans (Ks.trans (Ks.trans (Ks.trans (Ks.trans (Ks.trans (Ks.trans (Ks.trans (Ks.trans (Ks.trans (Ks.trans (Ks.trans (Ks.trans (Ks.trans (Ks.trans (Ks.trans (Ks.trans (Ks.trans (Ks.trans (Ks.trans (Ks.trans (Ks.trans (Ks.trans (Ks.trans (Ks.trans (Ks.trans (Ks.trans (Ks.trans (Ks.trans (Ks.trans (Ks.trans (Ks.trans (Ks.trans (Ks.trans (Ks.trans (Ks.trans (Ks.trans q5 q9) q14) q18) q23) q27) q32) q36) q41) q45) q50) q54) q59) q63) q68) q71) q75) q80) q83) q87) q92) q95) q99) q104) q107) q111) q116) q119) q122) q127) q130) q134) q142) q145) q150) q158) q161) q166) k_x0) dX11_init_140 ?_
  obtain ⟨b168, h169, hw⟩ := hw
  refine x_deref h169 ?_
  refine x_iload_n (pc := 143) C 0 rfl dX11_init_143 rfl ?_
  refine x_new (pc := 144) C nw_X11_39 dX11_init_144 (by decide) (by decide) (fun a170 z171 => ?_)
  replace hw := hw a170 z171
  refine x_S (fun S172 e173 => ?_)
  replace hw := hw S172 e173
  have q174 := Ks_nO z171 e173
  refine x_dup (pc := 147) C dX11_init_147 rfl ?_
  refine x_callINx (pc := 148) C [] [.ref a170, .int (2 : Int32), .ref b168] me_X7_init rfl mi_X7_init ml_X11_90 (m_X7_init l G _ _ _ (gK_nO e173) hw) rfl (Nat.le_of_ble_eq_true rfl) dX11_init_148 (by omega) (by decide) (by decide) rfl (fun S176 hx => ?_)
  obtain ⟨hx, q177⟩ := hx
  clear hw; have hw := hx; clear hx
  obtain ⟨k179, hw⟩ := hw
  obtain ⟨h178, hw⟩ := hw
  refine x_aastq (pc := 151) C k179 (by decide) rfl (Ks.k q177 (gK_nO e173)) (by decide) rfl h178 dX11_init_151 ?_
  refine x_S (fun S180 e181 => ?_)
  replace hw := hw S180 e181
  have q182 := Ks_uB e181
  refine x_iinc (pc := 152) C (3 : Int32) 0 rfl [(1, .int (3 : Int32)), (0, .ref x0)] dX11_init_152 (by decide) (by decide) rfl ?_
  refine x_goto (pc := 155) C 134 dX11_init_155 (by decide) ?_
  refine x_iload_n (pc := 134) C 0 rfl dX11_init_134 rfl ?_
  refine x_iconst (pc := 135) C (4 : Int32) dX11_init_135 (by decide) ?_
  refine x_ic_ge (pc := 136) C 158 dX11_init_136 (by decide) (fun c183 => ?_) (fun c183 => ?_)
  · exact absurd c183 (by decide)
  refine x_aload_n (pc := 139) C 1 rfl dX11_init_139 rfl ?_
  refine x_getR (pc := 140) C fr_X11_41 (Ks.k (Ks.trans (Ks.trans (Ks.trans (Ks.trans (Ks.trans (Ks.trans (Ks.trans (Ks.trans (Ks.trans (Ks.trans (Ks.trans (Ks.trans (Ks.trans (Ks.trans (Ks.trans (Ks.trans (Ks.trans (Ks.trans (Ks.trans (Ks.trans (Ks.trans (Ks.trans (Ks.trans (Ks.trans (Ks.trans (Ks.trans (Ks.trans (Ks.trans (Ks.trans (Ks.trans (Ks.trans (Ks.trans (Ks.trans (Ks.trans (Ks.trans (Ks.trans (Ks.trans (Ks.trans (Ks.trans (Ks.trans q5 q9) q14) q18) q23) q27) q32) q36) q41) q45) q50) q54) q59) q63) q68) q71) q75) q80) q83) q87) q92) q95) q99) q104) q107) q111) q116) q119) q122) q127) q130) q134) q142) q145) q150) q158) q161) q166) q174) q177) q182) k_x0) dX11_init_140 ?_
  obtain ⟨b184, h185, hw⟩ := hw
  refine x_deref h185 ?_
  refine x_iload_n (pc := 143) C 0 rfl dX11_init_143 rfl ?_
  refine x_new (pc := 144) C nw_X11_39 dX11_init_144 (by decide) (by decide) (fun a186 z187 => ?_)
  replace hw := hw a186 z187
  refine x_S (fun S188 e189 => ?_)
  replace hw := hw S188 e189
  have q190 := Ks_nO z187 e189
  refine x_dup (pc := 147) C dX11_init_147 rfl ?_
  refine x_callINx (pc := 148) C [] [.ref a186, .int (3 : Int32), .ref b184] me_X7_init rfl mi_X7_init ml_X11_90 (m_X7_init l G _ _ _ (gK_nO e189) hw) rfl (Nat.le_of_ble_eq_true rfl) dX11_init_148 (by omega) (by decide) (by decide) rfl (fun S192 hx => ?_)
  obtain ⟨hx, q193⟩ := hx
  clear hw; have hw := hx; clear hx
  obtain ⟨k195, hw⟩ := hw
  obtain ⟨h194, hw⟩ := hw
  refine x_aastq (pc := 151) C k195 (by decide) rfl (Ks.k q193 (gK_nO e189)) (by decide) rfl h194 dX11_init_151 ?_
  refine x_S (fun S196 e197 => ?_)
  replace hw := hw S196 e197
  have q198 := Ks_uB e197
  refine x_iinc (pc := 152) C (4 : Int32) 0 rfl [(1, .int (4 : Int32)), (0, .ref x0)] dX11_init_152 (by decide) (by decide) rfl ?_
  refine x_goto (pc := 155) C 134 dX11_init_155 (by decide) ?_
  refine x_iload_n (pc := 134) C 0 rfl dX11_init_134 rfl ?_
  refine x_iconst (pc := 135) C (4 : Int32) dX11_init_135 (by decide) ?_
  refine x_ic_ge (pc := 136) C 158 dX11_init_136 (by decide) (fun c199 => ?_) (fun c199 => ?_)
  rotate_left
  · exact absurd c199 (by decide)
  refine x_iconst (pc := 158) C (0 : Int32) dX11_init_158 (by decide) ?_
  refine x_istore_n (pc := 159) (i := 1) C [(1, .int (0 : Int32)), (0, .ref x0)] dX11_init_159 rfl (by decide) rfl ?_
  obtain ⟨n200, hw⟩ := hw
  have L_n200 : ∀ (K_n200_188 : Int32 → HSt → Prop), (∀ (w201 : Int32) (SX : HSt), Ks S196 SX → K_n200_188 w201 SX → Wx p l e (rmL 87 42 9254) s m args below meth c (MQ below (Qx G vV (fun r S' => Post r S' ∧ Ks S S')) args s 42 9254 G.2.2) G 2 40 9090 SX 188 [(1, .int w201), (0, .ref x0)] []) → ∀ (n : Nat) (w201 : Int32) (S202 : HSt), Ks S196 S202 → lp_X11_init_160a x0 K_n200_188 n w201 S202 → Wx p l e (rmL 87 42 9254) s m args below meth c (MQ below (Qx G vV (fun r S' => Post r S' ∧ Ks S S')) args s 42 9254 G.2.2) G 2 40 9090 S202 160 [(1, .int w201), (0, .ref x0)] [] := by
    intro K_n200_188 X_K_n200_188 n
    induction n with
    | zero => intro w201 S202 q203 hw; exact hw.elim
    | succ n200 ih_n200 =>
      intro w201 S202 q203 hw
      unfold lp_X11_init_160a at hw
      refine x_iload_n (pc := 160) C 0 rfl dX11_init_160 rfl ?_
      refine x_ldcS (pc := 161) C 0 (by decide) rfl dX11_init_161 ?_
      refine x_callVsi (pc := 163) C [] [.int w201] (by decide) me_J0_length_8abf5 rfl mi_J0_length_8abf5 msel_J0_length_8abf5 ml_X11_93 (m_J0_length_8abf5 l G _ _ _ (by decide) hw) rfl (Nat.le_of_ble_eq_true rfl) dX11_init_163 (by omega) (by decide) (by decide) rfl (fun r204 S205 hx => ?_)
      obtain ⟨hx, q206⟩ := hx
      clear hw; have hw := hx; clear hx
      refine x_ic_ge (pc := 166) C 188 dX11_init_166 (by decide) (fun c207 => ?_) (fun c207 => ?_)
      · replace hw := hw.1 c207
        exact X_K_n200_188 w201 S205 (Ks.trans q203 q206) hw
      · replace hw := hw.2 c207
        refine x_aload_n (pc := 169) C 1 rfl dX11_init_169 rfl ?_
        refine x_getR (pc := 170) C fr_X11_72 (Ks.k (Ks.trans (Ks.trans (Ks.trans (Ks.trans (Ks.trans (Ks.trans (Ks.trans (Ks.trans (Ks.trans (Ks.trans (Ks.trans (Ks.trans (Ks.trans (Ks.trans (Ks.trans (Ks.trans (Ks.trans (Ks.trans (Ks.trans (Ks.trans (Ks.trans (Ks.trans (Ks.trans (Ks.trans (Ks.trans (Ks.trans (Ks.trans (Ks.trans (Ks.trans (Ks.trans (Ks.trans (Ks.trans (Ks.trans (Ks.trans (Ks.trans (Ks.trans (Ks.trans (Ks.trans (Ks.trans (Ks.trans (Ks.trans (Ks.trans (Ks.trans (Ks.trans (Ks.trans q5 q9) q14) q18) q23) q27) q32) q36) q41) q45) q50) q54) q59) q63) q68) q71) q75) q80) q83) q87) q92) q95) q99) q104) q107) q111) q116) q119) q122) q127) q130) q134) q142) q145) q150) q158) q161) q166) q174) q177) q182) q190) q193) q198) q203) q206) k_x0) dX11_init_170 ?_
        obtain ⟨b208, h209, hw⟩ := hw
        refine x_deref h209 ?_
        refine x_ldcS (pc := 173) C 0 (by decide) rfl dX11_init_173 ?_
        refine x_iload_n (pc := 175) C 0 rfl dX11_init_175 rfl ?_
        refine x_callVsi (pc := 176) C [.int w201] [.ref b208] (by decide) me_J0_charAt_5068e rfl mi_J0_charAt_5068e msel_J0_charAt_5068e ml_X11_99 (m_J0_charAt_5068e l G _ _ _ _ (by decide) hw) rfl (Nat.le_of_ble_eq_true rfl) dX11_init_176 (by omega) (by decide) (by decide) rfl (fun r210 S211 hx => ?_)
        obtain ⟨hx, q212⟩ := hx
        clear hw; have hw := hx; clear hx
        obtain ⟨k213, hw⟩ := hw
        refine x_callVv (pc := 179) C [.int r210] [] me_X5_append mv_X5_append ml_X11_103 (m_X5_append l G _ _ _ _ k213 hw) k213 rfl (Nat.le_of_ble_eq_true rfl) dX11_init_179 (by omega) (by decide) (by decide) rfl (fun _ S215 hx => ?_)
        obtain ⟨hx, q216⟩ := hx
        clear hw; have hw := hx; clear hx
        obtain ⟨v217, e218⟩ : ∃ y : Int32, y = (w201 + (1 : Int32)) := ⟨_, rfl⟩
        replace hw := hw v217 e218
        refine x_iinc (pc := 182) C v217 0 rfl [(1, .int v217), (0, .ref x0)] dX11_init_182 (by rw [e218]; rfl) (by decide) rfl ?_
        refine x_goto (pc := 185) C 160 dX11_init_185 (by decide) ?_
        exact ih_n200 v217 S215 (Ks.trans (Ks.trans (Ks.trans q203 q206) q212) q216) hw
  refine L_n200 _ (fun w201 SX qX hx => ?_) n200 (0 : Int32) S196 Ks.rf hw
  clear hw; have hw := hx; clear hx
  obtain ⟨S219, hSX⟩ : ∃ z, z = SX := ⟨_, rfl⟩
  have q220 := qX; rw [← hSX] at hw q220 ⊢; clear qX hSX
  refine x_aload_n (pc := 188) C 1 rfl dX11_init_188 rfl ?_
  refine x_callVi (pc := 189) C [] [] me_X11_text mv_X11_text ml_X11_106 (m_X11_text l G _ _ _ (Ks.k (Ks.trans (Ks.trans (Ks.trans (Ks.trans (Ks.trans (Ks.trans (Ks.trans (Ks.trans (Ks.trans (Ks.trans (Ks.trans (Ks.trans (Ks.trans (Ks.trans (Ks.trans (Ks.trans (Ks.trans (Ks.trans (Ks.trans (Ks.trans (Ks.trans (Ks.trans (Ks.trans (Ks.trans (Ks.trans (Ks.trans (Ks.trans (Ks.trans (Ks.trans (Ks.trans (Ks.trans (Ks.trans (Ks.trans (Ks.trans (Ks.trans (Ks.trans (Ks.trans (Ks.trans (Ks.trans (Ks.trans (Ks.trans (Ks.trans (Ks.trans (Ks.trans q5 q9) q14) q18) q23) q27) q32) q36) q41) q45) q50) q54) q59) q63) q68) q71) q75) q80) q83) q87) q92) q95) q99) q104) q107) q111) q116) q119) q122) q127) q130) q134) q142) q145) q150) q158) q161) q166) q174) q177) q182) q190) q193) q198) q220) k_x0) hw) (Ks.k (Ks.trans (Ks.trans (Ks.trans (Ks.trans (Ks.trans (Ks.trans (Ks.trans (Ks.trans (Ks.trans (Ks.trans (Ks.trans (Ks.trans (Ks.trans (Ks.trans (Ks.trans (Ks.trans (Ks.trans (Ks.trans (Ks.trans (Ks.trans (Ks.trans (Ks.trans (Ks.trans (Ks.trans (Ks.trans (Ks.trans (Ks.trans (Ks.trans (Ks.trans (Ks.trans (Ks.trans (Ks.trans (Ks.trans (Ks.trans (Ks.trans (Ks.trans (Ks.trans (Ks.trans (Ks.trans (Ks.trans (Ks.trans (Ks.trans (Ks.trans (Ks.trans q5 q9) q14) q18) q23) q27) q32) q36) q41) q45) q50) q54) q59) q63) q68) q71) q75) q80) q83) q87) q92) q95) q99) q104) q107) q111) q116) q119) q122) q127) q130) q134) q142) q145) q150) q158) q161) q166) q174) q177) q182) q190) q193) q198) q220) k_x0) rfl (Nat.le_of_ble_eq_true rfl) dX11_init_189 (by omega) (by decide) (by decide) rfl (fun r221 S222 hx => ?_)
  obtain ⟨hx, q223⟩ := hx
  clear hw; have hw := hx; clear hx
  refine x_pop (pc := 192) C dX11_init_192 rfl ?_
  refine x_vret (pc := 193) C hr hlk dX11_init_193 (by decide) (by decide) ⟨hw, (Ks.trans (Ks.trans (Ks.trans (Ks.trans (Ks.trans (Ks.trans (Ks.trans (Ks.trans (Ks.trans (Ks.trans (Ks.trans (Ks.trans (Ks.trans (Ks.trans (Ks.trans (Ks.trans (Ks.trans (Ks.trans (Ks.trans (Ks.trans (Ks.trans (Ks.trans (Ks.trans (Ks.trans (Ks.trans (Ks.trans (Ks.trans (Ks.trans (Ks.trans (Ks.trans (Ks.trans (Ks.trans (Ks.trans (Ks.trans (Ks.trans (Ks.trans (Ks.trans (Ks.trans (Ks.trans (Ks.trans (Ks.trans (Ks.trans (Ks.trans (Ks.trans (Ks.trans q5 q9) q14) q18) q23) q27) q32) q36) q41) q45) q50) q54) q59) q63) q68) q71) q75) q80) q83) q87) q92) q95) q99) q104) q107) q111) q116) q119) q122) q127) q130) q134) q142) q145) q150) q158) q161) q166) q174) q177) q182) q190) q193) q198) q220) q223)⟩
