/-! THE START: what the statement gives, put together -/
theorem k_cls {args : Array Value} {s : State} {ty : FieldType} (h : (Cond.arrayClass ty).before args s = true) : ∃ cA : ClassId, ArrOfT s cA ty ∧ s.vm.findClass ("[" ++ ty.toString) = some cA := by
  obtain ⟨c, k, comp, h1, h2, h3⟩ := Cond.arrayClass_spec (type := ty) h
  exact ⟨c, fun N z => ⟨(fun k h => by cases h), k, h2, comp, h3⟩, h1⟩
theorem k_obj {args : Array Value} {s : State} {n : String} (h : (Cond.arrayOver (.object n)).before args s = true) : ∃ cA : ClassId, ArrOfT s cA (.object n) ∧ va_RA s cA (.object n) := by
  obtain ⟨comp, c, k, h1, -, h3, h4, h5⟩ := Cond.arrayOver_spec h
  exact ⟨c, fun N z => ⟨(fun k h => by cases h), k, h3, comp, h4⟩, k, comp, h3, h4, h1, h5⟩
theorem k_arr {args : Array Value} {s : State} (h : (Cond.arrayOver (.array .int)).before args s = true) : ∃ cA : ClassId, ArrOfT s cA (.array .int) ∧ va_RA s cA (.array .int) := by
  obtain ⟨comp, c, k, h1, h2, h3, h4⟩ := Cond.arrayOver_specA h
  exact ⟨c, fun N z => ⟨(fun k h => by cases h), k, h2, comp, h3⟩, h4⟩
def tmL (i : Nat) : Term := Term.string (litN.getD i ("", 0, "")).1 (litN.getD i ("", 0, "")).2.1
def prem : List Cond := flatC (Cond.and given_1 narrow_1)
def ixEx : List Nat := [96, 141, 149, 158, 167, 178, 190, 204, 222, 239, 256]
def ixCo : List Nat := [97, 142, 150, 159, 168, 179, 191, 205, 223, 240, 257]
def ixAr : List Nat := [98, 143, 151, 160, 169, 180, 192, 206, 224, 241, 258]
def ixLe : List Nat := [99, 144, 152, 161, 170, 181, 193, 207, 225, 242, 259]
def ixEl : List (List Nat) := [[100, 101, 102, 103, 104, 105, 106, 107, 108, 109, 110, 111, 112, 113, 114, 115, 116, 117, 118, 119, 120, 121, 122, 123, 124, 125, 126, 127, 128, 129, 130, 131, 132, 133, 134, 135, 136, 137, 138, 139, 140], [145, 146, 147], [153, 154, 155], [162, 163], [171, 172, 173], [182, 183, 184], [194, 195, 196, 197], [208, 209, 210, 211, 212, 213, 214], [226, 227, 228, 229, 230], [243, 244, 245, 246], [260, 261, 262, 263]]
def ixNe : List (List Nat) := [[0, 148, 156, 164, 174, 185, 198, 215, 231, 247, 264], [0, 0, 157, 165, 175, 186, 199, 216, 232, 248, 265], [0, 0, 0, 166, 176, 187, 200, 217, 233, 249, 266], [0, 0, 0, 0, 177, 188, 201, 218, 234, 250, 267], [0, 0, 0, 0, 0, 189, 202, 219, 235, 251, 268], [0, 0, 0, 0, 0, 0, 203, 220, 236, 252, 269], [0, 0, 0, 0, 0, 0, 0, 221, 237, 253, 270], [0, 0, 0, 0, 0, 0, 0, 0, 238, 254, 271], [0, 0, 0, 0, 0, 0, 0, 0, 0, 255, 272], [0, 0, 0, 0, 0, 0, 0, 0, 0, 0, 273], [0, 0, 0, 0, 0, 0, 0, 0, 0, 0, 0]]
theorem q_ex : ∀ i, i < 11 → prem[ixEx.getD i 0]? = some (Cond.exactly (tmL i) "java/lang/String") := by decide +kernel
theorem q_co : ∀ i, i < 11 → prem[ixCo.getD i 0]? = some (Cond.eq (.field (tmL i) "java/lang/String" "coder" "B") (.int 0)) := by decide +kernel
theorem q_ar : ∀ i, i < 11 → prem[ixAr.getD i 0]? = some (Cond.arrayOf (.field (tmL i) "java/lang/String" "value" "[B") .byte) := by decide +kernel
theorem q_le : ∀ i, i < 11 → prem[ixLe.getD i 0]? = some (Cond.eq (.length (.field (tmL i) "java/lang/String" "value" "[B")) (.int (Int32.ofNat (litL.getD i 0)))) := by decide +kernel
theorem q_el : ∀ i, i < 11 → ∀ j, j < litL.getD i 0 → prem[(ixEl.getD i []).getD j 0]? = some (Cond.eq (.elem (.field (tmL i) "java/lang/String" "value" "[B") (.int (Int32.ofNat j))) (.int ((litB.getD i []).getD j 0))) := by decide +kernel
theorem q_ne : ∀ i, i < 11 → ∀ j, j < 11 → i < j → prem[(ixNe.getD i []).getD j 0]? = some (Cond.not (Cond.eq (tmL i) (tmL j))) := by decide +kernel
theorem p_ex (i : Nat) (h : i < 11) : Cond.exactly (tmL i) "java/lang/String" ∈ prem := List.mem_of_getElem? (q_ex i h)
theorem p_co (i : Nat) (h : i < 11) : Cond.eq (.field (tmL i) "java/lang/String" "coder" "B") (.int 0) ∈ prem := List.mem_of_getElem? (q_co i h)
theorem p_ar (i : Nat) (h : i < 11) : Cond.arrayOf (.field (tmL i) "java/lang/String" "value" "[B") .byte ∈ prem := List.mem_of_getElem? (q_ar i h)
theorem p_le (i : Nat) (h : i < 11) : Cond.eq (.length (.field (tmL i) "java/lang/String" "value" "[B")) (.int (Int32.ofNat (litL.getD i 0))) ∈ prem := List.mem_of_getElem? (q_le i h)
theorem p_el (i : Nat) (h : i < 11) (j : Nat) (hj : j < litL.getD i 0) : Cond.eq (.elem (.field (tmL i) "java/lang/String" "value" "[B") (.int (Int32.ofNat j))) (.int ((litB.getD i []).getD j 0)) ∈ prem := List.mem_of_getElem? (q_el i h j hj)
theorem p_ne (i : Nat) (hi : i < 11) (j : Nat) (hj : j < 11) (h : i ≠ j) : Cond.not (Cond.eq (tmL i) (tmL j)) ∈ prem ∨ Cond.not (Cond.eq (tmL j) (tmL i)) ∈ prem := by
  rcases Nat.lt_or_gt_of_ne h with h | h
  · exact Or.inl (List.mem_of_getElem? (q_ne i hi j hj h))
  · exact Or.inr (List.mem_of_getElem? (q_ne j hj i hi h))
theorem p_ln : ∀ i, i < 11 → litL.getD i 0 < 2 ^ 31 := by decide +kernel
def ixUn : List Nat := [12, 13, 14, 15, 16, 17]
theorem q_un : ∀ j, j < 6 → prem[ixUn.getD j 0]? = some (Cond.eq (.elem (.static "TrampOffice$Charter" "UNDER" "[I") (.int (Int32.ofNat j))) (.int (undB j))) := by decide +kernel
theorem p_un (j : Nat) (h : j < 6) : Cond.eq (.elem (.static "TrampOffice$Charter" "UNDER" "[I") (.int (Int32.ofNat j))) (.int (undB j)) ∈ prem := List.mem_of_getElem? (q_un j h)
theorem t_ref : ∀ i, i < 11 → Cond.stringRef (litN.getD i ("", 0, "")).1 (litN.getD i ("", 0, "")).2.1 (litN.getD i ("", 0, "")).2.2 ∈ lw_tbl := by decide +kernel
theorem t_nst : ∀ q ∈ nstL, Cond.methodLinkNest q.1 q.2.1 q.2.2.1 q.2.2.2 ∈ lw_tbl := by decide +kernel
theorem t_ao : ∀ C0 ∈ aoL, Cond.arrayOver (.object C0) ∈ lw_tbl := by decide +kernel
theorem k_D {s : State} {args : Array Value} (hts : ∀ w ∈ TBL, w.before args s = true) : ∃ (f : Nat → ClassId) (i : Nat → Nat → Nat), ∀ (c : Nat) (q : vw_C), vwCl[c]? = some q → u_Kn s q.1 q.2.1 q.2.2 (f c) (i c) := by
  obtain ⟨c0, i0, k0⟩ := u_known hts in_X0 (hts _ (tb1 109 rfl rfl : Cond.instantiable RX0 6 ∈ TBL))
  obtain ⟨c1, i1, k1⟩ := u_known hts in_X1 (hts _ (tb4 113 rfl rfl : Cond.instantiable RX1 9 ∈ TBL))
  obtain ⟨c2, i2, k2⟩ := u_known hts in_X2 (hts _ (tb3 99 rfl rfl : Cond.instantiable RX2 7 ∈ TBL))
  obtain ⟨c3, i3, k3⟩ := u_known hts in_X3 (hts _ (tb2 222 rfl rfl : Cond.instantiable RX3 4 ∈ TBL))
  obtain ⟨c4, i4, k4⟩ := u_known hts in_X4 (hts _ (tb1 42 rfl rfl : Cond.instantiable RX4 5 ∈ TBL))
  obtain ⟨c5, i5, k5⟩ := u_known hts in_X5 (hts _ (tb1 136 rfl rfl : Cond.instantiable RX5 8 ∈ TBL))
  obtain ⟨c6, i6, k6⟩ := u_known hts in_X6 (hts _ (tb1 72 rfl rfl : Cond.instantiable RX6 8 ∈ TBL))
  obtain ⟨c7, i7, k7⟩ := u_known hts in_X7 (hts _ (tb1 221 rfl rfl : Cond.instantiable RX7 3 ∈ TBL))
  obtain ⟨c8, i8, k8⟩ := u_known hts in_X8 (hts _ (tb3 29 rfl rfl : Cond.instantiable RX8 9 ∈ TBL))
  obtain ⟨c9, i9, k9⟩ := u_known hts in_X9 (hts _ (tb1 189 rfl rfl : Cond.instantiable RX9 7 ∈ TBL))
  obtain ⟨c10, i10, k10⟩ := u_known hts in_X10 (hts _ (tb1 167 rfl rfl : Cond.instantiable RX10 4 ∈ TBL))
  obtain ⟨c11, i11, k11⟩ := u_known hts in_X11 (hts _ (tb1 22 rfl rfl : Cond.instantiable RX11 19 ∈ TBL))
  obtain ⟨c12, i12, k12⟩ := u_known hts in_X12 (hts _ (tb5 44 rfl rfl : Cond.instantiable RX12 63 ∈ TBL))
  refine ⟨fun k => [c0, c1, c2, c3, c4, c5, c6, c7, c8, c9, c10, c11, c12].getD k 0, fun k => [i0, i1, i2, i3, i4, i5, i6, i7, i8, i9, i10, i11, i12].getD k (fun _ => 0), fun c q hq => ?_⟩
  have hlt : c < 13 := (List.getElem?_eq_some_iff.mp hq).1
  have cs : c = 0 ∨ c = 1 ∨ c = 2 ∨ c = 3 ∨ c = 4 ∨ c = 5 ∨ c = 6 ∨ c = 7 ∨ c = 8 ∨ c = 9 ∨ c = 10 ∨ c = 11 ∨ c = 12 := by omega
  rcases cs with rfl | rfl | rfl | rfl | rfl | rfl | rfl | rfl | rfl | rfl | rfl | rfl | rfl <;> cases hq
  · exact k0
  · exact k1
  · exact k2
  · exact k3
  · exact k4
  · exact k5
  · exact k6
  · exact k7
  · exact k8
  · exact k9
  · exact k10
  · exact k11
  · exact k12
theorem k_cy {s : State} {args : Array Value} (hts : ∀ w ∈ lw_tbl, w.before args s = true) : ∃ cy : Nat → ClassId, ∀ (k : Nat) (q : ClassId × FieldType), (xtys cy)[k]? = some q → ArrOfT s q.1 q.2 ∧ va_RA s q.1 q.2 := by
  obtain ⟨c0, h0⟩ := k_cls (hts (Cond.arrayClass .byte) (by decide +kernel))
  obtain ⟨c1, h1⟩ := k_cls (hts (Cond.arrayClass .int) (by decide +kernel))
  obtain ⟨c2, h2⟩ := k_cls (hts (Cond.arrayClass .boolean) (by decide +kernel))
  obtain ⟨c3, h3⟩ := k_obj (hts (Cond.arrayOver (.object RX1)) (by decide +kernel))
  obtain ⟨c4, h4⟩ := k_obj (hts (Cond.arrayOver (.object RX2)) (by decide +kernel))
  obtain ⟨c5, h5⟩ := k_obj (hts (Cond.arrayOver (.object RX3)) (by decide +kernel))
  obtain ⟨c6, h6⟩ := k_obj (hts (Cond.arrayOver (.object RX7)) (by decide +kernel))
  obtain ⟨c7, h7⟩ := k_obj (hts (Cond.arrayOver (.object RX8)) (by decide +kernel))
  obtain ⟨c8, h8⟩ := k_obj (hts (Cond.arrayOver (.object RX10)) (by decide +kernel))
  obtain ⟨c9, h9⟩ := k_arr (hts (Cond.arrayOver (.array .int)) (by decide +kernel))
  refine ⟨fun k => [c0, c1, c2, c3, c4, c5, c6, c7, c8, c9].getD k 0, fun k q hq => ?_⟩
  have hlt : k < 10 := (List.getElem?_eq_some_iff.mp hq).1
  have cs : k = 0 ∨ k = 1 ∨ k = 2 ∨ k = 3 ∨ k = 4 ∨ k = 5 ∨ k = 6 ∨ k = 7 ∨ k = 8 ∨ k = 9 := by omega
  rcases cs with rfl | rfl | rfl | rfl | rfl | rfl | rfl | rfl | rfl | rfl <;> cases hq
  · exact h0
  · exact h1
  · exact h2
  · exact h3
  · exact h4
  · exact h5
  · exact h6
  · exact h7
  · exact h8
  · exact h9
/-- the surroundings at the law's entry -/
theorem k_Cx {p : Program} {s : State} {m : MethodId} {meth : Method} {c : Code} {b L : Nat} {xs : Nat → Int32} (C0 : lw_At p s m meth c b L xs) : ∃ G : XG, Cx p s m c cL_law 4 #[Value.ref b] RL G ∧ G.2.2 = fun q => s.heap.size ≤ q := by
  obtain ⟨hx, hb, hr, hml, hown, hts, hX, hbl, hlk, hgv⟩ := C0
  have hg : ∀ w ∈ prem, w.before #[Value.ref b] s = true := flat_of_before _ hgv
  have hT : ∀ w ∈ TBL, w.before #[Value.ref b] s = true := fun w hw => hts w (List.mem_filter.mp hw).1
  have hA : ∀ a : Nat, a < s.heap.size → ¬ (s.heap.size ≤ a) := fun a h => Nat.not_le.mpr h
  obtain ⟨f, iS, hD⟩ := k_D hT
  obtain ⟨cy, hcy⟩ := k_cy hts
  obtain ⟨adK, adV, hS, hev⟩ := vk_Sof (args := #[Value.ref b]) (s := s) (N := 11) (tm := tmL) (len := litL) (byt := litB) (A := fun q => s.heap.size ≤ q) p_ln (fun i hi => hg _ (p_ex i hi)) (fun i hi => hg _ (p_co i hi)) (fun i hi => hg _ (p_ar i hi)) (fun i hi => hg _ (p_le i hi)) (fun i hi j hj => hg _ (p_el i hi j hj)) (fun i j hi hj hne => (p_ne i hi j hj hne).elim (fun h => Or.inl (hg _ h)) (fun h => Or.inr (hg _ h))) hA
  obtain ⟨tU, htU, hU⟩ := va_Tof (args := #[Value.ref b]) (s := s) (tm := .static "TrampOffice$Charter" "UNDER" "[I") (ty := .int) (N := 6) (f := fun j => .int (undB j)) (A := fun q => s.heap.size ≤ q) (by decide) (hg _ (by decide +kernel)) (va_eqt (hg _ (by decide +kernel))) (fun j hj => va_eqt (hg _ (p_un j hj))) hA
  have z1 := va_Zof (args := #[Value.ref b]) (s := s) (C := "java/lang/String") (n := "COMPACT_STRINGS") (d := "Z") (v := .int 1) (A := fun q => s.heap.size ≤ q) (hts _ (by decide +kernel)) (hts _ (by decide +kernel)) (va_eqt (hg _ (by decide +kernel))) hA
  have z2 := va_Zqof (args := #[Value.ref b]) (s := s) (C := "jdk/internal/util/Preconditions") (n := "SIOOBE_FORMATTER") (d := "Ljava/util/function/BiFunction;") (A := fun q => s.heap.size ≤ q) (hts _ (by decide +kernel)) (hts _ (by decide +kernel)) (hg _ (by decide +kernel)) hA
  have z3 := va_Zof (args := #[Value.ref b]) (s := s) (C := "TrampOffice$Charter") (n := "UNDER") (d := "[I") (v := .ref tU) (A := fun q => s.heap.size ≤ q) (hts _ (by decide +kernel)) (hts _ (by decide +kernel)) htU hA
  have z2' : ∃ r : Option Nat, va_Z "jdk/internal/util/Preconditions" "SIOOBE_FORMATTER" "Ljava/util/function/BiFunction;" (va_rf r) (fun q => s.heap.size ≤ q) s s.heap := by
    rcases z2 with h | ⟨t, h⟩
    · exact ⟨none, h⟩
    · exact ⟨some t, h⟩
  refine ⟨((f, fun k => if k = 99 then adK else if k = 97 then adV else if k = 98 then (fun _ => tU) else iS k), cy, fun q => s.heap.size ≤ q), ⟨hx, hb, hml, hown, hT, ⟨fun k q hq => ?_, hcy⟩, fun q hq => hq, hS, z1, z2', z3, hU, fun i hi => vk_R.of (hts _ (t_ref i hi)) (hev i hi), fun q hq => va_Nw.of rfl (hts _ (t_nst q hq)), fun C0 hc => va_AO.of (hts _ (t_ao C0 hc)), ?_⟩, rfl⟩
  · have hlt : k < 13 := (List.getElem?_eq_some_iff.mp hq).1
    have e : (if k = 99 then adK else if k = 97 then adV else if k = 98 then (fun _ => tU) else iS k) = iS k := by
      rw [if_neg (by omega), if_neg (by omega), if_neg (by omega)]
    have := hD k q hq
    rw [← e] at this
    exact this
  · exact (hts (Cond.arrayOver (.array .int)) (by decide +kernel) : (Cond.arrayOver (.array .int)).before #[Value.ref b] s = true)
def S00 : HSt := (fun _ => 0, fun _ _ => 0, fun _ _ => 0, fun _ _ => none, fun _ => 0, fun _ _ _ => 0, fun _ _ _ => none)
theorem Y2.z {G : XG} {H : Heap} : Y2 G S00 S00 H := by
  refine ⟨[], [], fun a => ⟨fun h => absurd rfl h, fun h => absurd h List.not_mem_nil⟩, fun a => ⟨fun h => absurd rfl h, fun h => absurd h List.not_mem_nil⟩, ?_, ?_, ?_⟩
  · intro k q h
    cases h
  · intro i j p q h
    cases h
  · intro k q h
    cases h
theorem whole_start {p : Program} {e : Env} {s : State} {m : MethodId} {below : List Frame} {meth : Method} {c : Code} (l : Launch) (hflags : l.flags = flags0) {b L : Nat} {xs : Nat → Int32} (hL : L ≤ 4096) (C0 : lw_At p s m meth c b L xs) : W p l e room_1 s m #[Value.ref b] below meth c s.heap [] 0 0 (lw_Z below #[Value.ref b] s) (entryFrame m ([Value.ref b] : List Value).toArray 4) := by
  obtain ⟨G, C, hG⟩ := k_Cx C0
  obtain ⟨hx, hb, hr, hml, hown, hts, hX, hbl, hlk, hgv⟩ := C0
  have hG' : ∀ q, G.2.2 q → s.heap.size ≤ q := fun q h => by rw [hG] at h; exact h
  have X : Xs G s b L xs := ⟨hX, hbl, hG', hL⟩
  rw [lg_entry_eq]
  have key : Wy p l e room_1 s m #[Value.ref b] below meth c (lw_Z below #[Value.ref b] s) G 4 0 0 S00 S00 0 [(0, .ref b)] [] := by
    refine y_nw (pc := 0) C nw_L_7 dL_law_0 (by decide) (by decide) (fun a1 z1 => ?_)
    refine y_dup (pc := 3) C dL_law_3 rfl ?_
    refine y_cI (pc := 4) C me_X11_init rfl mi_X11_init ml_L_9 (fun G' => m_X11_init l G' a1 (nO S00 12 a1) (fun _ S' => ∀ op vl, fitL LT2 op vl → ∃ ad, CR ad a1 S' (s0 op vl)) (gK_nO rfl) (c_init z1 (fun S' h => h))) (Nat.le_of_ble_eq_true rfl) dL_law_4 (by decide) (by decide) (by decide) (fun S1 p1 => ?_)
    refine y_astore_n (pc := 7) C [(1, .ref a1), (0, .ref b)] dL_law_7 rfl (by decide) rfl ?_
    refine y_swap ?_
    refine y_nw (pc := 8) C nw_L_10 dL_law_8 (by decide) (by decide) (fun a2 z2 => ?_)
    refine y_dup (pc := 11) C dL_law_11 rfl ?_
    refine y_cI (pc := 12) C me_X12_init rfl mi_X12_init ml_L_12 (fun G' => m_X12_init l G' a2 (nO S00 13 a2) (fun _ S' => ∃ g op vl, fitL LT2 op vl ∧ MR g a2 S' (s0 op vl)) (gK_nO rfl) (r_init z2 (fun S' g op vl h1 h2 => ⟨g, op, vl, h1, h2⟩))) (Nat.le_of_ble_eq_true rfl) dL_law_12 (by decide) (by decide) (by decide) (fun S2 p2 => ?_)
    refine y_swap ?_
    refine y_astore_n (pc := 15) C [(2, .ref a2), (1, .ref a1), (0, .ref b)] dL_law_15 rfl (by decide) rfl ?_
    refine y_iconst (pc := 16) C (nI 0) dL_law_16 (by decide) ?_
    refine y_istore_n (pc := 17) C (lvL b a1 a2 (8 * 0)) dL_law_17 rfl (by decide) rfl ?_
    obtain ⟨⟨g, op, vl, hf, hM⟩, -⟩ := p2
    obtain ⟨ad, hC⟩ := p1.1 op vl hf
    exact l_loop C X (fun S1 S2 cells slots i h1 h2 => l_exit C hr hlk hG' h1 h2) 513 0 S1 S2 _ _ rfl ⟨ad, g, s0 op vl, hC, hM, s0_inv hf⟩ (by decide) (by decide)
  exact key s.heap [] _ Y2.z va_S.rf (lv_entry [Value.ref b] (n := 4) (Nat.le_of_ble_eq_true rfl))
