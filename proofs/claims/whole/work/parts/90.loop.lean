/-! THE CLAIM OUT OF ONE WALK OF THE LAW'S BODY. Your part is whole_start (and what it stands on); all else here is the same for every law, but numbers. -/
def R_law : String := "TrampOfficeLaw"
def lw_P (b : Addr) (xs : List Int32) (args : Array Value) (s : State) : Prop := args = #[.ref b] ∧ s.IntsAt b xs ∧ xs.length ≤ 4096 ∧ (Jvm.Cond.and given_1 narrow_1).before args s = true
def lw_Q (_ : Array Value) (s : State) (o : Outcome) (t : State) : Prop := o = .returned (some (.int 1)) ∧ Framed s o t [] 600000 7302250
def lw_Z (below : List Frame) (a : Array Value) (s : State) : State → Prop := fun t => ∃ o, t.status = .running ∧ Ended t below o ∧ lw_Q a s o t
/-- the law's own end, with 1 on the stack, nothing written that was there before, its room as the claim has it -/
theorem lw_ret {p : Program} {l : Launch} {e : Env} {s : State} {m : MethodId} {below : List Frame} {meth : Method} {c : Code} {b : Nat} (hx : p.tables.exec = Jvm.exec) (hb : c.code = code) (hr : meth.sig.returnType = ret) (hlocks : meth.locks = false) {pc : Nat} {H : Heap} {ls : Array Slot} (hdg : decode code pc = .ok (.ireturn, 1)) : W p l e room_1 s m #[Value.ref b] below meth c H [] 600000 7302250 (lw_Z below #[Value.ref b] s) (F0 m pc ls [.int 1]) := by
  intro T hT X
  obtain ⟨fs, hret, hrun, hended, hW, hframe⟩ := X.leave (v := some (.int 1)) (hlocks := hlocks) (fun h => by rw [hr] at h; cases h)
  have hmeth' : T.vm.method? m = some meth := X.method'
  refine ⟨T.setFrames fs, ?_, .returned (some (.int 1)), hrun, hended, rfl, ⟨_, rfl⟩, hW, hframe⟩
  jvm_step X.here [X.here.top, hx, hb, hdg, hmeth', hr, ret, narrow_b1]
  (try refine ⟨rfl, ?_⟩); (try refine ⟨rfl, ?_⟩)
  first | (intro acts; rw [hret _ acts rfl rfl rfl]) | rw [hret _ _ rfl rfl rfl]
  exact Steps.refl _
/-- what holds at the law's entry: the machine, the code, the tables' words (any of lw_tbl by 'hts w (by decide +kernel)'), the script of L ints xs at the cell b, what the Statement gives of the start (any of its parts by flat_of_before) -/
def lw_At (p : Program) (s : State) (m : MethodId) (meth : Method) (c : Code) (b L : Nat) (xs : Nat → Int32) : Prop :=
  p.tables.exec = Jvm.exec ∧ c.code = code ∧ meth.sig.returnType = ret ∧ c.maxLocals = 4 ∧ s.vm.findClass R_law = some m.cls ∧ (∀ w ∈ lw_tbl, w.before #[Value.ref b] s = true) ∧ va_X b L xs s s.heap ∧ b < s.heap.size ∧ meth.locks = false ∧ (Jvm.Cond.and given_1 narrow_1).before #[Value.ref b] s = true
/-! THE LAW'S LOOP -/
theorem l_bound {L i : Nat} (hL : L ≤ 4096) (hi : i ≤ 4104) (h : ¬ (nI L - 8 : Int32) < nI i) : i + 8 ≤ L := by
  by_cases h8 : 8 ≤ L
  · have e : nI L - 8 = nI (L - 8) := nI_sub h8
    rw [e] at h
    by_cases q : i + 8 ≤ L
    · exact q
    · exact absurd (nI_lt (by omega) (by omega)) h
  · have t : ∀ L, L < 8 → nI L - 8 < 0 := by decide +kernel
    exact absurd (Int32.lt_of_lt_of_le (t L (by omega)) (nI_pos' (by omega))) h
section YL2
variable {p : Program} {l : Launch} {e : Env} {s : State} {m : MethodId} {args : Array Value} {below : List Frame} {meth : Method} {c : Code} {Q : State → Prop} {G : XG} {cells slots : Nat} {S1 S2 : HSt}
theorem l_switch {b L a1 a2 i : Nat} {xs : Nat → Int32} (C : Cx p s m c cL_law 4 args RL G) (X : Xs G s b L xs) (hi : i + 7 < L) (hs : Sim a1 a2 S1 S2) (hc : cells ≤ 100000) (hsl : slots ≤ 7000000) (tl : Tl p l e s m args below meth c Q G cells slots b a1 a2 i) : Wy p l e room_1 s m args below meth c Q G 4 cells slots S1 S2 27 (lvL b a1 a2 i) [] := by
  refine y_aload_n (pc := 27) C 3 rfl dL_law_27 rfl ?_
  refine y_iload_n (pc := 28) C 0 rfl dL_law_28 rfl ?_
  refine y_sld (pc := 29) C X (by omega) dL_law_29 ?_
  refine y_bipush (pc := 30) C (63 : Int32) dL_law_30 (by decide) ?_
  refine y_iand (pc := 32) C dL_law_32 ?_
  by_cases ho : (xs i &&& 63).toInt < 0 ∨ 33 < (xs i &&& 63).toInt
  · exact y_tableOut (pc := 33) C 1521 dL_law_33 ho rfl (tl S1 S2 cells slots hs (by omega) (by omega))
  · obtain ⟨n, hn, en⟩ : ∃ n : Nat, n < 34 ∧ (xs i &&& 63).toInt = (n : Int) := ⟨(xs i &&& 63).toInt.toNat, by omega, by omega⟩
    have cs : n = 0 ∨ n = 1 ∨ n = 2 ∨ n = 3 ∨ n = 4 ∨ n = 5 ∨ n = 6 ∨ n = 7 ∨ n = 8 ∨ n = 9 ∨ n = 10 ∨ n = 11 ∨ n = 12 ∨ n = 13 ∨ n = 14 ∨ n = 15 ∨ n = 16 ∨ n = 17 ∨ n = 18 ∨ n = 19 ∨ n = 20 ∨ n = 21 ∨ n = 22 ∨ n = 23 ∨ n = 24 ∨ n = 25 ∨ n = 26 ∨ n = 27 ∨ n = 28 ∨ n = 29 ∨ n = 30 ∨ n = 31 ∨ n = 32 ∨ n = 33 := by omega
    rcases cs with rfl | rfl | rfl | rfl | rfl | rfl | rfl | rfl | rfl | rfl | rfl | rfl | rfl | rfl | rfl | rfl | rfl | rfl | rfl | rfl | rfl | rfl | rfl | rfl | rfl | rfl | rfl | rfl | rfl | rfl | rfl | rfl | rfl | rfl
    · exact y_tableIn (pc := 33) C (off := 151) 184 dL_law_33 (by omega) (by omega) (by rw [en]; rfl) rfl (l_port C X hi hs hc hsl tl)
    · exact y_tableIn (pc := 33) C (off := 184) 217 dL_law_33 (by omega) (by omega) (by rw [en]; rfl) rfl (l_way C X hi hs hc hsl tl)
    · exact y_tableIn (pc := 33) C (off := 227) 260 dL_law_33 (by omega) (by omega) (by rw [en]; rfl) rfl (l_price C X hi hs hc hsl tl)
    · exact y_tableIn (pc := 33) C (off := 260) 293 dL_law_33 (by omega) (by omega) (by rw [en]; rfl) rfl (l_ship C X hi hs hc hsl tl)
    · exact y_tableIn (pc := 33) C (off := 313) 346 dL_law_33 (by omega) (by omega) (by rw [en]; rfl) rfl (l_speed C X hi hs hc hsl tl)
    · exact y_tableIn (pc := 33) C (off := 346) 379 dL_law_33 (by omega) (by omega) (by rw [en]; rfl) rfl (l_free C X hi hs hc hsl tl)
    · exact y_tableIn (pc := 33) C (off := 389) 422 dL_law_33 (by omega) (by omega) (by rw [en]; rfl) rfl (l_shipTold C X hi hs hc hsl tl)
    · exact y_tableIn (pc := 33) C (off := 422) 455 dL_law_33 (by omega) (by omega) (by rw [en]; rfl) rfl (l_offer C X hi hs hc hsl tl)
    · exact y_tableIn (pc := 33) C (off := 497) 530 dL_law_33 (by omega) (by omega) (by rw [en]; rfl) rfl (l_why C X hi hs hc hsl tl)
    · exact y_tableIn (pc := 33) C (off := 530) 563 dL_law_33 (by omega) (by omega) (by rw [en]; rfl) rfl (l_estimate C X hi hs hc hsl tl)
    · exact y_tableIn (pc := 33) C (off := 574) 607 dL_law_33 (by omega) (by omega) (by rw [en]; rfl) rfl (l_best C X hi hs hc hsl tl)
    · exact y_tableIn (pc := 33) C (off := 618) 651 dL_law_33 (by omega) (by omega) (by rw [en]; rfl) rfl (l_chain C X hi hs hc hsl tl)
    · exact y_tableIn (pc := 33) C (off := 661) 694 dL_law_33 (by omega) (by omega) (by rw [en]; rfl) rfl (l_fix C X hi hs hc hsl tl)
    · exact y_tableIn (pc := 33) C (off := 694) 727 dL_law_33 (by omega) (by omega) (by rw [en]; rfl) rfl (l_go C X hi hs hc hsl tl)
    · exact y_tableIn (pc := 33) C (off := 717) 750 dL_law_33 (by omega) (by omega) (by rw [en]; rfl) rfl (l_clear C X hi hs hc hsl tl)
    · exact y_tableIn (pc := 33) C (off := 730) 763 dL_law_33 (by omega) (by omega) (by rw [en]; rfl) rfl (l_bunker C X hi hs hc hsl tl)
    · exact y_tableIn (pc := 33) C (off := 753) 786 dL_law_33 (by omega) (by omega) (by rw [en]; rfl) rfl (l_bought C X hi hs hc hsl tl)
    · exact y_tableIn (pc := 33) C (off := 786) 819 dL_law_33 (by omega) (by omega) (by rw [en]; rfl) rfl (l_log C X hi hs hc hsl tl)
    · exact y_tableIn (pc := 33) C (off := 829) 862 dL_law_33 (by omega) (by omega) (by rw [en]; rfl) rfl (l_lay C X hi hs hc hsl tl)
    · exact y_tableIn (pc := 33) C (off := 892) 925 dL_law_33 (by omega) (by omega) (by rw [en]; rfl) rfl (l_right C X hi hs hc hsl tl)
    · exact y_tableIn (pc := 33) C (off := 935) 968 dL_law_33 (by omega) (by omega) (by rw [en]; rfl) rfl (l_sort C X hi hs hc hsl tl)
    · exact y_tableIn (pc := 33) C (off := 968) 1001 dL_law_33 (by omega) (by omega) (by rw [en]; rfl) rfl (l_feed C X hi hs hc hsl tl)
    · exact y_tableIn (pc := 33) C (off := 1031) 1064 dL_law_33 (by omega) (by omega) (by rw [en]; rfl) rfl (l_text C X hi hs hc hsl tl)
    · exact y_tableIn (pc := 33) C (off := 1044) 1077 dL_law_33 (by omega) (by omega) (by rw [en]; rfl) rfl (l_charter C X hi hs hc hsl tl)
    · exact y_tableIn (pc := 33) C (off := 1151) 1184 dL_law_33 (by omega) (by omega) (by rw [en]; rfl) rfl (l_lift C X hi hs hc hsl tl)
    · exact y_tableIn (pc := 33) C (off := 1200) 1233 dL_law_33 (by omega) (by omega) (by rw [en]; rfl) rfl (l_charterTold C X hi hs hc hsl tl)
    · exact y_tableIn (pc := 33) C (off := 1233) 1266 dL_law_33 (by omega) (by omega) (by rw [en]; rfl) rfl (l_pays C X hi hs hc hsl tl)
    · exact y_tableIn (pc := 33) C (off := 1257) 1290 dL_law_33 (by omega) (by omega) (by rw [en]; rfl) rfl (l_counts C X hi hs hc hsl tl)
    · exact y_tableIn (pc := 33) C (off := 1290) 1323 dL_law_33 (by omega) (by omega) (by rw [en]; rfl) rfl (l_account C X hi hs hc hsl tl)
    · exact y_tableIn (pc := 33) C (off := 1323) 1356 dL_law_33 (by omega) (by omega) (by rw [en]; rfl) rfl (l_owners C X hi hs hc hsl tl)
    · exact y_tableIn (pc := 33) C (off := 1346) 1379 dL_law_33 (by omega) (by omega) (by rw [en]; rfl) rfl (l_count C X hi hs hc hsl tl)
    · exact y_tableIn (pc := 33) C (off := 1369) 1402 dL_law_33 (by omega) (by omega) (by rw [en]; rfl) rfl (l_sheet C X hi hs hc hsl tl)
    · exact y_tableIn (pc := 33) C (off := 1412) 1445 dL_law_33 (by omega) (by omega) (by rw [en]; rfl) rfl (l_cell C X hi hs hc hsl tl)
    · exact y_tableIn (pc := 33) C (off := 1455) 1488 dL_law_33 (by omega) (by omega) (by rw [en]; rfl) rfl (l_taken C X hi hs hc hsl tl)
theorem l_head {b L a1 a2 i : Nat} {xs : Nat → Int32} (C : Cx p s m c cL_law 4 args RL G) (X : Xs G s b L xs) (hi : i ≤ 4104) (ex : Wy p l e room_1 s m args below meth c Q G 4 cells slots S1 S2 1527 (lvL b a1 a2 i) []) (bd : i + 8 ≤ L → Wy p l e room_1 s m args below meth c Q G 4 cells slots S1 S2 27 (lvL b a1 a2 i) []) : Wy p l e room_1 s m args below meth c Q G 4 cells slots S1 S2 18 (lvL b a1 a2 i) [] := by
  refine y_iload_n (pc := 18) C 0 rfl dL_law_18 rfl ?_
  refine y_aload_n (pc := 19) C 3 rfl dL_law_19 rfl ?_
  refine y_slen (pc := 20) C X dL_law_20 ?_
  refine y_bipush (pc := 21) C (8 : Int32) dL_law_21 (by decide) ?_
  refine y_isub (pc := 23) C dL_law_23 ?_
  exact y_ic_gt (pc := 24) C 1527 dL_law_24 rfl (fun _ => ex) (fun h => bd (l_bound X.2.2.2 hi h))
set_option maxRecDepth 100000 in
theorem l_loop {b L a1 a2 : Nat} {xs : Nat → Int32} (C : Cx p s m c cL_law 4 args RL G) (X : Xs G s b L xs) (ex : ∀ (S1 S2 : HSt) (cells slots i : Nat), cells ≤ 600000 → slots ≤ 7302250 → Wy p l e room_1 s m args below meth c Q G 4 cells slots S1 S2 1527 (lvL b a1 a2 i) []) : ∀ (r k : Nat) (S1 S2 : HSt) (cells slots : Nat), k + r = 513 → Sim a1 a2 S1 S2 → cells ≤ 1000 + 3 * k → slots ≤ 60000 + 2100 * k → Wy p l e room_1 s m args below meth c Q G 4 cells slots S1 S2 18 (lvL b a1 a2 (8 * k)) [] := by
  have hL := X.2.2.2
  intro r
  induction r with
  | zero =>
    intro k S1 S2 cells slots hk hs hc hsl
    exact l_head C X (by omega) (ex _ _ _ _ _ (by omega) (by omega)) (fun h => by omega)
  | succ r ih =>
    intro k S1 S2 cells slots hk hs hc hsl
    refine l_head C X (by omega) (ex _ _ _ _ _ (by omega) (by omega)) (fun h => ?_)
    refine l_switch C X (by omega) hs (by omega) (by omega) (fun S1' S2' c' s' sim h1 h2 => ?_)
    have e1 : k + 1 + r = 513 := by omega
    have e2 : c' ≤ 1000 + 3 * (k + 1) := by omega
    have e3 : s' ≤ 60000 + 2100 * (k + 1) := by omega
    refine y_iinc (pc := 1521) C (nI (8 * (k + 1))) 0 rfl (lvL b a1 a2 (8 * (k + 1))) dL_law_1521 ?_ (by decide) rfl ?_
    · rw [show Int32.ofInt 8 = nI 8 from by decide, nI_add]; rfl
    · exact y_goto (pc := 1524) C 18 dL_law_1524 rfl (ih (k + 1) S1' S2' c' s' e1 sim e2 e3)
end YL2
theorem l_exit {p : Program} {l : Launch} {e : Env} {s : State} {m : MethodId} {below : List Frame} {meth : Method} {c : Code} {b : Nat} {G : XG} {S1 S2 : HSt} {cells slots : Nat} {lv : List (Nat × Value)} (C : Cx p s m c cL_law 4 #[Value.ref b] RL G) (hr : meth.sig.returnType = ret) (hk : meth.locks = false) (hG : ∀ q, G.2.2 q → s.heap.size ≤ q) (hc : cells ≤ 600000) (hs : slots ≤ 7302250) : Wy p l e room_1 s m #[Value.ref b] below meth c (lw_Z below #[Value.ref b] s) G 4 cells slots S1 S2 1527 lv [] := fun H locs ls hY hS hl =>
  va_forget (fun q hq => hG _ (hS.2.2 q hq)) (W.widen hc hs (lv_iconst C.1 C.2.1 dL_law_1527 (by decide : Int32.ofInt 1 = 1) (lw_ret C.1 C.2.1 hr hk dL_law_1528)))
