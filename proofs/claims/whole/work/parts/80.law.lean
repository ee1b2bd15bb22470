/-! TWO PARTS IN ONE HEAP: a call works on one of them, the other stays -/
theorem lw_join {A0 : Nat → Prop} {D : va_G} {cl : List vw_C} {W2 W1 w1 : va_W} {H H1 : Heap} (hP : va_P D cl (W2 ++ W1) H) (hD : va_D A0 (W2 ++ W1)) (hk : ∀ q : Nat, q < H.size → ¬ va_A W1 H.size q → H1[q]? = H[q]?) (hF : ∀ q, va_A W1 H.size q → A0 q) (hP1 : va_P D cl w1 H1) (hD1 : va_D (va_A W1 H.size) w1) : va_P D cl (W2 ++ w1) H1 ∧ va_D A0 (W2 ++ w1) := by
  have left : ∀ (k : Nat) (q : Nat × va_E), W2[k]? = some q → (W2 ++ W1)[k]? = some q ∧ k < W2.length := fun k q h => by
    have hl := (List.getElem?_eq_some_iff.mp h).1
    exact ⟨by rw [List.getElem?_append_left hl]; exact h, hl⟩
  have apart : ∀ (k : Nat) (q : Nat × va_E), W2[k]? = some q → q.1 < H.size ∧ ¬ va_A W1 H.size q.1 := by
    intro k q hq
    obtain ⟨h1, h2⟩ := left k q hq
    have hl := (hP k q h1).lt
    refine ⟨hl, fun h => ?_⟩
    rcases h with ⟨k2, e, h⟩ | h
    · have h3 : (W2 ++ W1)[W2.length + k2]? = some (q.1, e) := by
        rw [List.getElem?_append_right (by omega), Nat.add_sub_cancel_left]; exact h
      have := hD.1 k (W2.length + k2) q (q.1, e) h1 h3 rfl
      omega
    · omega
  have hD2 : va_D A0 W2 := hD.by id (fun k q hq => (left k q hq).1) (fun i j _ _ e => e)
  refine ⟨va_P.app (fun k q hq => ?_) hP1, va_D.app hD2 (hD1.weaken (fun k q _ h => hF q.1 h)) (fun i j x y hx hy hxy => ?_)⟩
  · obtain ⟨g1, g2⟩ := apart k q hq
    exact (hP k q (left k q hq).1).kept (hk q.1 g1 g2)
  · exact (apart i x hx).2 (by rw [hxy]; exact hD1.2 j y hy)
/-- S1 and S2 lie beside each other -/
def Y2 (G : XG) (S1 S2 : HSt) (H : Heap) : Prop := ∃ L1 L2 : List Nat, (∀ a, gK S1 a ≠ 0 ↔ a ∈ L1) ∧ (∀ a, gK S2 a ≠ 0 ↔ a ∈ L2) ∧ va_P G.1 vwCl (va_pl L2 (ent G.2.1 S2) ++ va_pl L1 (ent G.2.1 S1)) H ∧ va_D G.2.2 (va_pl L2 (ent G.2.1 S2) ++ va_pl L1 (ent G.2.1 S1))
theorem Y2.swap {G : XG} {S1 S2 : HSt} {H : Heap} (h : Y2 G S1 S2 H) : Y2 G S2 S1 H := by
  obtain ⟨L1, L2, h1, h2, h3, h4⟩ := h
  exact ⟨L2, L1, h2, h1, va_P.swap (a := []) h3, va_D.swap (a := []) h4⟩
theorem Amb.narrow {G : XG} {B : Nat → Prop} {s : State} {H : Heap} (h : Amb G s H) (hAB : ∀ q, B q → G.2.2 q) : Amb (G.1, G.2.1, B) s H := by
  obtain ⟨h1, h2, ⟨r, h3⟩, h4, h5, h6, h7, h8⟩ := h
  exact ⟨h1.narrow hAB, h2.narrow hAB, ⟨r, h3.narrow hAB⟩, h4.narrow hAB, h5.narrow hAB, h6, h7, h8⟩
section YR
variable {p : Program} {l : Launch} {e : Env} {R : Room} {s : State} {m : MethodId} {args : Array Value} {below : List Frame} {meth : Method} {c : Code} {Q : State → Prop} {G : XG} {nL cells slots : Nat} {S1 S2 : HSt} {pc : Nat} {rest : List Value} {cc : ByteArray} {own : String}
variable {α : Type} {y : MethodName} {b : ByteArray} {n na : Nat} {ret : Option FieldType} {lev mc ms : Nat} {val : α → Option Value} {Post : α → HSt → Prop} {a kd index : Nat} {As : List Value} {H : Heap} {locs : List Loc} {ls : Array Slot}
/-- the surroundings of one part -/
def gY (G : XG) (L1 : List Nat) (S1 : HSt) (H : Heap) : XG := (G.1, G.2.1, va_A (va_pl L1 (ent G.2.1 S1)) H.size)
theorem y_after {st0 : List Value} {a0 : Array Value} {L1 L2 : List Nat} (h2 : ∀ a, gK S2 a ≠ 0 ↔ a ∈ L2) (hP : va_P G.1 vwCl (va_pl L2 (ent G.2.1 S2) ++ va_pl L1 (ent G.2.1 S1)) H) (hD : va_D G.2.2 (va_pl L2 (ent G.2.1 S2) ++ va_pl L1 (ent G.2.1 S1))) (hF : ∀ q, va_A (va_pl L1 (ent G.2.1 S1)) H.size q → G.2.2 q) (hS : va_S G.2.2 s.heap H locs) (hr : va_Run p l e R s m args below meth c H locs cells slots mc ms (F0 m pc ls st0) rest (Qx (gY G L1 S1 H) val Post a0) (gY G L1 S1 H).2.2)
    (kk : ∀ (r : α) (S' : HSt) (H1 : Heap) (locs1 : List Loc), Post r S' → Y2 G S' S2 H1 → va_S G.2.2 s.heap H1 locs1 → W p l e R s m args below meth c H1 locs1 (cells + mc) (slots + ms) Q (F0 m (pc + 3) ls ((val r).toList ++ rest))) : W p l e R s m args below meth c H locs cells slots Q (F0 m pc ls st0) := by
  intro T hT X
  obtain ⟨v, st₀, t, T', L, h0, X', hL, e1, e2, ⟨⟨r, S', hv, hp, ⟨L1', h1', hP1, hD1⟩⟩, hz, hk⟩, st⟩ := hr T hT X
  cases hv
  rw [h0] at hz hk
  obtain ⟨jP, jD⟩ := lw_join hP hD hk hF hP1 hD1
  obtain ⟨t2, a1, b1⟩ := kk r S' T'.heap (locs ++ L) hp ⟨L1', L2, h1', h2, by rw [e1]; exact jP, jD⟩
    ⟨Nat.le_trans hS.1 (by rw [e1]; exact hz), fun q g1 g2 => by rw [e1, hk q (Nat.lt_of_lt_of_le g1 hS.1) (fun z => g2 (hF q z))]; exact hS.2.1 q g1 g2, fun q hq => by
      rcases List.mem_append.mp hq with h | h
      · exact hS.2.2 q h
      · exact hF _ (hL q h)⟩ T' rfl X'
  exact ⟨t2, st t2 a1, b1⟩
theorem y_world (C : Cx p s m c cc nL args own G) {L1 L2 : List Nat} (h1 : ∀ a, gK S1 a ≠ 0 ↔ a ∈ L1) (hP : va_P G.1 vwCl (va_pl L2 (ent G.2.1 S2) ++ va_pl L1 (ent G.2.1 S1)) H) (hD : va_D G.2.2 (va_pl L2 (ent G.2.1 S2) ++ va_pl L1 (ent G.2.1 S1))) (hF : ∀ q, va_A (va_pl L1 (ent G.2.1 S1)) H.size q → G.2.2 q) (hS : va_S G.2.2 s.heap H locs) (As : List Value) : FrameBlind (va_Pc As (Wd (gY G L1 S1 H) S1)) ∧ ∀ U : State, U.heap = H → s.WarmedH U.vm → va_Pc As (Wd (gY G L1 S1 H) S1) As.toArray U := by
  refine ⟨fun a U g mk q => ?_, fun U hU hW => ⟨rfl, ?_, va_K.moved hW.alike C.2.2.2.2.2.1, fun q hq => Or.inr (by rw [← hU]; exact hq), by rw [hU]; exact (C.2.2.2.2.2.2.2.at hW hS).narrow hF⟩⟩
  · obtain ⟨q0, q1, q2, q3, q4⟩ := q
    exact ⟨q0, q1, va_K.moved (u := U) (U := U.calling g mk a) (Vm.Alike.refl U.vm) q2, q3, q4.same rfl⟩
  · rw [hU]
    exact ⟨L1, h1, hP.part (X := va_pl L2 (ent G.2.1 S2)) (cx := []) [] rfl, (hD.part (X := va_pl L2 (ent G.2.1 S2)) (cx := []) [] rfl rfl).self⟩
theorem y_free (C : Cx p s m c cc nL args own G) {L1 L2 : List Nat} (hD : va_D G.2.2 (va_pl L2 (ent G.2.1 S2) ++ va_pl L1 (ent G.2.1 S1))) (hS : va_S G.2.2 s.heap H locs) : ∀ q, va_A (va_pl L1 (ent G.2.1 S1)) H.size q → G.2.2 q := va_freeP (X := va_pl L2 (ent G.2.1 S2)) (cx := []) hD hS C.2.2.2.2.2.2.1 [] rfl
theorem y_callV (C : Cx p s m c cc nL args own G) (hY : Y2 G S1 S2 H) (hS : va_S G.2.2 s.heap H locs) (hsz : ls.size = nL) (As : List Value) (M : MeR y b n ret na) (MV : MeV y kd) (hlk : Cond.methodLink own index y ∈ TBL) (hM : ∀ G' : XG, Mx l y b n ret lev mc ms G' val (.ref a :: As) S1 Post) (hk : gK S1 a = kd) (hna : As.length = na) (hrest : (rest.map fun v => v.category).sum ≤ 8) (hdg : decode cc pc = .ok (.invokevirtual index, 3)) (hlev : lev + 1 ≤ R.frames ∧ 8 + (21 + 11) + 40 * lev ≤ R.locals) (hmc : cells + mc ≤ R.cells) (hms : slots + ms ≤ R.slots)
    (kk : ∀ (r : α) (S' : HSt) (H1 : Heap) (locs1 : List Loc), Post r S' → Y2 G S' S2 H1 → va_S G.2.2 s.heap H1 locs1 → W p l e R s m args below meth c H1 locs1 (cells + mc) (slots + ms) Q (F0 m (pc + 3) ls ((val r).toList ++ rest))) : W p l e R s m args below meth c H locs cells slots Q (F0 m pc ls (As.reverse ++ .ref a :: rest)) := by
  obtain ⟨L1, L2, h1, h2, hP, hD⟩ := hY
  have hF := y_free C hD hS
  obtain ⟨hcode, hini, hd1, hd2, hd3, hn⟩ := M
  have hw := y_world C h1 hP hD hF hS (.ref a :: As)
  have hH : Hq G S1 H := ⟨L1, h1, hP.part (X := va_pl L2 (ent G.2.1 S2)) (cx := []) [] rfl, hD.part (X := va_pl L2 (ent G.2.1 S2)) (cx := []) [] rfl rfl⟩
  refine y_after h2 hP hD hF hS (va_runV (As := As) (rest := rest) (nL := nL) (Ts := TBL) ⟨C.1, C.2.1, C.2.2.1, C.2.2.2.1, C.2.2.2.2.1⟩ (hM (gY G L1 S1 H)) (cwV (C := y.cls) na C.2.2.2.2.1 (fun w hw => ?_) rfl rfl rfl ⟨rfl, hd1, hd2, hd3⟩ ⟨hlev.1, by have := hlev.2; show 8 + (n + 11) + 40 * lev ≤ R.locals; omega⟩) ⟨hw.1, recvX (locs := locs) C MV hk hH, hw.2⟩ rfl hna hsz rfl (lv_room hrest) hdg ⟨hmc, hms⟩) kk
  have h9 : w ∈ TBL := by
    rcases List.mem_append.mp hw with h | h
    · have h := h
      simp only [List.mem_cons, List.not_mem_nil, or_false] at h
      rcases h with rfl | rfl | rfl | rfl
      · exact hlk
      · exact MV.2.2.1
      · exact MV.2.2.2.1
      · exact hini
    · rcases List.mem_cons.mp h with rfl | h
      · exact hcode
      · exact h
  exact ⟨h9, good_of_word (TBL_good w h9)⟩
theorem y_callI {Post : Unit → HSt → Prop} (C : Cx p s m c cc nL args own G) (hY : Y2 G S1 S2 H) (hS : va_S G.2.2 s.heap H locs) (hsz : ls.size = nL) (As : List Value) (M : MeR y b n none na) (hy1 : y.name = "<init>") (hin : Cond.instanceMethod y ∈ TBL) (hlk : Cond.methodLink own index y ∈ TBL) (hM : ∀ G' : XG, Mx l y b n none lev mc ms G' vV (.ref a :: As) S1 Post) (hna : As.length = na) (hrest : (rest.map fun v => v.category).sum ≤ 8) (hdg : decode cc pc = .ok (.invokespecial index, 3)) (hlev : lev + 1 ≤ R.frames ∧ 8 + (21 + 11) + 40 * lev ≤ R.locals) (hmc : cells + mc ≤ R.cells) (hms : slots + ms ≤ R.slots)
    (kk : ∀ (S' : HSt) (H1 : Heap) (locs1 : List Loc), Post () S' → Y2 G S' S2 H1 → va_S G.2.2 s.heap H1 locs1 → W p l e R s m args below meth c H1 locs1 (cells + mc) (slots + ms) Q (F0 m (pc + 3) ls rest)) : W p l e R s m args below meth c H locs cells slots Q (F0 m pc ls (As.reverse ++ .ref a :: rest)) := by
  obtain ⟨L1, L2, h1, h2, hP, hD⟩ := hY
  have hF := y_free C hD hS
  obtain ⟨hcode, hini, hd1, hd2, hd3, hn⟩ := M
  have hw := y_world C h1 hP hD hF hS (.ref a :: As)
  have hG : GoodIn TBL (Cond.code y b n none :: TBL) := TBL_GL hcode
  exact y_after h2 hP hD hF hS (va_runI (As := As) (rest := rest) (nL := nL) (Ts := TBL) ⟨C.1, C.2.1, C.2.2.1, C.2.2.2.1, C.2.2.2.2.1⟩ (hM (gY G L1 S1 H)) (cwI na C.2.2.2.2.1 hG rfl rfl rfl (C.2.2.2.2.1 _ hini) (C.2.2.2.2.1 _ hlk) (C.2.2.2.2.1 _ hin) hy1 ⟨hd1, hd2, hd3⟩ ⟨hlev.1, by have := hlev.2; show 8 + (n + 11) + 40 * lev ≤ R.locals; omega⟩) hw rfl hna hsz rfl (lv_room hrest) hdg ⟨hmc, hms⟩) (fun _ S' H1 locs1 a1 a2 a3 => kk S' H1 locs1 a1 a2 a3)
theorem y_new (C : Cx p s m c cc nL args own G) (hY : Y2 G S1 S2 H) (hS : va_S G.2.2 s.heap H locs) {N : Nat} (F : NewR own index kd N) (hdg : decode cc pc = .ok (.new index, 3)) (h1 : cells + 1 ≤ R.cells) (h2 : slots + N ≤ R.slots) (kk : ∀ (q : Nat) (H1 : Heap), gK S1 q = 0 → Y2 G (nO S1 kd q) S2 H1 → va_S G.2.2 s.heap H1 locs → W p l e R s m args below meth c H1 locs (cells + 1) (slots + N) Q (F0 m (pc + 3) ls (.ref q :: rest))) : W p l e R s m args below meth c H locs cells slots Q (F0 m pc ls rest) := by
  obtain ⟨L1, L2, g1, g2, hP, hD⟩ := hY
  obtain ⟨C0, T, ty, h0, hlt, hc, hin, hty, hcl, hinst, hini, hdef⟩ := F
  refine va_new (ci := kd - 1) C.1 C.2.1 C.2.2.2.2.1 hin ty hty C.2.2.2.1 (C.2.2.2.2.1 _ hcl) (C.2.2.2.2.1 _ hinst) (C.2.2.2.2.1 _ hini) C.2.2.2.2.2.1 hP hD hS C.2.2.2.2.2.2.1 hc hdef h1 h2 hdg (fun q H1 hP1 hD1 hS1 => ?_)
  have hn : q ∉ L1 := va_pl_fresh2 (X := va_pl L2 (ent G.2.1 S2)) hD1
  have hz : gK S1 q = 0 := by
    by_cases h : gK S1 q = 0
    · exact h
    · exact absurd ((g1 q).mp h) hn
  have he : ent G.2.1 (nO S1 kd q) q = .inr (kd - 1, (flds kd).map (fval (fun _ => 0) (fun _ => 0) (fun _ => none))) := by
    rw [ent_obj (k := kd) (by show va_up S1.1 q kd q = kd; rw [va_up_self]) (by omega)]
    have e1 : (fun f => gI (nO S1 kd q) f q) = fun _ => (0 : Int32) := by funext f; simp [gI, nO, cl2]
    have e2 : (fun f => gJ (nO S1 kd q) f q) = fun _ => (0 : Int64) := by funext f; simp [gJ, nO, cl2]
    have e3 : (fun f => gR (nO S1 kd q) f q) = fun _ => (none : Option Nat) := by funext f; simp [gR, nO, cl2]
    rw [e1, e2, e3]
  have ew : (va_pl L2 (ent G.2.1 S2) ++ va_pl L1 (ent G.2.1 S1)) ++ [(q, (.inr (kd - 1, (flds kd).map (fval (fun _ => 0) (fun _ => 0) (fun _ => none))) : va_E))] = va_pl L2 (ent G.2.1 S2) ++ va_pl (L1 ++ [q]) (ent G.2.1 (nO S1 kd q)) := by
    rw [List.append_assoc, va_pl_push hn]
    congr 1
    refine va_pl_congr (fun b => ?_)
    by_cases hb : b = q
    · subst hb; rw [va_up_self]; exact he.symm
    · rw [va_up_ne _ _ hb]; exact (ent_nO S1 kd q hb).symm
  refine kk q H1 hz ⟨L1 ++ [q], L2, fun x => ?_, g2, ew ▸ hP1, ew ▸ hD1⟩ hS1
  by_cases hb : x = q
  · subst hb
    have : gK (nO S1 kd x) x ≠ 0 := by show va_up S1.1 x kd x ≠ 0; rw [va_up_self]; omega
    simp [this]
  · have : gK (nO S1 kd q) x = gK S1 x := va_up_ne _ _ hb
    rw [this, g1 x]; simp [hb]
end YR
