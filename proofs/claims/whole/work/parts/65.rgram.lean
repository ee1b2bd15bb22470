theorem pG_l {T : Nat → Int32} {d lv o i : Nat} (h : lv < 5) (h2 : lv ≠ 2) : pG T (d + 1) lv o i = lpP T (pG T d (lv + 1) o) lv 160 (pG T d (lv + 1) o i) := by
  rw [show pG T (d + 1) lv o i = _ from by unfold pG; exact rfl]
  rw [if_pos h, if_neg (fun z => h2 z.1), if_neg h2]
theorem pG_2n {T : Nat → Int32} {d o i : Nat} (h : ¬ T i = -3) : pG T (d + 1) 2 o i = lpP T (pG T d 3 o) 2 1 (pG T d 3 o i) := by
  rw [show pG T (d + 1) 2 o i = _ from by unfold pG; exact rfl]
  rw [if_pos (by decide), if_neg (fun z => h z.2), if_pos rfl]
theorem pG_2y {T : Nat → Int32} {d o i : Nat} (h : T i = -3) (ho : o < 5) : pG T (d + 1) 2 o i = ((pG T d 2 (o + 1) (i + 1)).1, (pG T d 2 (o + 1) (i + 1)).2.1 ++ [(4, 0)], (pG T d 2 (o + 1) (i + 1)).2.2) := by
  rw [show pG T (d + 1) 2 o i = _ from by unfold pG; exact rfl]
  rw [if_pos (by decide), if_pos ⟨rfl, h⟩, if_pos ho]
theorem pG_2z {T : Nat → Int32} {d o i : Nat} (h : T i = -3) (ho : ¬ o < 5) : pG T (d + 1) 2 o i = (i, [(4, 0)], true) := by
  rw [show pG T (d + 1) 2 o i = _ from by unfold pG; exact rfl]
  rw [if_pos (by decide), if_pos ⟨rfl, h⟩, if_neg ho]
theorem pG_5a {T : Nat → Int32} {d o i : Nat} (h : 0 ≤ T i) : pG T (d + 1) 5 o i = (i + 1, [(0, T i)], false) := by
  rw [show pG T (d + 1) 5 o i = _ from by unfold pG; exact rfl]
  rw [if_neg (by decide), if_pos h]
theorem pG_5b {T : Nat → Int32} {d o i : Nat} (n : ¬ 0 ≤ T i) (h : -14 ≤ T i ∧ T i ≤ -10) : pG T (d + 1) 5 o i = (i + 1, [(1, -10 - T i)], false) := by
  rw [show pG T (d + 1) 5 o i = _ from by unfold pG; exact rfl]
  rw [if_neg (by decide), if_neg n, if_pos h]
theorem pG_5c {T : Nat → Int32} {d o i : Nat} (h : T i = -7) (ho : o < 5) : pG T (d + 1) 5 o i = ((pG T d 5 (o + 1) (i + 1)).1, (pG T d 5 (o + 1) (i + 1)).2.1 ++ [(10, 0)], (pG T d 5 (o + 1) (i + 1)).2.2) := by
  rw [show pG T (d + 1) 5 o i = _ from by unfold pG; exact rfl]
  rw [if_neg (by decide), if_neg (by rw [h]; decide), if_neg (by rw [h]; decide), if_pos h, if_pos ho]
theorem pG_5d {T : Nat → Int32} {d o i : Nat} (h : T i = -7) (ho : ¬ o < 5) : pG T (d + 1) 5 o i = (i, [(10, 0)], true) := by
  rw [show pG T (d + 1) 5 o i = _ from by unfold pG; exact rfl]
  rw [if_neg (by decide), if_neg (by rw [h]; decide), if_neg (by rw [h]; decide), if_pos h, if_neg ho]
theorem pG_5e {T : Nat → Int32} {d o i : Nat} (h : T i = -23) (ho : o < 5) : pG T (d + 1) 5 o i = if (pG T d 0 (o + 1) (i + 1)).2.2 then pG T d 0 (o + 1) (i + 1) else if T (pG T d 0 (o + 1) (i + 1)).1 = -24 then ((pG T d 0 (o + 1) (i + 1)).1 + 1, (pG T d 0 (o + 1) (i + 1)).2.1, false) else ((pG T d 0 (o + 1) (i + 1)).1, (pG T d 0 (o + 1) (i + 1)).2.1, true) := by
  rw [show pG T (d + 1) 5 o i = _ from by unfold pG; exact rfl]
  rw [if_neg (by decide), if_neg (by rw [h]; decide), if_neg (by rw [h]; decide), if_neg (by rw [h]; decide), if_pos h, if_pos ho]
theorem pG_5f {T : Nat → Int32} {d o i : Nat} (h : T i = -23) (ho : ¬ o < 5) : pG T (d + 1) 5 o i = (i, [], true) := by
  rw [show pG T (d + 1) 5 o i = _ from by unfold pG; exact rfl]
  rw [if_neg (by decide), if_neg (by rw [h]; decide), if_neg (by rw [h]; decide), if_neg (by rw [h]; decide), if_pos h, if_neg ho]
theorem pG_5g {T : Nat → Int32} {d o i : Nat} (n1 : ¬ 0 ≤ T i) (n2 : ¬ (-14 ≤ T i ∧ T i ≤ -10)) (n3 : ¬ T i = -7) (n4 : ¬ T i = -23) : pG T (d + 1) 5 o i = (i, [], true) := by
  rw [show pG T (d + 1) 5 o i = _ from by unfold pG; exact rfl]
  rw [if_neg (by decide), if_neg n1, if_neg n2, if_neg n3, if_neg n4]
theorem gd_b {N i : Nat} {r : PRs} {acc : List (Int32 × Int32)} (h : gdR N i r) (hb : acc.length + 1 ≤ i) : (acc ++ r.2.1).length + 1 ≤ r.1 + (if r.2.2 then 1 else 0) := by
  rw [List.length_append]
  have := h.2.2.1
  omega
theorem e_le1 (e : Bool) : (if e = true then 1 else 0) ≤ 1 := by split <;> omega
theorem r_G1 {g : Nat → Nat} {m : Nat} {σ : Sg} {z N : Nat} (H : HH σ z N) : ∀ (d lv o : Nat), lv ≤ 5 → o ≤ 5 → (6 - lv) + 6 * (6 - o) ≤ d → RF g m σ z N o (pG (TS σ z) d lv o) (wp_G1 g d lv m) := by
  have hz := H.1
  have hNz : N ≤ z := H.2.2.2.1
  have hend : TS σ z N = -26 := tk_end H.2.2.2
  have lt : ∀ {i : Nat} {t : Int32}, i ≤ N → TS σ z i = t → t ≠ -26 → i < N := by
    intro i t hi e n
    by_cases q : i = N
    · rw [q, hend] at e; exact absurd e.symm n
    · omega
  intro d
  induction d with
  | zero => intro lv o h1 h2 h3; omega
  | succ d ih =>
    have fok : ∀ (lv o i : Nat), i ≤ N → gdR N i (pG (TS σ z) d lv o i) := fun lv o i hi => pG_ok hend (TS_ok σ z) d lv o i hi
    intro lv o h1 h2 h3 i acc S Post hi hb h hP
    have hc : lv = 0 ∨ lv = 1 ∨ lv = 2 ∨ lv = 3 ∨ lv = 4 ∨ lv = 5 := by omega
    rcases hc with rfl | rfl | rfl | rfl | rfl | rfl
    · rw [pG_l (by decide) (by decide)] at hP
      have hr := ih 1 o (by omega) h2 (by omega)
      have gd := fok 1 o i hi
      exact hr i acc S _ hi hb h (fun S2 k2 => ⟨161, r_lp_either H hr (fok 1 o) acc 160 _ S2 (by omega) gd.2.1 (gd_b gd hb) k2 (fun S' k => hP S' k)⟩)
    · rw [pG_l (by decide) (by decide)] at hP
      have hr := ih 2 o (by omega) h2 (by omega)
      have gd := fok 2 o i hi
      exact hr i acc S _ hi hb h (fun S2 k2 => ⟨161, r_lp_both H hr (fok 2 o) acc 160 _ S2 (by omega) gd.2.1 (gd_b gd hb) k2 (fun S' k => hP S' k)⟩)
    · refine r_wr hz h (fun _ => ⟨fun _ => ?_, fun q => absurd rfl q⟩) (fun e => by cases e)
      rw [h.tk]
      refine ⟨fun q => ?_, fun q => ?_⟩
      · rw [pG_2n (fun y => q ((rtk_not (TS_ok σ z i)).mpr y))] at hP
        have hr := ih 3 o (by omega) h2 (by omega)
        have gd := fok 3 o i hi
        have gb := gd_b gd hb
        unfold lpP at hP
        refine hr i acc S _ hi hb h (fun S7 k7 => r_wr hz k7 (fun e0 => ⟨fun y => absurd rfl y, fun _ => ?_⟩) (fun e1 => ⟨fun _ => ?_, fun y => absurd y (by decide)⟩))
        · have k7' := k7
          rw [e0] at k7' gb
          rw [k7'.tk]
          rw [if_neg (Bool.eq_false_iff.mp e0)] at hP
          have gb : (acc ++ (pG (TS σ z) d 3 o i).2.1).length + 1 ≤ (pG (TS σ z) d 3 o i).1 := gb
          have go : ∀ op : Int32, lvT (TS σ z (pG (TS σ z) d 3 o i).1) = 2 → 1 - TS σ z (pG (TS σ z) d 3 o i).1 = op → wp_X12_next g m S7 (fun _ S13 => wp_G1 g d 3 m S13 (fun _ S16 => wp_X12_emit g m op 0 S16 Post)) := by
            intro op el eo
            have hlt : (pG (TS σ z) d 3 o i).1 < N := by
              by_cases y : (pG (TS σ z) d 3 o i).1 = N
              · rw [y, hend] at el; exact absurd el (by decide)
              · have := gd.2.1; omega
            rw [if_pos el] at hP
            refine r_joint H hr (fok 3 o) k7' hlt gb op (fun S19 k19 => hP S19 ?_)
            show RS g m σ z (pG (TS σ z) d 3 o ((pG (TS σ z) d 3 o i).1 + 1)).1 (acc ++ ((pG (TS σ z) d 3 o i).2.1 ++ (pG (TS σ z) d 3 o ((pG (TS σ z) d 3 o i).1 + 1)).2.1 ++ [(1 - TS σ z (pG (TS σ z) d 3 o i).1, 0)])) o (pG (TS σ z) d 3 o ((pG (TS σ z) d 3 o i).1 + 1)).2.2 S19
            rw [eo, ← List.append_assoc, ← List.append_assoc]
            exact k19
          refine ⟨fun y => ⟨fun u => absurd y u, fun _ => ?_⟩, fun y => ⟨fun u => ?_, fun u => ⟨fun _ => ?_, fun v => absurd v y⟩⟩⟩
          · have et := (rtk_lt (TS_ok σ z _)).mp y
            exact go 5 (lv_2.mpr (Or.inl et)) (by rw [et]; decide)
          · rw [if_neg (fun v => (lv_2.mp v).elim (fun x => y ((rtk_lt (TS_ok σ z _)).mpr x)) (fun x => u ((rtk_eq (TS_ok σ z _)).mpr x)))] at hP
            exact hP S7 k7
          · have et := (rtk_eq (TS_ok σ z _)).mp u
            exact go 6 (lv_2.mpr (Or.inr et)) (by rw [et]; decide)
        · rw [if_pos e1] at hP
          exact hP S7 k7
      · have et := (rtk_not (TS_ok σ z i)).mp q
        have hlt := lt hi et (by decide)
        refine r_op H h2 h (fun ho S54 k => ?_) (fun ho S54 k => ?_)
        · rw [pG_2y et ho] at hP
          have gd := fok 2 (o + 1) (i + 1) hlt
          refine ih 2 (o + 1) (by omega) (by omega) (by omega) (i + 1) acc S54 _ hlt (by omega) k (fun S57 k57 S59 e59 => ?_)
          have k59 : RS g m σ z (pG (TS σ z) d 2 (o + 1) (i + 1)).1 (acc ++ (pG (TS σ z) d 2 (o + 1) (i + 1)).2.1) o (pG (TS σ z) d 2 (o + 1) (i + 1)).2.2 S59 := by
            rw [e59]
            exact k57.u57 o _ (fun ef => by rw [(k57.2.2.1 ef).1]; exact nI_pred o)
          refine r_emit H k59 ?_ 4 0 (fun S63 k63 => hP S63 ?_)
          · have := gd_b (acc := acc) gd (by omega)
            have := e_le1 (pG (TS σ z) d 2 (o + 1) (i + 1)).2.2
            have := gd.2.1
            omega
          · show RS g m σ z (pG (TS σ z) d 2 (o + 1) (i + 1)).1 (acc ++ ((pG (TS σ z) d 2 (o + 1) (i + 1)).2.1 ++ [(4, 0)])) o (pG (TS σ z) d 2 (o + 1) (i + 1)).2.2 S63
            rw [← List.append_assoc]; exact k63
        · rw [pG_2z et ho] at hP
          refine r_err hz k d 2 (by omega) (by omega) _ (fun S59 e59 => ?_)
          have k59 : RS g m σ z i acc o true S59 := by rw [e59]; exact (k.u57 o _ (fun ef => by cases ef)).o
          exact r_emit H k59 (by omega) 4 0 (fun S63 k63 => hP S63 k63)
    · rw [pG_l (by decide) (by decide)] at hP
      have hr := ih 4 o (by omega) h2 (by omega)
      have gd := fok 4 o i hi
      exact hr i acc S _ hi hb h (fun S2 k2 => ⟨161, r_lp_added H hr (fok 4 o) acc 160 _ S2 (by omega) gd.2.1 (gd_b gd hb) k2 (fun S' k => hP S' k)⟩)
    · rw [pG_l (by decide) (by decide)] at hP
      have hr := ih 5 o (by omega) h2 (by omega)
      have gd := fok 5 o i hi
      exact hr i acc S _ hi hb h (fun S2 k2 => ⟨161, r_lp_term H hr (fok 5 o) acc 160 _ S2 (by omega) gd.2.1 (gd_b gd hb) k2 (fun S' k => hP S' k)⟩)
    · refine r_wr hz h (fun _ => ⟨fun _ => ?_, fun q => absurd rfl q⟩) (fun e => by cases e)
      rw [h.tk]
      have nm : isV (TS σ z i) → ∀ op : Int32, (∀ S', RS g m σ z (i + 1) (acc ++ [(op, tld (TS σ z i))]) o false S' → Post () S') → wp_X12_emit g m op (gI S 1355 m) S (fun _ S8 => wp_X12_next g m S8 (fun _ S11 => Post () S11)) := by
        intro v op hQ
        rw [h.tl v]
        exact r_emit H h (by omega) op _ (fun S8 k8 => r_nx H k8 (fun S11 k11 => hQ S11 k11))
      refine ⟨fun q => ⟨fun y => absurd q y, fun _ => ?_⟩, fun q => ⟨fun y => ⟨fun u => ⟨fun v => ?_, fun v => ?_⟩, fun u => ?_⟩, fun y => ⟨fun _ => ?_, fun u => absurd u q⟩⟩⟩
      · have t0 := (rtk_num (TS_ok σ z i)).mp q
        rw [pG_5a t0] at hP
        have e1 : tld (TS σ z i) = TS σ z i := if_pos t0
        have := nm (Or.inl t0) 0
        rw [e1] at this
        exact this hP
      · have n1 : ¬ 0 ≤ TS σ z i := fun a => q ((rtk_num (TS_ok σ z i)).mpr a)
        have n2 : ¬ (-14 ≤ TS σ z i ∧ TS σ z i ≤ -10) := fun a => y ((rtk_nam (TS_ok σ z i)).mpr a)
        rw [pG_5g n1 n2 (fun a => u ((rtk_mi (TS_ok σ z i)).mpr a)) (fun a => v ((rtk_op (TS_ok σ z i)).mpr a))] at hP
        refine r_cant h (fun S' k _ => hP S' ?_)
        show RS g m σ z i (acc ++ []) o true S'
        rw [List.append_nil]; exact k
      · have et := (rtk_op (TS_ok σ z i)).mp v
        have hlt := lt hi et (by decide)
        refine r_op H h2 h (fun ho S26 k => ?_) (fun ho S26 k => ?_)
        · rw [pG_5e et ho] at hP
          have gd := fok 0 (o + 1) (i + 1) hlt
          refine ih 0 (o + 1) (by omega) (by omega) (by omega) (i + 1) acc S26 _ hlt (by omega) k (fun S29 k29 => r_need H k29 (t := -24) rtk_cl (fun e1 S34 e34 => ?_) (fun e0 t24 S32 k32 S34 e34 => ?_) (fun e0 t24 S32 k32 S34 e34 => ?_))
          · rw [if_pos e1] at hP
            refine hP S34 ?_
            rw [e34]
            exact k29.u57 o _ (fun ef => by rw [(k29.2.2.1 ef).1]; exact nI_pred o)
          · rw [if_neg (Bool.eq_false_iff.mp e0), if_pos t24] at hP
            refine hP S34 ?_
            rw [e34]
            exact k32.u57 o _ (fun ef => by rw [(k32.2.2.1 ef).1]; exact nI_pred o)
          · rw [if_neg (Bool.eq_false_iff.mp e0), if_neg t24] at hP
            refine hP S34 ?_
            rw [e34]
            exact (k32.u57 o _ (fun ef => by cases ef)).o
        · rw [pG_5f et ho] at hP
          refine r_err hz k d 0 (by omega) (by omega) _ (r_need H k (t := -24) rtk_cl (fun _ S34 e34 => ?_) (fun e0 => by cases e0) (fun e0 => by cases e0))
          refine hP S34 ?_
          show RS g m σ z i (acc ++ []) o true S34
          rw [e34, List.append_nil]
          exact (k.u57 o _ (fun ef => by cases ef)).o
      · have et := (rtk_mi (TS_ok σ z i)).mp u
        have hlt := lt hi et (by decide)
        refine r_op H h2 h (fun ho S38 k => ?_) (fun ho S38 k => ?_)
        · rw [pG_5c et ho] at hP
          have gd := fok 5 (o + 1) (i + 1) hlt
          refine ih 5 (o + 1) (by omega) (by omega) (by omega) (i + 1) acc S38 _ hlt (by omega) k (fun S41 k41 S43 e43 => ?_)
          have k43 : RS g m σ z (pG (TS σ z) d 5 (o + 1) (i + 1)).1 (acc ++ (pG (TS σ z) d 5 (o + 1) (i + 1)).2.1) o (pG (TS σ z) d 5 (o + 1) (i + 1)).2.2 S43 := by
            rw [e43]
            exact k41.u57 o _ (fun ef => by rw [(k41.2.2.1 ef).1]; exact nI_pred o)
          refine r_emit H k43 ?_ 10 0 (fun S47 k47 => hP S47 ?_)
          · have := gd_b (acc := acc) gd (by omega)
            have := e_le1 (pG (TS σ z) d 5 (o + 1) (i + 1)).2.2
            have := gd.2.1
            omega
          · show RS g m σ z (pG (TS σ z) d 5 (o + 1) (i + 1)).1 (acc ++ ((pG (TS σ z) d 5 (o + 1) (i + 1)).2.1 ++ [(10, 0)])) o (pG (TS σ z) d 5 (o + 1) (i + 1)).2.2 S47
            rw [← List.append_assoc]; exact k47
        · rw [pG_5d et ho] at hP
          refine r_err hz k d 5 (by omega) (by omega) _ (fun S43 e43 => ?_)
          have k43 : RS g m σ z i acc o true S43 := by rw [e43]; exact (k.u57 o _ (fun ef => by cases ef)).o
          exact r_emit H k43 (by omega) 10 0 (fun S47 k47 => hP S47 k47)
      · have tn := (rtk_nam (TS_ok σ z i)).mp y
        have n1 : ¬ 0 ≤ TS σ z i := fun a => q ((rtk_num (TS_ok σ z i)).mpr a)
        rw [pG_5b n1 tn] at hP
        have e1 : tld (TS σ z i) = -10 - TS σ z i := if_neg n1
        have := nm (Or.inr tn) 1
        rw [e1] at this
        exact this hP
