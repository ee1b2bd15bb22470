theorem c_in {ad : AD} {x : Nat} {σ : Sg} {N d lv o i : Nat} (H : HC σ N) (hi : i < N) (ho : o ≤ 5) {acc : List (Int32 × Int32)} {q : Int32} {S : HSt} (h : CSt ad x σ N i acc false q S) {Post : Unit → HSt → Prop} (h1 : o < 5 → ∀ S', CSt ad x σ N (i + 1) acc false q S' → wp_G3 d 0 (ad 10 10) (ad 12 0) (nI lv) (nI (o + 1)) S' Post) (h0 : ¬ o < 5 → ∀ S', CSt ad x σ N i acc true q S' → Post () S') : wp_G3 (d + 1) 2 (ad 10 10) (ad 12 0) (nI lv) (nI o) S Post := by
  have e5 : (5 : Int32) = nI 5 := rfl
  refine ⟨fun lt => c_nx H hi h (fun S3 k => ?_), fun ge => c_ref H (by omega) h (fun S' k => h0 ?_ S' k)⟩
  · rw [e5, nI_ltI (by omega) (by decide)] at lt
    rw [nI_1]
    exact h1 lt S3 k
  · intro lt
    rw [e5, nI_ltI (by omega) (by decide)] at ge
    exact ge lt
theorem CSt.t7 {ad : AD} {x : Nat} {σ : Sg} {N i : Nat} {acc : List (Int32 × Int32)} {q : Int32} {S : HSt} (h : CSt ad x σ N i acc true q S) : gI S 606 (ad 10 10) = -27 := h.2.2.2.1
theorem c_lv27 {lv : Nat} (hlv : lv < 5) {S : HSt} {Post : Int32 → HSt → Prop} (h0 : ∀ r, r ≠ nI lv → Post r S) : wp_X5_levelOf (-27) S Post := c_lvq hlv (fun e => by rw [tk27] at e; omega) (fun _ => h0)
theorem c_err3 {ad : AD} {x : Nat} {σ : Sg} {N o i : Nat} (H : HC σ N) (hi : i ≤ N) {acc : List (Int32 × Int32)} {q : Int32} : ∀ (d lv : Nat), lv ≤ 5 → (5 - lv) + 2 ≤ d → ∀ (S : HSt) (Post : Unit → HSt → Prop), CSt ad x σ N i acc true q S → (∀ S', CSt ad x σ N i acc true q S' → Post () S') → wp_G3 d 0 (ad 10 10) (ad 12 0) (nI lv) (nI o) S Post := by
  have e5 : (5 : Int32) = nI 5 := rfl
  have e2 : (2 : Int32) = nI 2 := rfl
  intro d
  induction d with
  | zero => intro lv h1 h2; omega
  | succ d ih =>
    intro lv h1 h2 S Post h hP
    have n5 : lv < 5 → nI lv < 5 := fun a => by rw [e5, nI_ltI (by omega) (by decide)]; exact a
    have p5 : nI lv < 5 → lv < 5 := fun a => by rw [e5, nI_ltI (by omega) (by decide)] at a; exact a
    have p2 : nI lv = 2 → lv = 2 := fun a => nI_inj (b := 2) (by omega) (by decide) a
    have ka : lv < 5 → ∀ S4, CSt ad x σ N i acc true q S4 → ∃ n : Nat, lp_X5_readLevel_66a (wp_G3 d) (ad 10 10) (nI lv) (ad 12 0) (nI o) (fun _ S29 => Post () S29) n (0 : Int32) S4 := fun lt S4 k => ⟨1, by
      unfold lp_X5_readLevel_66a
      rw [k.t7]
      exact ⟨fun z => absurd z (by decide), fun _ => c_lv27 lt (fun r hr => ⟨fun _ => hP S4 k, fun z => absurd z hr⟩)⟩⟩
    have kb : lv < 5 → ∀ S4, CSt ad x σ N i acc true q S4 → ∃ n : Nat, lp_X5_readLevel_66b (wp_G3 d) (ad 10 10) (nI lv) (ad 12 0) (nI o) (fun _ S29 => Post () S29) n (0 : Int32) S4 := fun lt S4 k => ⟨1, by
      unfold lp_X5_readLevel_66b
      rw [k.t7]
      exact ⟨fun z => absurd z (by decide), fun _ => c_lv27 lt (fun r hr => ⟨fun _ => hP S4 k, fun z => absurd z hr⟩)⟩⟩
    rw [wp_G3]
    rw [nI_1, h.t7]
    refine ⟨fun lt => ⟨fun n2 => ?_, fun e2 => ⟨fun _ => ?_, fun z => absurd z (by decide)⟩⟩, fun ge => ?_⟩
    · have lt' := p5 lt
      exact ih (lv + 1) (by omega) (by omega) S _ h (fun S4 k => ⟨fun _ => ka lt' S4 k, fun z => absurd z n2⟩)
    · have lt' := p5 lt
      exact ih (lv + 1) (by omega) (by omega) S _ h (fun S4 k => ⟨fun z => absurd e2 z, fun _ => kb lt' S4 k⟩)
    · have ge' : lv = 5 := by
        by_cases a : lv < 5
        · exact absurd (n5 a) ge
        · omega
      obtain ⟨d2, rfl⟩ : ∃ d2, d = d2 + 1 := ⟨d - 1, by omega⟩
      rw [wp_G3]
      rw [h.t7]
      exact ⟨fun z => absurd z (by decide), fun _ => c_within (fun ab => absurd ab (by decide)) (fun _ => ⟨bool0, fun _ => ⟨fun _ => ⟨fun _ => c_ref H hi h hP, fun z => absurd (h.t7.symm.trans z) (by decide)⟩, fun z => absurd (h.t7.symm.trans z) (by decide)⟩, fun z => absurd rfl z⟩)⟩
theorem enc_num {t : Int32} : t = encO 0 t := rfl
theorem enc_nam {t : Int32} : t = encO 1 (-10 - t) := by
  have : encO 1 (-10 - t) = -10 - (-10 - t) := by unfold encO; rw [if_neg (by decide), if_pos rfl]
  rw [this]
  rw [Int32.sub_eq_add_neg (-10) t, Int32.sub_eq_add_neg, Int32.neg_add, Int32.sub_eq_add_neg _ (-t), Int32.neg_neg, Int32.neg_neg, ← Int32.add_assoc, show (-10 : Int32) + 10 = 0 by decide, Int32.zero_add]
theorem c_G3 {ad : AD} {x : Nat} {σ : Sg} {N : Nat} (H : HC σ N) : ∀ (d lv o : Nat), lv ≤ 5 → o ≤ 5 → (6 - lv) + 6 * (6 - o) ≤ d → ∀ d', (5 - lv) + 3 + 8 * (6 - o) ≤ d' → CFn ad x σ N (pG (tT σ) d lv o) (wp_G3 d' 0 (ad 10 10) (ad 12 0) (nI lv) (nI o)) := by
  have e5 : (5 : Int32) = nI 5 := rfl
  have e2 : (2 : Int32) = nI 2 := rfl
  have hN := H.n
  intro d
  induction d with
  | zero => intro lv o h1 h2 h3; omega
  | succ d ih =>
    have fok : ∀ (lv o i : Nat), i ≤ N → gdR N i (pG (tT σ) d lv o i) := fun lv o i hi => pG_ok H.end (TS_ok σ (cN σ 5)) d lv o i hi
    intro lv o h1 h2 h3 d1 h4 i acc q S Post hi hb h hP
    obtain ⟨d', rfl⟩ : ∃ d', d1 = d' + 1 := ⟨d1 - 1, by omega⟩
    have p5 : nI lv < 5 → lv < 5 := fun a => by rw [e5, nI_ltI (by omega) (by decide)] at a; exact a
    have p2 : nI lv = 2 → lv = 2 := fun a => nI_inj (b := 2) (by omega) (by decide) a
    rw [wp_G3]
    rw [nI_1, h.2.2.2.1]
    refine ⟨fun lt => ⟨fun n2 => ?_, fun eq2 => ⟨fun n3 => ?_, fun eq3 => ?_⟩⟩, fun ge => ?_⟩
    · have lt' := p5 lt
      have n2' : lv ≠ 2 := fun z => n2 (by rw [z]; rfl)
      rw [pG_l lt' n2'] at hP
      have hr := ih (lv + 1) o (by omega) h2 (by omega) d' (by omega)
      have gd := fok (lv + 1) o i hi
      exact hr i acc q S _ hi hb h (fun S4 k4 => ⟨fun _ => ⟨161, c_lpa lt' H hr (fok (lv + 1) o) acc 160 0 _ S4 rfl gd.2.1 (gd_b gd hb) k4 (fun _ S' k => hP S' k)⟩, fun z => absurd z n2⟩)
    · have eq2' := p2 eq2
      subst eq2'
      have n3 : ¬ tT σ i = -3 := n3
      rw [pG_2n n3] at hP
      have hr := ih 3 o (by omega) h2 (by omega) d' (by omega)
      have gd := fok 3 o i hi
      exact hr i acc q S _ hi hb h (fun S4 k4 => ⟨fun z => absurd eq2 z, fun _ => ⟨2, c_lpb (lv := 2) (by decide) H hr (fok 3 o) acc 1 0 _ S4 rfl gd.2.1 (gd_b gd hb) k4 (fun _ S' k => hP S' k)⟩⟩)
    · have eq2' := p2 eq2
      subst eq2'
      have eq3 : tT σ i = -3 := eq3
      have hlt := H.lt hi eq3 (by decide)
      obtain ⟨d4, rfl⟩ : ∃ d4, d' = d4 + 1 := ⟨d' - 1, by omega⟩
      refine c_in (lv := 2) H hlt h2 h (fun ho S' k => ?_) (fun ho S' k => ?_)
      · rw [pG_2y eq3 ho] at hP
        have gd := fok 2 (o + 1) (i + 1) hlt
        refine ih 2 (o + 1) (by omega) (by omega) (by omega) d4 (by omega) (i + 1) acc q S' _ hlt (by omega) k (fun S6 k6 => c_ad H k6 ?_ (a := 4) (b := 0) (by decide) (fun S9 k9 => hP S9 ?_))
        · have := gd_b (acc := acc) gd (by omega)
          have := gd.2.2.1
          have := gd.2.1
          have := e_le1 (pG (tT σ) d 2 (o + 1) (i + 1)).2.2
          rw [List.length_append]
          omega
        · show CSt ad x σ N (pG (tT σ) d 2 (o + 1) (i + 1)).1 (acc ++ ((pG (tT σ) d 2 (o + 1) (i + 1)).2.1 ++ [(4, 0)])) (pG (tT σ) d 2 (o + 1) (i + 1)).2.2 q S9
          rw [← List.append_assoc]; exact k9
      · rw [pG_2z eq3 ho] at hP
        exact c_ad H k (by omega) (a := 4) (b := 0) (by decide) (fun S9 k9 => hP S9 k9)
    · have lv5 : lv = 5 := by
        by_cases a : lv < 5
        · exact absurd (by rw [e5, nI_ltI (by omega) (by decide)]; exact a) ge
        · omega
      subst lv5
      obtain ⟨d2, rfl⟩ : ∃ d2, d' = d2 + 1 := ⟨d' - 1, by omega⟩
      have et : (if false = true then (-27 : Int32) else tT σ i) = tT σ i := rfl
      rw [wp_G3]
      have t6 : gI S 606 (ad 10 10) = tT σ i := h.2.2.2.1
      rw [t6]
      have nm : isV (tT σ i) → ∀ a b, tT σ i = encO a b → (∀ S', CSt ad x σ N (i + 1) (acc ++ [(a, b)]) false q S' → Post () S') → wp_X10_add (ad 12 0) (tT σ i) S (fun _ S3 => wp_X5_stepTo (ad 10 10) (gI S3 605 (ad 10 10) + 1) S3 (fun _ S6 => Post () S6)) := by
        intro v a b ev hQ
        have hlt := H.lt hi rfl (fun z => by rw [z] at v; revert v; unfold isV; decide)
        exact c_ad H h (by omega) ev (fun S3 k3 => c_nx H hlt k3 (fun S6 k6 => hQ S6 k6))
      refine ⟨fun t0 => ?_, fun n0 => c_within (fun ab => ⟨bool1, fun z => absurd z (by decide), fun _ => ?_⟩) (fun nab => ⟨bool0, fun _ => ⟨fun n7 => ⟨fun n23 => ?_, fun t23 => ?_⟩, fun t7 => ?_⟩, fun z => absurd rfl z⟩)⟩
      · rw [pG_5a t0] at hP
        exact nm (Or.inl t0) 0 _ enc_num hP
      · rw [pG_5b n0 ab] at hP
        rw [t6]
        exact nm (Or.inr ab) 1 _ enc_nam hP
      · rw [t6] at n7 n23
        rw [pG_5g n0 nab n7 n23] at hP
        refine c_ref H hi h (fun S' k => hP S' ?_)
        show CSt ad x σ N i (acc ++ []) true q S'
        rw [List.append_nil]; exact k
      · rw [t6] at t23
        have hlt := H.lt hi t23 (by decide)
        obtain ⟨d4, rfl⟩ : ∃ d4, d2 = d4 + 1 := ⟨d2 - 1, by omega⟩
        refine c_in (lv := 0) H hlt h2 h (fun ho S' k => ?_) (fun ho S' k => ?_)
        · rw [pG_5e t23 ho] at hP
          have gd := fok 0 (o + 1) (i + 1) hlt
          refine ih 0 (o + 1) (by omega) (by omega) (by omega) d4 (by omega) (i + 1) acc q S' _ hlt (by omega) k (fun S6 k6 => c_exp H gd.2.1 k6 (t := -24) (by decide) (by decide) (fun e0 t24 S9 k9 => ?_) (fun eo S9 k9 => ?_))
          · rw [if_neg (Bool.eq_false_iff.mp e0), if_pos t24] at hP
            exact hP S9 k9
          · by_cases e1 : (pG (tT σ) d 0 (o + 1) (i + 1)).2.2 = true
            · rw [if_pos e1] at hP
              refine hP S9 ?_
              rw [e1]; exact k9
            · rw [if_neg e1, if_neg (eo.resolve_left e1)] at hP
              exact hP S9 k9
        · rw [pG_5f t23 ho] at hP
          refine c_exp H hi k (t := -24) (by decide) (by decide) (fun e0 => by cases e0) (fun _ S9 k9 => hP S9 ?_)
          show CSt ad x σ N i (acc ++ []) true q S9
          rw [List.append_nil]; exact k9
      · rw [t6] at t7
        have hlt := H.lt hi t7 (by decide)
        obtain ⟨d4, rfl⟩ : ∃ d4, d2 = d4 + 1 := ⟨d2 - 1, by omega⟩
        refine c_in (lv := 5) H hlt h2 h (fun ho S' k => ?_) (fun ho S' k => ?_)
        · rw [pG_5c t7 ho] at hP
          have gd := fok 5 (o + 1) (i + 1) hlt
          refine ih 5 (o + 1) (by omega) (by omega) (by omega) d4 (by omega) (i + 1) acc q S' _ hlt (by omega) k (fun S6 k6 => c_ad H k6 ?_ (a := 10) (b := 0) (by decide) (fun S9 k9 => hP S9 ?_))
          · have := gd.2.2.1
            have := gd.2.1
            have := e_le1 (pG (tT σ) d 5 (o + 1) (i + 1)).2.2
            rw [List.length_append]
            omega
          · show CSt ad x σ N (pG (tT σ) d 5 (o + 1) (i + 1)).1 (acc ++ ((pG (tT σ) d 5 (o + 1) (i + 1)).2.1 ++ [(10, 0)])) (pG (tT σ) d 5 (o + 1) (i + 1)).2.2 q S9
            rw [← List.append_assoc]; exact k9
        · rw [pG_5d t7 ho] at hP
          exact c_ad H k (by omega) (a := 10) (b := 0) (by decide) (fun S9 k9 => hP S9 k9)
