/-! THE TWO OFFICES SIDE BY SIDE: one call on both -/
def Sim (a1 a2 : Nat) (S1 S2 : HSt) : Prop := ∃ (ad : AD) (g : Nat → Nat) (σ : Sg), CR ad a1 S1 σ ∧ MR g a2 S2 σ ∧ Inv σ
def Bo {α : Type} (l : Launch) (a1 a2 : Nat) (S1 S2 : HSt) (val : α → Option Value) (ret : Option FieldType) (y1 : MethodName) (b1 : ByteArray) (n1 lev1 mc1 ms1 : Nat) (y2 : MethodName) (b2 : ByteArray) (n2 lev2 mc2 ms2 : Nat) (As : List Value) : Prop := ∃ PC PR : α → HSt → Prop, (∀ G : XG, Mx l y1 b1 n1 ret lev1 mc1 ms1 G val (.ref a1 :: As) S1 PC) ∧ (∀ G : XG, Mx l y2 b2 n2 ret lev2 mc2 ms2 G val (.ref a2 :: As) S2 PR) ∧ ∀ r1 S1' r2 S2', PC r1 S1' → PR r2 S2' → r1 = r2 ∧ Sim a1 a2 S1' S2'
theorem Sim.k1 {a1 a2 : Nat} {S1 S2 : HSt} (h : Sim a1 a2 S1 S2) : gK S1 a1 = 12 := by
  obtain ⟨ad, g, σ, h1, -, -⟩ := h
  exact h1.1.2.1
theorem Sim.k2 {a1 a2 : Nat} {S1 S2 : HSt} (h : Sim a1 a2 S1 S2) : gK S2 a2 = 13 := by
  obtain ⟨ad, g, σ, -, h2, -⟩ := h
  exact h2.1.1
variable {a1 a2 : Nat} {S1 S2 : HSt}
theorem b_port (l : Launch) (hs : Sim a1 a2 S1 S2) (x1 : Int32) (x2 : Int32) : Bo l a1 a2 S1 S2 vI (some (.int)) yX11_port cX11_port 3 2 2 12 yX12_port cX12_port 3 2 0 0 [.int x1, .int x2] := by
  obtain ⟨ad, g, σ, hC, hM, hi⟩ := hs
  exact ⟨_, _, fun G => m_X11_port l G a1 x1 x2 S1 _ hC.1.2.1 (c_port hC hi x1 x2), fun G => m_X12_port l G g a2 x1 x2 S2 _ hM.1 (r_port hM hi x1 x2), fun r1 S1' r2 S2' p q => by
    obtain ⟨⟨e1, ad', h1⟩, -⟩ := p
    obtain ⟨⟨e2, h2⟩, -⟩ := q
    exact ⟨e1.trans e2.symm, ad', g, _, h1, h2, v_port hi x1 x2⟩⟩
theorem b_way (l : Launch) (hs : Sim a1 a2 S1 S2) (x1 : Int32) (x2 : Int32) (x3 : Int32) : Bo l a1 a2 S1 S2 vI (some (.int)) yX11_way cX11_way 7 2 0 0 yX12_way cX12_way 5 3 0 0 [.int x1, .int x2, .int x3] := by
  obtain ⟨ad, g, σ, hC, hM, hi⟩ := hs
  exact ⟨_, _, fun G => m_X11_way l G a1 x1 x2 x3 S1 _ hC.1.2.1 (c_way hC hi x1 x2 x3), fun G => m_X12_way l G g a2 x1 x2 x3 S2 _ hM.1 (r_way hM hi x1 x2 x3), fun r1 S1' r2 S2' p q => by
    obtain ⟨⟨e1, ad', h1⟩, -⟩ := p
    obtain ⟨⟨e2, h2⟩, -⟩ := q
    exact ⟨e1.trans e2.symm, ad', g, _, h1, h2, v_way hi x1 x2 x3⟩⟩
theorem b_price (l : Launch) (hs : Sim a1 a2 S1 S2) (x1 : Int32) (x2 : Int32) : Bo l a1 a2 S1 S2 vI (some (.int)) yX11_price cX11_price 5 2 0 0 yX12_price cX12_price 4 3 0 0 [.int x1, .int x2] := by
  obtain ⟨ad, g, σ, hC, hM, hi⟩ := hs
  exact ⟨_, _, fun G => m_X11_price l G a1 x1 x2 S1 _ hC.1.2.1 (c_price hC hi x1 x2), fun G => m_X12_price l G g a2 x1 x2 S2 _ hM.1 (r_price hM hi x1 x2), fun r1 S1' r2 S2' p q => by
    obtain ⟨⟨e1, ad', h1⟩, -⟩ := p
    obtain ⟨⟨e2, h2⟩, -⟩ := q
    exact ⟨e1.trans e2.symm, ad', g, _, h1, h2, v_price hi x1 x2⟩⟩
theorem b_ship (l : Launch) (hs : Sim a1 a2 S1 S2) (x1 : Int32) (x2 : Int32) (x3 : Int32) (x4 : Int32) : Bo l a1 a2 S1 S2 vI (some (.int)) yX11_ship cX11_ship 6 2 2 2009 yX12_ship cX12_ship 5 3 0 0 [.int x1, .int x2, .int x3, .int x4] := by
  obtain ⟨ad, g, σ, hC, hM, hi⟩ := hs
  exact ⟨_, _, fun G => m_X11_ship l G a1 x1 x2 x3 x4 S1 _ hC.1.2.1 (c_ship hC hi x1 x2 x3 x4), fun G => m_X12_ship l G g a2 x1 x2 x3 x4 S2 _ hM.1 (r_ship hM hi x1 x2 x3 x4), fun r1 S1' r2 S2' p q => by
    obtain ⟨⟨e1, ad', h1⟩, -⟩ := p
    obtain ⟨⟨e2, h2⟩, -⟩ := q
    exact ⟨e1.trans e2.symm, ad', g, _, h1, h2, v_ship hi x1 x2 x3 x4⟩⟩
theorem b_speed (l : Launch) (hs : Sim a1 a2 S1 S2) (x1 : Int32) (x2 : Int32) : Bo l a1 a2 S1 S2 vI (some (.int)) yX11_speed cX11_speed 5 2 0 0 yX12_speed cX12_speed 4 3 0 0 [.int x1, .int x2] := by
  obtain ⟨ad, g, σ, hC, hM, hi⟩ := hs
  exact ⟨_, _, fun G => m_X11_speed l G a1 x1 x2 S1 _ hC.1.2.1 (c_speed hC hi x1 x2), fun G => m_X12_speed l G g a2 x1 x2 S2 _ hM.1 (r_speed hM hi x1 x2), fun r1 S1' r2 S2' p q => by
    obtain ⟨⟨e1, ad', h1⟩, -⟩ := p
    obtain ⟨⟨e2, h2⟩, -⟩ := q
    exact ⟨e1.trans e2.symm, ad', g, _, h1, h2, v_speed hi x1 x2⟩⟩
theorem b_free (l : Launch) (hs : Sim a1 a2 S1 S2) (x1 : Int32) (x2 : Int32) (x3 : Int32) : Bo l a1 a2 S1 S2 vI (some (.int)) yX11_free cX11_free 6 3 0 0 yX12_free cX12_free 4 3 0 0 [.int x1, .int x2, .int x3] := by
  obtain ⟨ad, g, σ, hC, hM, hi⟩ := hs
  exact ⟨_, _, fun G => m_X11_free l G a1 x1 x2 x3 S1 _ hC.1.2.1 (c_free hC hi x1 x2 x3), fun G => m_X12_free l G g a2 x1 x2 x3 S2 _ hM.1 (r_free hM hi x1 x2 x3), fun r1 S1' r2 S2' p q => by
    obtain ⟨⟨e1, ad', h1⟩, -⟩ := p
    obtain ⟨⟨e2, h2⟩, -⟩ := q
    exact ⟨e1.trans e2.symm, ad', g, _, h1, h2, v_free hi x1 x2 x3⟩⟩
theorem b_shipTold (l : Launch) (hs : Sim a1 a2 S1 S2) (x1 : Int32) (x2 : Int32) : Bo l a1 a2 S1 S2 vI (some (.int)) yX11_shipTold cX11_shipTold 4 2 0 0 yX12_shipTold cX12_shipTold 3 3 0 0 [.int x1, .int x2] := by
  obtain ⟨ad, g, σ, hC, hM, hi⟩ := hs
  exact ⟨_, _, fun G => m_X11_shipTold l G a1 x1 x2 S1 _ hC.1.2.1 (c_shipTold hC hi x1 x2), fun G => m_X12_shipTold l G g a2 x1 x2 S2 _ hM.1 (r_shipTold hM hi x1 x2), fun r1 S1' r2 S2' p q => by
    obtain ⟨⟨e1, rfl⟩, -⟩ := p
    obtain ⟨⟨e2, rfl⟩, -⟩ := q
    exact ⟨e1.trans e2.symm, ad, g, _, hC, hM, hi⟩⟩
theorem b_offer (l : Launch) (hs : Sim a1 a2 S1 S2) (x1 : Int32) (x2 : Int32) (x3 : Int32) (x4 : Int32) (x5 : Int32) (x6 : Int32) : Bo l a1 a2 S1 S2 vI (some (.int)) yX11_offer cX11_offer 9 3 1 7 yX12_offer cX12_offer 8 3 0 0 [.int x1, .int x2, .int x3, .int x4, .int x5, .int x6] := by
  obtain ⟨ad, g, σ, hC, hM, hi⟩ := hs
  exact ⟨_, _, fun G => m_X11_offer l G a1 x1 x2 x3 x4 x5 x6 S1 _ hC.1.2.1 (c_offer hC hi x1 x2 x3 x4 x5 x6), fun G => m_X12_offer l G g a2 x1 x2 x3 x4 x5 x6 S2 _ hM.1 (r_offer hM hi x1 x2 x3 x4 x5 x6), fun r1 S1' r2 S2' p q => by
    obtain ⟨⟨e1, ad', h1⟩, -⟩ := p
    obtain ⟨⟨e2, h2⟩, -⟩ := q
    exact ⟨e1.trans e2.symm, ad', g, _, h1, h2, v_offer hi x1 x2 x3 x4 x5 x6⟩⟩
theorem b_why (l : Launch) (hs : Sim a1 a2 S1 S2) (x1 : Int32) (x2 : Int32) : Bo l a1 a2 S1 S2 vI (some (.int)) yX11_why cX11_why 5 5 0 0 yX12_why cX12_why 3 6 0 0 [.int x1, .int x2] := by
  obtain ⟨ad, g, σ, hC, hM, hi⟩ := hs
  exact ⟨_, _, fun G => m_X11_why l G a1 x1 x2 S1 _ hC.1.2.1 (c_whyF hC hi x1 x2), fun G => m_X12_why l G g a2 x1 x2 S2 _ hM.1 (r_why hM hi x1 x2), fun r1 S1' r2 S2' p q => by
    obtain ⟨⟨e1, ad', h1⟩, -⟩ := p
    obtain ⟨⟨e2, rfl⟩, -⟩ := q
    exact ⟨e1.trans e2.symm, ad', g, _, h1, hM, hi⟩⟩
theorem b_estimate (l : Launch) (hs : Sim a1 a2 S1 S2) (x1 : Int32) (x2 : Int32) (x3 : Int32) : Bo l a1 a2 S1 S2 vL (some (.long)) yX11_estimate cX11_estimate 4 6 0 0 yX12_estimate cX12_estimate 6 6 0 0 [.int x1, .int x2, .int x3] := by
  obtain ⟨ad, g, σ, hC, hM, hi⟩ := hs
  exact ⟨_, _, fun G => m_X11_estimate l G a1 x1 x2 x3 S1 _ hC.1.2.1 (c_estimate hC hi x1 x2 x3), fun G => m_X12_estimate l G g a2 x1 x2 x3 S2 _ hM.1 (r_estimate hM hi x1 x2 x3), fun r1 S1' r2 S2' p q => by
    obtain ⟨⟨e1, ad', h1⟩, -⟩ := p
    obtain ⟨⟨e2, rfl⟩, -⟩ := q
    exact ⟨e1.trans e2.symm, ad', g, _, h1, hM, hi⟩⟩
theorem b_best (l : Launch) (hs : Sim a1 a2 S1 S2) (x1 : Int32) (x2 : Int32) (x3 : Int32) : Bo l a1 a2 S1 S2 vL (some (.long)) yX11_best cX11_best 5 12 0 0 yX12_best cX12_best 4 13 0 0 [.int x1, .int x2, .int x3] := by
  obtain ⟨ad, g, σ, hC, hM, hi⟩ := hs
  exact ⟨_, _, fun G => m_X11_best l G a1 x1 x2 x3 S1 _ hC.1.2.1 (c_best hC hi x1 x2 x3), fun G => m_X12_best l G g a2 x1 x2 x3 S2 _ hM.1 (r_best hM hi x1 x2 x3), fun r1 S1' r2 S2' p q => by
    obtain ⟨⟨e1, ad', h1⟩, -⟩ := p
    obtain ⟨⟨e2, h2⟩, -⟩ := q
    exact ⟨e1.trans e2.symm, ad', g, _, h1, h2, hi⟩⟩
theorem b_chain (l : Launch) (hs : Sim a1 a2 S1 S2) (x1 : Int32) (x2 : Int32) (x3 : Int32) : Bo l a1 a2 S1 S2 vI (some (.int)) yX11_chain cX11_chain 5 12 0 0 yX12_chain cX12_chain 4 13 0 0 [.int x1, .int x2, .int x3] := by
  obtain ⟨ad, g, σ, hC, hM, hi⟩ := hs
  exact ⟨_, _, fun G => m_X11_chain l G a1 x1 x2 x3 S1 _ hC.1.2.1 (c_chain hC hi x1 x2 x3), fun G => m_X12_chain l G g a2 x1 x2 x3 S2 _ hM.1 (r_chain hM hi x1 x2 x3), fun r1 S1' r2 S2' p q => by
    obtain ⟨⟨e1, ad', h1⟩, -⟩ := p
    obtain ⟨⟨e2, h2⟩, -⟩ := q
    exact ⟨e1.trans e2.symm, ad', g, _, h1, h2, hi⟩⟩
theorem b_fix (l : Launch) (hs : Sim a1 a2 S1 S2) (x1 : Int32) (x2 : Int32) : Bo l a1 a2 S1 S2 vI (some (.int)) yX11_fix cX11_fix 5 5 0 0 yX12_fix cX12_fix 4 6 0 0 [.int x1, .int x2] := by
  obtain ⟨ad, g, σ, hC, hM, hi⟩ := hs
  exact ⟨_, _, fun G => m_X11_fix l G a1 x1 x2 S1 _ hC.1.2.1 (c_fix hC hi x1 x2), fun G => m_X12_fix l G g a2 x1 x2 S2 _ hM.1 (r_fix hM hi x1 x2), fun r1 S1' r2 S2' p q => by
    obtain ⟨⟨e1, ad', h1⟩, -⟩ := p
    obtain ⟨⟨e2, h2⟩, -⟩ := q
    exact ⟨e1.trans e2.symm, ad', g, _, h1, h2, v_fix hi x1 x2⟩⟩
theorem b_go (l : Launch) (hs : Sim a1 a2 S1 S2) (x1 : Int32) : Bo l a1 a2 S1 S2 vI (some (.int)) yX11_go cX11_go 3 2 0 0 yX12_go cX12_go 2 3 0 0 [.int x1] := by
  obtain ⟨ad, g, σ, hC, hM, hi⟩ := hs
  exact ⟨_, _, fun G => m_X11_go l G a1 x1 S1 _ hC.1.2.1 (c_go hC hi x1), fun G => m_X12_go l G g a2 x1 S2 _ hM.1 (r_go hM hi x1), fun r1 S1' r2 S2' p q => by
    obtain ⟨⟨e1, ad', h1⟩, -⟩ := p
    obtain ⟨⟨e2, h2⟩, -⟩ := q
    exact ⟨e1.trans e2.symm, ad', g, _, h1, h2, v_go hi x1⟩⟩
theorem b_clear (l : Launch) (hs : Sim a1 a2 S1 S2)  : Bo l a1 a2 S1 S2 vI (some (.int)) yX11_clear cX11_clear 2 1 0 0 yX12_clear cX12_clear 2 1 0 0 [] := by
  obtain ⟨ad, g, σ, hC, hM, hi⟩ := hs
  exact ⟨_, _, fun G => m_X11_clear l G a1 S1 _ hC.1.2.1 (c_clear hC), fun G => m_X12_clear l G g a2 S2 _ hM.1 (r_clear hM), fun r1 S1' r2 S2' p q => by
    obtain ⟨⟨e1, ad', h1⟩, -⟩ := p
    obtain ⟨⟨e2, h2⟩, -⟩ := q
    exact ⟨e1.trans e2.symm, ad', g, _, h1, h2, v_clear hi⟩⟩
theorem b_bunker (l : Launch) (hs : Sim a1 a2 S1 S2) (x1 : Int32) : Bo l a1 a2 S1 S2 vI (some (.int)) yX11_bunker cX11_bunker 3 5 0 0 yX12_bunker cX12_bunker 2 6 0 0 [.int x1] := by
  obtain ⟨ad, g, σ, hC, hM, hi⟩ := hs
  exact ⟨_, _, fun G => m_X11_bunker l G a1 x1 S1 _ hC.1.2.1 (c_bunker hC hi x1), fun G => m_X12_bunker l G g a2 x1 S2 _ hM.1 (r_bunker hM hi x1), fun r1 S1' r2 S2' p q => by
    obtain ⟨⟨e1, ad', h1⟩, -⟩ := p
    obtain ⟨⟨e2, h2⟩, -⟩ := q
    exact ⟨e1.trans e2.symm, ad', g, _, h1, h2, hi⟩⟩
theorem b_bought (l : Launch) (hs : Sim a1 a2 S1 S2) (x1 : Int32) (x2 : Int32) : Bo l a1 a2 S1 S2 vI (some (.int)) yX11_bought cX11_bought 4 5 0 0 yX12_bought cX12_bought 7 6 0 0 [.int x1, .int x2] := by
  obtain ⟨ad, g, σ, hC, hM, hi⟩ := hs
  exact ⟨_, _, fun G => m_X11_bought l G a1 x1 x2 S1 _ hC.1.2.1 (c_bought hC hi x1 x2), fun G => m_X12_bought l G g a2 x1 x2 S2 _ hM.1 (r_bought hM hi x1 x2), fun r1 S1' r2 S2' p q => by
    obtain ⟨⟨e1, ad', h1⟩, -⟩ := p
    obtain ⟨⟨e2, h2⟩, -⟩ := q
    exact ⟨e1.trans e2.symm, ad', g, _, h1, h2, hi⟩⟩
theorem b_log (l : Launch) (hs : Sim a1 a2 S1 S2) (x1 : Int32) (x2 : Int32) (x3 : Int32) : Bo l a1 a2 S1 S2 vI (some (.int)) yX11_log cX11_log 6 3 0 0 yX12_log cX12_log 5 3 0 0 [.int x1, .int x2, .int x3] := by
  obtain ⟨ad, g, σ, hC, hM, hi⟩ := hs
  exact ⟨_, _, fun G => m_X11_log l G a1 x1 x2 x3 S1 _ hC.1.2.1 (c_log hC hi x1 x2 x3), fun G => m_X12_log l G g a2 x1 x2 x3 S2 _ hM.1 (r_log hM hi x1 x2 x3), fun r1 S1' r2 S2' p q => by
    obtain ⟨⟨e1, ad', h1⟩, -⟩ := p
    obtain ⟨⟨e2, h2⟩, -⟩ := q
    exact ⟨e1.trans e2.symm, ad', g, _, h1, h2, v_log hi x1 x2 x3⟩⟩
theorem b_lay (l : Launch) (hs : Sim a1 a2 S1 S2) (x1 : Int32) (x2 : Int32) (x3 : Int32) (x4 : Int32) (x5 : Int32) : Bo l a1 a2 S1 S2 vI (some (.int)) yX11_lay cX11_lay 10 4 0 0 yX12_lay cX12_lay 9 3 0 0 [.int x1, .int x2, .int x3, .int x4, .int x5] := by
  obtain ⟨ad, g, σ, hC, hM, hi⟩ := hs
  exact ⟨_, _, fun G => m_X11_lay l G a1 x1 x2 x3 x4 x5 S1 _ hC.1.2.1 (c_lay hC hi x1 x2 x3 x4 x5), fun G => m_X12_lay l G g a2 x1 x2 x3 x4 x5 S2 _ hM.1 (r_lay hM hi x1 x2 x3 x4 x5), fun r1 S1' r2 S2' p q => by
    obtain ⟨⟨e1, ad', h1⟩, -⟩ := p
    obtain ⟨⟨e2, h2⟩, -⟩ := q
    exact ⟨e1.trans e2.symm, ad', g, _, h1, h2, v_lay hi x1 x2 x3 x4 x5⟩⟩
theorem b_right (l : Launch) (hs : Sim a1 a2 S1 S2) (x1 : Int32) (x2 : Int32) (x3 : Int32) : Bo l a1 a2 S1 S2 vI (some (.int)) yX11_right cX11_right 6 3 0 0 yX12_right cX12_right 5 3 0 0 [.int x1, .int x2, .int x3] := by
  obtain ⟨ad, g, σ, hC, hM, hi⟩ := hs
  exact ⟨_, _, fun G => m_X11_right l G a1 x1 x2 x3 S1 _ hC.1.2.1 (c_right hC hi x1 x2 x3), fun G => m_X12_right l G g a2 x1 x2 x3 S2 _ hM.1 (r_right hM hi x1 x2 x3), fun r1 S1' r2 S2' p q => by
    obtain ⟨⟨e1, ad', h1⟩, -⟩ := p
    obtain ⟨⟨e2, h2⟩, -⟩ := q
    exact ⟨e1.trans e2.symm, ad', g, _, h1, h2, v_right hi x1 x2 x3⟩⟩
theorem b_sort (l : Launch) (hs : Sim a1 a2 S1 S2) (x1 : Int32) (x2 : Int32) : Bo l a1 a2 S1 S2 vI (some (.int)) yX11_sort cX11_sort 4 2 0 0 yX12_sort cX12_sort 3 3 0 0 [.int x1, .int x2] := by
  obtain ⟨ad, g, σ, hC, hM, hi⟩ := hs
  exact ⟨_, _, fun G => m_X11_sort l G a1 x1 x2 S1 _ hC.1.2.1 (c_sort hC hi x1 x2), fun G => m_X12_sort l G g a2 x1 x2 S2 _ hM.1 (r_sort hM hi x1 x2), fun r1 S1' r2 S2' p q => by
    obtain ⟨⟨e1, rfl⟩, -⟩ := p
    obtain ⟨⟨e2, rfl⟩, -⟩ := q
    exact ⟨e1.trans e2.symm, ad, g, _, hC, hM, hi⟩⟩
theorem b_feed (l : Launch) (hs : Sim a1 a2 S1 S2) (x1 : Int32) (x2 : Int64) : Bo l a1 a2 S1 S2 vI (some (.int)) yX11_feed cX11_feed 5 2 0 0 yX12_feed cX12_feed 5 2 0 0 [.int x1, .long x2] := by
  obtain ⟨ad, g, σ, hC, hM, hi⟩ := hs
  exact ⟨_, _, fun G => m_X11_feed l G a1 x1 x2 S1 _ hC.1.2.1 (c_feed hC hi x1 x2), fun G => m_X12_feed l G g a2 x1 x2 S2 _ hM.1 (r_feed hM hi x1 x2), fun r1 S1' r2 S2' p q => by
    obtain ⟨⟨e1, ad', h1⟩, -⟩ := p
    obtain ⟨⟨e2, h2⟩, -⟩ := q
    exact ⟨e1.trans e2.symm, ad', g, _, h1, h2, v_feed hi x1 x2⟩⟩
theorem b_text (l : Launch) (hs : Sim a1 a2 S1 S2)  : Bo l a1 a2 S1 S2 vI (some (.int)) yX11_text cX11_text 2 86 2 164 yX12_text cX12_text 1 87 0 0 [] := by
  obtain ⟨ad, g, σ, hC, hM, hi⟩ := hs
  have h3 := hi.1.2.2.2.1.2
  have h5 := hi.1.2.2.2.2.2.1
  have i8 := hi.2.2.2.2.2.2.2.2.1
  have i13 := hi.2.2.2.2.2.2.2.2.2.2.2.2
  have i12 := hi.2.2.2.2.2.2.2.2.2.2.2.1
  exact ⟨_, _, fun G => m_X11_text l G a1 S1 _ hC.1.2.1 (c_text hC h3 h5 (fun i h => (i8 i h).2.2.2.2.2.1) (fun i h => (bet_nI (b := 160) (i13 i h).2.2.1).2)), fun G => m_X12_text l G g a2 S2 _ hM.1 (r_text hM h3 h5 i12), fun r1 S1' r2 S2' p q => by
    obtain ⟨⟨p1, p2, p3⟩, -⟩ := p
    obtain ⟨q, -⟩ := q
    rcases q with ⟨q1, q2, q3⟩ | ⟨q1, q2, q3, q4⟩ | ⟨q1, q2, q3, op, vl, q4, q5⟩
    · obtain ⟨e, ad', h'⟩ := p1 q1
      exact ⟨e.trans q2.symm, ad', g, σ, h', q3, hi⟩
    · obtain ⟨e, ad', h'⟩ := p2 q1 q2
      exact ⟨e.trans q3.symm, ad', g, _, h', q4, v_text0 hi⟩
    · obtain ⟨e, h'⟩ := p3 q1 q2
      obtain ⟨ad', h'⟩ := h' op vl q4
      obtain ⟨i0, i1, i2, i3, i4, i5, i6, i7, i8, i9, i10, i11, i12⟩ := hi
      exact ⟨e.trans q3.symm, ad', g, _, h', q5, v_st q1 i0.2.2.2.2.2.1 q2 q4 ⟨i0.1, i0.2.1, i0.2.2.1, i0.2.2.2.2.1, i0.2.2.2.2.2.2⟩ i1 i2 i3 i4 i5 i6 i7 i8 i9 i10 i12⟩⟩
theorem b_charter (l : Launch) (hs : Sim a1 a2 S1 S2) (x1 : Int32) (x2 : Int32) (x3 : Int32) (x4 : Int32) (x5 : Int32) (x6 : Int64) : Bo l a1 a2 S1 S2 vI (some (.int)) yX11_charter cX11_charter 10 3 1 9 yX12_charter cX12_charter 10 3 0 0 [.int x1, .int x2, .int x3, .int x4, .int x5, .long x6] := by
  obtain ⟨ad, g, σ, hC, hM, hi⟩ := hs
  exact ⟨_, _, fun G => m_X11_charter l G a1 x1 x2 x3 x4 x5 x6 S1 _ hC.1.2.1 (c_charter hC hi x1 x2 x3 x4 x5 x6), fun G => m_X12_charter l G g a2 x1 x2 x3 x4 x5 x6 S2 _ hM.1 (r_charter hM hi x1 x2 x3 x4 x5 x6), fun r1 S1' r2 S2' p q => by
    obtain ⟨⟨e1, ad', h1⟩, -⟩ := p
    obtain ⟨⟨e2, h2⟩, -⟩ := q
    exact ⟨e1.trans e2.symm, ad', g, _, h1, h2, v_charter hi x1 x2 x3 x4 x5 x6⟩⟩
theorem b_lift (l : Launch) (hs : Sim a1 a2 S1 S2) (x1 : Int32) (x2 : Int32) : Bo l a1 a2 S1 S2 vI (some (.int)) yX11_lift cX11_lift 4 2 0 0 yX12_lift cX12_lift 3 3 0 0 [.int x1, .int x2] := by
  obtain ⟨ad, g, σ, hC, hM, hi⟩ := hs
  exact ⟨_, _, fun G => m_X11_lift l G a1 x1 x2 S1 _ hC.1.2.1 (c_lift hC hi x1 x2), fun G => m_X12_lift l G g a2 x1 x2 S2 _ hM.1 (r_lift hM hi x1 x2), fun r1 S1' r2 S2' p q => by
    obtain ⟨⟨e1, ad', h1⟩, -⟩ := p
    obtain ⟨⟨e2, h2⟩, -⟩ := q
    exact ⟨e1.trans e2.symm, ad', g, _, h1, h2, v_lift hi x1 x2⟩⟩
theorem b_charterTold (l : Launch) (hs : Sim a1 a2 S1 S2) (x1 : Int32) (x2 : Int32) : Bo l a1 a2 S1 S2 vI (some (.int)) yX11_charterTold cX11_charterTold 4 8 0 0 yX12_charterTold cX12_charterTold 4 4 0 0 [.int x1, .int x2] := by
  obtain ⟨ad, g, σ, hC, hM, hi⟩ := hs
  exact ⟨_, _, fun G => m_X11_charterTold l G a1 x1 x2 S1 _ hC.1.2.1 (c_told hC hi x1 x2), fun G => m_X12_charterTold l G g a2 x1 x2 S2 _ hM.1 (r_told hM hi x1 x2), fun r1 S1' r2 S2' p q => by
    obtain ⟨⟨e1, ad', h1⟩, -⟩ := p
    obtain ⟨⟨e2, h2⟩, -⟩ := q
    exact ⟨e1.trans e2.symm, ad', g, _, h1, h2, hi⟩⟩
theorem b_pays (l : Launch) (hs : Sim a1 a2 S1 S2) (x1 : Int32) : Bo l a1 a2 S1 S2 vL (some (.long)) yX11_pays cX11_pays 3 7 0 0 yX12_pays cX12_pays 5 4 0 0 [.int x1] := by
  obtain ⟨ad, g, σ, hC, hM, hi⟩ := hs
  exact ⟨_, _, fun G => m_X11_pays l G a1 x1 S1 _ hC.1.2.1 (c_pays hC hi x1), fun G => m_X12_pays l G g a2 x1 S2 _ hM.1 (r_pays hM hi x1), fun r1 S1' r2 S2' p q => by
    obtain ⟨⟨e1, ad', h1⟩, -⟩ := p
    obtain ⟨⟨e2, h2⟩, -⟩ := q
    exact ⟨e1.trans e2.symm, ad', g, _, h1, h2, hi⟩⟩
theorem b_counts (l : Launch) (hs : Sim a1 a2 S1 S2) (x1 : Int32) (x2 : Int32) : Bo l a1 a2 S1 S2 vI (some (.int)) yX11_counts cX11_counts 4 7 0 0 yX12_counts cX12_counts 3 4 0 0 [.int x1, .int x2] := by
  obtain ⟨ad, g, σ, hC, hM, hi⟩ := hs
  exact ⟨_, _, fun G => m_X11_counts l G a1 x1 x2 S1 _ hC.1.2.1 (c_counts hC hi x1 x2), fun G => m_X12_counts l G g a2 x1 x2 S2 _ hM.1 (r_counts hM hi x1 x2), fun r1 S1' r2 S2' p q => by
    obtain ⟨⟨e1, ad', h1⟩, -⟩ := p
    obtain ⟨⟨e2, h2⟩, -⟩ := q
    exact ⟨e1.trans e2.symm, ad', g, _, h1, h2, hi⟩⟩
theorem b_account (l : Launch) (hs : Sim a1 a2 S1 S2) (x1 : Int32) (x2 : Int32) : Bo l a1 a2 S1 S2 vI (some (.int)) yX11_account cX11_account 6 3 0 0 yX12_account cX12_account 3 4 0 0 [.int x1, .int x2] := by
  obtain ⟨ad, g, σ, hC, hM, hi⟩ := hs
  exact ⟨_, _, fun G => m_X11_account l G a1 x1 x2 S1 _ hC.1.2.1 (c_account hC hi x1 x2), fun G => m_X12_account l G g a2 x1 x2 S2 _ hM.1 (r_account hM hi x1 x2), fun r1 S1' r2 S2' p q => by
    obtain ⟨⟨e1, rfl⟩, -⟩ := p
    obtain ⟨⟨e2, rfl⟩, -⟩ := q
    exact ⟨e1.trans e2.symm, ad, g, _, hC, hM, hi⟩⟩
theorem b_owners (l : Launch) (hs : Sim a1 a2 S1 S2) (x1 : Int32) : Bo l a1 a2 S1 S2 vI (some (.int)) yX11_owners cX11_owners 6 2 0 0 yX12_owners cX12_owners 4 4 0 0 [.int x1] := by
  obtain ⟨ad, g, σ, hC, hM, hi⟩ := hs
  exact ⟨_, _, fun G => m_X11_owners l G a1 x1 S1 _ hC.1.2.1 (c_owners hC hi x1), fun G => m_X12_owners l G g a2 x1 S2 _ hM.1 (r_owners hM hi x1), fun r1 S1' r2 S2' p q => by
    obtain ⟨⟨e1, rfl⟩, -⟩ := p
    obtain ⟨⟨e2, rfl⟩, -⟩ := q
    exact ⟨e1.trans e2.symm, ad, g, _, hC, hM, hi⟩⟩
theorem b_count (l : Launch) (hs : Sim a1 a2 S1 S2) (x1 : Int32) : Bo l a1 a2 S1 S2 vI (some (.int)) yX11_count cX11_count 2 1 0 0 yX12_count cX12_count 2 1 0 0 [.int x1] := by
  obtain ⟨ad, g, σ, hC, hM, hi⟩ := hs
  exact ⟨_, _, fun G => m_X11_count l G a1 x1 S1 _ hC.1.2.1 (c_count hC x1), fun G => m_X12_count l G g a2 x1 S2 _ hM.1 (r_count hM x1), fun r1 S1' r2 S2' p q => by
    obtain ⟨⟨e1, rfl⟩, -⟩ := p
    obtain ⟨⟨e2, rfl⟩, -⟩ := q
    exact ⟨e1.trans e2.symm, ad, g, _, hC, hM, hi⟩⟩
theorem b_sheet (l : Launch) (hs : Sim a1 a2 S1 S2) (x1 : Int32) (x2 : Int32) (x3 : Int32) : Bo l a1 a2 S1 S2 vI (some (.int)) yX11_sheet cX11_sheet 5 3 0 0 yX12_sheet cX12_sheet 5 3 0 0 [.int x1, .int x2, .int x3] := by
  obtain ⟨ad, g, σ, hC, hM, hi⟩ := hs
  exact ⟨_, _, fun G => m_X11_sheet l G a1 x1 x2 x3 S1 _ hC.1.2.1 (c_sheet hC x1 x2 x3), fun G => m_X12_sheet l G g a2 x1 x2 x3 S2 _ hM.1 (r_sheet hM x1 x2 x3), fun r1 S1' r2 S2' p q => by
    obtain ⟨⟨e1, ad', h1⟩, -⟩ := p
    obtain ⟨⟨e2, h2⟩, -⟩ := q
    exact ⟨e1.trans e2.symm, ad', g, _, h1, h2, v_sheet hi x1 x2 x3⟩⟩
theorem b_cell (l : Launch) (hs : Sim a1 a2 S1 S2) (x1 : Int32) (x2 : Int32) (x3 : Int32) : Bo l a1 a2 S1 S2 vI (some (.int)) yX11_cell cX11_cell 5 3 0 0 yX12_cell cX12_cell 4 3 0 0 [.int x1, .int x2, .int x3] := by
  obtain ⟨ad, g, σ, hC, hM, hi⟩ := hs
  exact ⟨_, _, fun G => m_X11_cell l G a1 x1 x2 x3 S1 _ hC.1.2.1 (c_cell hC hi x1 x2 x3), fun G => m_X12_cell l G g a2 x1 x2 x3 S2 _ hM.1 (r_cell hM hi x1 x2 x3), fun r1 S1' r2 S2' p q => by
    obtain ⟨⟨e1, ad', h1⟩, -⟩ := p
    obtain ⟨⟨e2, h2⟩, -⟩ := q
    exact ⟨e1.trans e2.symm, ad', g, _, h1, h2, v_cell hi x1 x2 x3⟩⟩
theorem b_taken (l : Launch) (hs : Sim a1 a2 S1 S2) (x1 : Int32) (x2 : Int32) : Bo l a1 a2 S1 S2 vI (some (.int)) yX11_taken cX11_taken 4 3 0 0 yX12_taken cX12_taken 3 3 0 0 [.int x1, .int x2] := by
  obtain ⟨ad, g, σ, hC, hM, hi⟩ := hs
  exact ⟨_, _, fun G => m_X11_taken l G a1 x1 x2 S1 _ hC.1.2.1 (c_taken hC hi x1 x2), fun G => m_X12_taken l G g a2 x1 x2 S2 _ hM.1 (r_taken hM hi x1 x2), fun r1 S1' r2 S2' p q => by
    obtain ⟨⟨e1, rfl⟩, -⟩ := p
    obtain ⟨⟨e2, rfl⟩, -⟩ := q
    exact ⟨e1.trans e2.symm, ad, g, _, hC, hM, hi⟩⟩
