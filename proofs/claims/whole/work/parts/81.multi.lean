/-- f, but v at every address of l -/
def vr_up {α : Type} (f : Nat → α) (l : List Nat) (v : α) : Nat → α := fun a => if a ∈ l then v else f a
theorem vr_up_in {α : Type} {f : Nat → α} {l : List Nat} {v : α} {a : Nat} (h : a ∈ l) : vr_up f l v a = v := if_pos h
theorem vr_up_ne {α : Type} {f : Nat → α} {l : List Nat} {v : α} {a : Nat} (h : a ∉ l) : vr_up f l v a = f a := if_neg h
theorem vr_rows {L l : List Nat} {f : Nat → va_E} {e : va_E} (h : ∀ a, a ∈ l → a ∉ L) : va_pl L f ++ l.map (fun a => (a, e)) = va_pl (L ++ l) (vr_up f l e) := by
  unfold va_pl
  rw [List.map_append]
  congr 1
  · apply List.map_congr_left
    intro a ha
    rw [vr_up_ne (fun q => h a q ha)]
  · apply List.map_congr_left
    intro a ha
    rw [vr_up_in ha]
theorem vr_lay {X rows : va_W} {x : Nat × va_E} {pl : va_W} {D : va_G} {cl : List vw_C} {H : Heap} (hP : va_P D cl (((X ++ pl) ++ [x]) ++ rows) H) : va_P D cl ((X ++ [x]) ++ (pl ++ rows)) H := by
  rw [List.append_assoc (X ++ pl)] at hP
  have h := va_P.swap hP
  rw [← List.append_assoc X] at h
  have h2 := va_P.swap h
  rw [List.append_assoc (X ++ [x])] at h2
  exact h2
theorem vr_layD {X rows : va_W} {x : Nat × va_E} {pl : va_W} {A : Nat → Prop} (hD : va_D A (((X ++ pl) ++ [x]) ++ rows)) : va_D A ((X ++ [x]) ++ (pl ++ rows)) := by
  rw [List.append_assoc (X ++ pl)] at hD
  have h := va_D.swap hD
  rw [← List.append_assoc X] at h
  have h2 := va_D.swap h
  rw [List.append_assoc (X ++ [x])] at h2
  exact h2
theorem vr_outer (c : ClassId) (N h0 : Nat) : ∀ i : Nat, Jvm.Free.Multi.outerC c N h0 i = arrV c N (fun j => va_rf (if j < i then some (h0 + 1 + j) else none))
  | 0 => by
    show ({ cls := c, slots := Array.replicate N .null, vm := .none } : Cell) = _
    rw [arrV_new]
    refine congrArg (arrV c N) (funext fun j => ?_)
    simp [va_rf]
  | i + 1 => by
    show (Jvm.Free.Multi.outerC c N h0 i).setSlot i (.ref (h0 + 1 + i)) = _
    rw [vr_outer c N h0 i, arrV_store]
    refine congrArg (arrV c N) (funext fun j => ?_)
    by_cases e : j = i
    · subst e
      simp [updV, va_rf]
    · by_cases h : j < i
      · simp [updV, e, h, Nat.lt_succ_of_lt h]
      · simp [updV, e, h, show ¬ j < i + 1 by omega]
section VGM
variable {p : Program} {l : Launch} {e : Env} {R : Room} {s : State} {m : MethodId} {args : Array Value} {below : List Frame} {meth : Method} {c : Code} {H : Heap} {locs : List Loc} {cells slots : Nat} {Q : State → Prop}
variable {cc : ByteArray} {pc : Nat} {ls : Array Slot} {rest : List Value} {D : va_G} {cl : List vw_C} {A : Nat → Prop} {a : Nat} {tys : List (ClassId × FieldType)} {ws : va_W} {H0 : Heap}
theorem va_mna {X : va_W} {L : List Nat} {f : Nat → va_E} {cc : ByteArray} (hexec : p.tables.exec = Jvm.exec) (hb : c.code = cc) {own : String} {index : Nat} {ty : FieldType} {cy : ClassId} (hown : s.vm.findClass own = some m.cls) (hclink : (Cond.classLink own index ("[" ++ (FieldType.array ty).toString)).before args s = true) (hover : (Cond.arrayOver (.array ty)).before args s = true) (harr : (Cond.arrayClass ty).before args s = true) (hcy : s.vm.findClass (FieldType.array ty).toString = some cy)
    (hK : va_K D cl tys s) (hP : va_P D cl (X ++ va_pl L f) H) (hD : va_D A (X ++ va_pl L f)) (hS : va_S A H0 H locs) (hA : ∀ q, H0.size ≤ q → A q) {n k : Int32} {N' K' : Nat} {z : vp_A} (hn : ¬ n < 0) (hk : ¬ k < 0) (hN : n.toNatClampNeg = N') (hM : k.toNatClampNeg = K')
    (hb1 : N' * 4 ≤ 536870912) (hb2 : K' * componentBytes ty ≤ 536870912) (hb3 : K' ≤ 536870912) (hdf : fits ty (defaultValue ty) = true) (hdd : (defaultValue ty).isDefault = true) (hcells : cells + (1 + N') ≤ R.cells) (hslots : slots + (N' + N' * K') ≤ R.slots) (hz : ∀ c : ClassId, Jvm.Free.Multi.innerC c K' (defaultValue ty) = vp_cell c z) (hdg : decode cc pc = .ok (.multianewarray index 2, 4))
    (kk : ∀ (q : Nat) (r : Nat → Nat) (cA : ClassId) (H1 : Heap), (∀ i j : Nat, i < N' → j < N' → r i = r j → i = j) → (∀ i : Nat, i < N' → r i ∉ L) → va_K D cl (tys ++ [(cA, .array ty)]) s →
      va_P D cl ((X ++ [(q, .inl (cA, N', .inr (.inr (.inr (.inr (fun i => if i < N' then some (r i) else none))))))]) ++ va_pl (L ++ (List.range N').map r) (vr_up f ((List.range N').map r) (.inl (cy, z)))) H1 → va_D A ((X ++ [(q, .inl (cA, N', .inr (.inr (.inr (.inr (fun i => if i < N' then some (r i) else none))))))]) ++ va_pl (L ++ (List.range N').map r) (vr_up f ((List.range N').map r) (.inl (cy, z)))) → va_S A H0 H1 locs →
      W p l e R s m args below meth c H1 locs (cells + 1 + N') (slots + N' + N' * K') Q (F0 m (pc + 4) ls (.ref q :: rest))) : W p l e R s m args below meth c H locs cells slots Q (F0 m pc ls (.int k :: .int n :: rest)) := by
  subst hN
  subst hM
  intro T hT Xs
  obtain ⟨vm₁, cA, comp, -, fA, fC, hO, -, X', step⟩ := Xs.multianewarray2F hexec hown hclink hover harr (g := F0 m pc ls (.int k :: .int n :: rest)) rfl (by rw [hb]; exact hdg) rfl hn hk hb1 hb2 hb3 hdf hdd hcells hslots
  have ec : some cy = some comp := hcy.symm.trans fC
  cases ec
  generalize hF : Jvm.Free.Multi.fill (T.setVm vm₁) cA cy n.toNatClampNeg k.toNatClampNeg (defaultValue ty) n.toNatClampNeg = F at X' step
  have hTh : (T.setVm vm₁).heap = H := hT
  obtain ⟨f1, f2, -, -⟩ := Jvm.Free.Multi.fill_facts (T.setVm vm₁) cA cy n.toNatClampNeg k.toNatClampNeg (defaultValue ty) n.toNatClampNeg
  rw [hF, hTh] at f1 f2
  have hold : ∀ x : Nat, x < H.size → F.heap[x]? = H[x]? := fun x hx => by
    have := Jvm.Free.Multi.fill_old (T.setVm vm₁) cA cy n.toNatClampNeg k.toNatClampNeg (defaultValue ty) (a := x) (by rw [hTh]; exact hx) n.toNatClampNeg
    rw [hF, hTh] at this
    exact this
  have hrow : ∀ j : Nat, j < n.toNatClampNeg → F.heap[H.size + 1 + j]? = some (vp_cell cy z) := fun j hj => by
    have := Jvm.Free.Multi.fill_inner (T.setVm vm₁) cA cy n.toNatClampNeg k.toNatClampNeg (defaultValue ty) n.toNatClampNeg j hj
    rw [hF, hTh, hz] at this
    exact this
  have hout : Jvm.Free.Multi.outerC cA n.toNatClampNeg H.size n.toNatClampNeg = vp_cell cA (n.toNatClampNeg, .inr (.inr (.inr (.inr (fun i => if i < n.toNatClampNeg then some (H.size + 1 + i) else none))))) := by
    rw [vp_cell_q]
    exact vr_outer cA n.toNatClampNeg H.size n.toNatClampNeg
  rw [hout] at f2
  have hlt : ∀ a, a ∈ L → a < H.size := fun a ha => by
    obtain ⟨k9, hk9⟩ := va_pl_get (X := X) (f := f) ha
    exact (hP k9 _ hk9).lt
  have hnl : ∀ i : Nat, i < n.toNatClampNeg → H.size + 1 + i ∉ L := fun i _ h => by
    have := hlt _ h
    omega
  have hnm : ∀ a, a ∈ (List.range n.toNatClampNeg).map (fun i => H.size + 1 + i) → a ∉ L := fun a ha h => by
    obtain ⟨i, -, rfl⟩ := List.mem_map.mp ha
    have := hlt _ h
    omega
  have hP0 : va_P D cl (X ++ va_pl L f) F.heap := hP.kept (fun k9 x hx => hold x.1 ((hP k9 x hx).lt))
  have hP1 : va_P D cl ((X ++ va_pl L f) ++ [(H.size, .inl (cA, n.toNatClampNeg, .inr (.inr (.inr (.inr (fun i => if i < n.toNatClampNeg then some (H.size + 1 + i) else none))))))]) F.heap := hP0.app (fun k9 x hx => by
    have h0 : k9 < 1 := (List.getElem?_eq_some_iff.mp hx).1
    rw [show k9 = 0 by omega] at hx
    cases hx
    exact f2)
  have hP2 : va_P D cl (((X ++ va_pl L f) ++ [(H.size, .inl (cA, n.toNatClampNeg, .inr (.inr (.inr (.inr (fun i => if i < n.toNatClampNeg then some (H.size + 1 + i) else none))))))]) ++ ((List.range n.toNatClampNeg).map (fun i => H.size + 1 + i)).map (fun a => (a, .inl (cy, z)))) F.heap := hP1.app (fun k9 x hx => by
    obtain ⟨a, ha, rfl⟩ := List.mem_map.mp (List.mem_of_getElem? hx)
    obtain ⟨i, hi, rfl⟩ := List.mem_map.mp ha
    exact hrow i (List.mem_range.mp hi))
  have hD2 : va_D A (((X ++ va_pl L f) ++ [(H.size, .inl (cA, n.toNatClampNeg, .inr (.inr (.inr (.inr (fun i => if i < n.toNatClampNeg then some (H.size + 1 + i) else none))))))]) ++ ((List.range n.toNatClampNeg).map (fun i => H.size + 1 + i)).map (fun a => (a, .inl (cy, z)))) := by
    have hD1 := hD.push (e := .inl (cA, n.toNatClampNeg, .inr (.inr (.inr (.inr (fun i => if i < n.toNatClampNeg then some (H.size + 1 + i) else none)))))) hP rfl (hA _ hS.1)
    generalize hW1 : (X ++ va_pl L f) ++ [(H.size, .inl (cA, n.toNatClampNeg, .inr (.inr (.inr (.inr (fun i => if i < n.toNatClampNeg then some (H.size + 1 + i) else none))))))] = W1 at hD1 hP1 ⊢
    have hle : ∀ (k9 : Nat) (x : Nat × va_E), W1[k9]? = some x → x.1 ≤ H.size := fun k9 x hx => by
      rw [← hW1] at hx
      by_cases hl : k9 < (X ++ va_pl L f).length
      · rw [List.getElem?_append_left hl] at hx
        exact Nat.le_of_lt ((hP k9 x hx).lt)
      · rw [List.getElem?_append_right (by omega)] at hx
        have h0 : k9 - (X ++ va_pl L f).length < 1 := (List.getElem?_eq_some_iff.mp hx).1
        rw [show k9 - (X ++ va_pl L f).length = 0 by omega] at hx
        cases hx
        exact Nat.le_refl _
    have hr : ∀ (k9 : Nat) (x : Nat × va_E), (((List.range n.toNatClampNeg).map (fun i => H.size + 1 + i)).map (fun a => ((a, .inl (cy, z)) : Nat × va_E)))[k9]? = some x → x.1 = H.size + 1 + k9 := fun k9 x hx => by
      rw [List.getElem?_map, List.getElem?_map] at hx
      by_cases h9 : k9 < n.toNatClampNeg
      · rw [List.getElem?_range h9] at hx
        cases hx
        rfl
      · have hn0 : (List.range n.toNatClampNeg)[k9]? = none := List.getElem?_eq_none (by rw [List.length_range]; omega)
        rw [hn0] at hx
        cases hx
    refine ⟨fun i j x y hi hj hxy => ?_, fun k9 x hx => ?_⟩
    · by_cases h1 : i < W1.length <;> by_cases h2 : j < W1.length
      · rw [List.getElem?_append_left h1] at hi
        rw [List.getElem?_append_left h2] at hj
        exact hD1.1 i j x y hi hj hxy
      · rw [List.getElem?_append_left h1] at hi
        rw [List.getElem?_append_right (by omega)] at hj
        have := hle _ _ hi
        have := hr _ _ hj
        omega
      · rw [List.getElem?_append_right (by omega)] at hi
        rw [List.getElem?_append_left h2] at hj
        have := hle _ _ hj
        have := hr _ _ hi
        omega
      · rw [List.getElem?_append_right (by omega)] at hi hj
        have := hr _ _ hi
        have := hr _ _ hj
        omega
    · by_cases h1 : k9 < W1.length
      · rw [List.getElem?_append_left h1] at hx
        exact hD1.2 k9 x hx
      · rw [List.getElem?_append_right (by omega)] at hx
        have := hr _ _ hx
        exact hA _ (by have := hS.1; omega)
  have hAr : ArrOfT s cA (.array ty) := fun N9 z9 => by
    obtain ⟨-, k9, hk9, cm9, hkk9⟩ := (hO 0 0 0).1
    exact ⟨(fun q hq => by cases hq), k9, hk9, cm9, hkk9⟩
  have hK2 : va_K D cl (tys ++ [(cA, .array ty)]) s := ⟨hK.1, fun k9 x hx => by
    by_cases hl : k9 < tys.length
    · rw [List.getElem?_append_left hl] at hx
      exact hK.2 k9 x hx
    · rw [List.getElem?_append_right (by omega)] at hx
      have h0 : k9 - tys.length < 1 := (List.getElem?_eq_some_iff.mp hx).1
      rw [show k9 - tys.length = 0 by omega] at hx
      cases hx
      exact ⟨hAr, fA⟩⟩
  obtain ⟨t, a1, b1⟩ := kk H.size (fun i => H.size + 1 + i) cA F.heap (fun i j _ _ h => by have h9 : H.size + 1 + i = H.size + 1 + j := h; omega) hnl hK2 (by rw [← vr_rows hnm]; exact vr_lay hP2) (by rw [← vr_rows hnm]; exact vr_layD hD2) ⟨by rw [f1]; have := hS.1; omega, fun x h1 h2 => (hold x (Nat.lt_of_lt_of_le h1 hS.1)).trans (hS.2.1 x h1 h2), hS.2.2⟩ F rfl X'
  refine ⟨t, step t ?_, b1⟩
  have e : T.heap.size = H.size := by rw [hT]
  rw [e]
  exact a1
end VGM
/-- a row of six rows is made -/
def nM (S : HSt) (q : Nat) (r : Nat → Nat) : HSt := (va_up (vr_up S.1 ((List.range 6).map r) 262) q 1000, S.2.1, S.2.2.1, S.2.2.2.1, va_up (vr_up S.2.2.2.2.1 ((List.range 6).map r) 1000) q 6, fun k a => if a ∈ (List.range 6).map r then (fun _ => 0) else S.2.2.2.2.2.1 k a, fun k a => if a = q then (fun i => if i < 6 then some (r i) else none) else S.2.2.2.2.2.2 k a)
theorem nM_in {r : Nat → Nat} {i : Nat} (h : i < 6) : r i ∈ (List.range 6).map r := List.mem_map.mpr ⟨i, List.mem_range.mpr h, rfl⟩
theorem nM_of {r : Nat → Nat} {a : Nat} (h : a ∈ (List.range 6).map r) : ∃ i, i < 6 ∧ a = r i := by
  obtain ⟨i, hi, e⟩ := List.mem_map.mp h
  exact ⟨i, List.mem_range.mp hi, e.symm⟩
theorem gK_nM {S S1 : HSt} {q : Nat} {r : Nat → Nat} (e : S1 = nM S q r) : gK S1 q = 1000 := by subst e; exact va_up_self _ _ _
theorem Ks_nM {S S1 : HSt} {q : Nat} {r : Nat → Nat} (h0 : gK S q = 0) (h1 : ∀ i, i < 6 → gK S (r i) = 0) (e : S1 = nM S q r) : Ks S S1 := by
  subst e
  intro a h
  have hn : a ≠ q := fun z => h (by rw [z]; exact h0)
  have hr : a ∉ (List.range 6).map r := fun z => by
    obtain ⟨i, hi, e⟩ := nM_of z
    exact h (by rw [e]; exact h1 i hi)
  exact ⟨by show va_up (vr_up S.1 ((List.range 6).map r) 262) q 1000 a = _; rw [va_up_ne _ _ hn, vr_up_ne hr]; rfl, by show va_up (vr_up S.2.2.2.2.1 ((List.range 6).map r) 1000) q 6 a = _; rw [va_up_ne _ _ hn, vr_up_ne hr]; rfl, fun f b _ _ h3 => h3⟩
theorem x_multi {p : Program} {l : Launch} {e : Env} {R : Room} {s : State} {m : MethodId} {args : Array Value} {below : List Frame} {meth : Method} {c : Code} {Q : State → Prop} {G : XG} {nL cells slots : Nat} {S : HSt} {pc : Nat} {lv : List (Nat × Value)} {rest : List Value} {cc : ByteArray} {own : String} (C : Cx p s m c cc nL args own G) {index : Nat} (hcl : Cond.classLink own index "[[I" ∈ TBL) (hw : Cond.arrayClass .int ∈ TBL) (hdg : decode cc pc = .ok (.multianewarray index 2, 4)) (h1 : cells + 7 ≤ R.cells) (h2 : slots + 6006 ≤ R.slots) (kk : ∀ (q : Nat) (r : Nat → Nat), gK S q = 0 → (∀ i, i < 6 → gK S (r i) = 0) → (∀ i j, i < 6 → j < 6 → r i = r j → i = j) → (∀ i, i < 6 → r i ≠ q) → Wx p l e R s m args below meth c Q G nL (cells + 7) (slots + 6006) (nM S q r) (pc + 4) lv (.ref q :: rest)) : Wx p l e R s m args below meth c Q G nL cells slots S pc lv (.int 1000 :: .int 6 :: rest) := by
  intro H locs ls hH hS hl
  obtain ⟨L, hL, hP, hD⟩ := id hH
  have hcy : s.vm.findClass (FieldType.array .int).toString = some (G.2.1 1) := (C.2.2.2.2.2.1.2 1 _ rfl).2
  refine va_mna (X := []) (L := L) (f := ent G.2.1 S) (ty := .int) (cy := G.2.1 1) (N' := 6) (K' := 1000) (z := (1000, .inl (fun _ => 0))) C.1 C.2.1 C.2.2.2.1 (C.2.2.2.2.1 _ hcl) (show (Cond.arrayOver (.array .int)).before args s = true from C.2.2.2.2.2.2.2.2.2.2.2.2.2.2.2) (C.2.2.2.2.1 _ hw) hcy C.2.2.2.2.2.1 hP hD hS C.2.2.2.2.2.2.1 (by decide) (by decide) (by decide) (by decide) (by decide) (by decide) (by decide) rfl rfl h1 h2 (fun cA => ?_) hdg (fun q r cA H1 hri hrL hK1 hP1 hD1 hS1 => ?_)
  · show ({ cls := cA, slots := Array.replicate 1000 (defaultValue .int), vm := .none } : Cell) = _
    rw [arrV_new]; rfl
  · have hcA : cA = G.2.1 9 := va_RA_eq (vname_of (t := 0) (cy := G.2.1) hK1) (C.2.2.2.2.2.1.2 9 _ rfl).2
    subst hcA
    have hq : q ∉ L ++ (List.range 6).map r := va_pl_fresh2 (X := []) (va_D.swap (a := []) hD1)
    have hqL : q ∉ L := fun z => hq (List.mem_append_left _ z)
    have hqr : q ∉ (List.range 6).map r := fun z => hq (List.mem_append_right _ z)
    have zero : ∀ a, a ∉ L → gK S a = 0 := fun a h => by
      by_cases k : gK S a = 0
      · exact k
      · exact absurd ((hL a).mp k) h
    have kr : ∀ a, a ∈ (List.range 6).map r → gK (nM S q r) a = 262 := fun a h => by
      have hn : a ≠ q := fun z => hqr (z ▸ h)
      show va_up (vr_up S.1 ((List.range 6).map r) 262) q 1000 a = _
      rw [va_up_ne _ _ hn, vr_up_in h]
    have ko : ∀ a, a ∉ (List.range 6).map r → a ≠ q → gK (nM S q r) a = gK S a := fun a h hn => by
      show va_up (vr_up S.1 ((List.range 6).map r) 262) q 1000 a = _
      rw [va_up_ne _ _ hn, vr_up_ne h]; rfl
    have eq0 : ent G.2.1 (nM S q r) q = .inl (G.2.1 9, 6, .inr (.inr (.inr (.inr (fun i => if i < 6 then some (r i) else none))))) := by
      rw [ent_ref (k := 1000) (gK_nM rfl) (by decide)]
      have e1 : gN (nM S q r) q = 6 := va_up_self _ _ _
      have e2 : gB (nM S q r) 1000 q = fun i => if i < 6 then some (r i) else none := if_pos rfl
      rw [e1, e2]
    have er : ∀ a, a ∈ L ++ (List.range 6).map r → ent G.2.1 (nM S q r) a = vr_up (ent G.2.1 S) ((List.range 6).map r) (.inl (G.2.1 1, 1000, .inl (fun _ => 0))) a := by
      intro a ha
      have hn : a ≠ q := fun z => hq (z ▸ ha)
      by_cases h : a ∈ (List.range 6).map r
      · rw [vr_up_in h, ent_num (kr a h) (by decide) (by decide)]
        have e1 : gN (nM S q r) a = 1000 := by
          show va_up (vr_up S.2.2.2.2.1 ((List.range 6).map r) 1000) q 6 a = _
          rw [va_up_ne _ _ hn, vr_up_in h]
        have e2 : gA (nM S q r) 262 a = fun _ => 0 := if_pos h
        rw [e1, e2]
      · rw [vr_up_ne h]
        refine ent_ne (ko a h hn) (fun _ => rfl) (fun _ => rfl) (fun _ => rfl) ?_ (fun k => ?_) (fun k => ?_)
        · show va_up (vr_up S.2.2.2.2.1 ((List.range 6).map r) 1000) q 6 a = _
          rw [va_up_ne _ _ hn, vr_up_ne h]; rfl
        · exact if_neg h
        · exact if_neg hn
    have ep : va_pl (L ++ (List.range 6).map r) (vr_up (ent G.2.1 S) ((List.range 6).map r) (.inl (G.2.1 1, 1000, .inl (fun _ => 0)))) = va_pl (L ++ (List.range 6).map r) (ent G.2.1 (nM S q r)) := by
      unfold va_pl
      exact List.map_congr_left (fun a ha => by rw [er a ha])
    have ew : ([] ++ [(q, (.inl (G.2.1 9, 6, .inr (.inr (.inr (.inr (fun i => if i < 6 then some (r i) else none))))) : va_E))]) ++ va_pl (L ++ (List.range 6).map r) (vr_up (ent G.2.1 S) ((List.range 6).map r) (.inl (G.2.1 1, 1000, .inl (fun _ => 0)))) = va_pl (q :: (L ++ (List.range 6).map r)) (ent G.2.1 (nM S q r)) := by
      rw [ep]
      show _ = (q, ent G.2.1 (nM S q r) q) :: va_pl (L ++ (List.range 6).map r) (ent G.2.1 (nM S q r))
      rw [eq0]; rfl
    refine kk q r (zero q hqL) (fun i hi => zero _ (hrL i hi)) hri (fun i hi z => hqr (z ▸ nM_in hi)) H1 locs ls ⟨q :: (L ++ (List.range 6).map r), fun a => ?_, ew ▸ hP1, ew ▸ hD1⟩ hS1 hl
    by_cases hn : a = q
    · subst hn
      have : gK (nM S a r) a ≠ 0 := by rw [gK_nM rfl]; decide
      exact ⟨fun _ => List.mem_cons_self .., fun _ => this⟩
    · by_cases h : a ∈ (List.range 6).map r
      · have : gK (nM S q r) a ≠ 0 := by rw [kr a h]; decide
        exact ⟨fun _ => List.mem_cons_of_mem _ (List.mem_append_right _ h), fun _ => this⟩
      · rw [ko a h hn, hL a]
        exact ⟨fun z => List.mem_cons_of_mem _ (List.mem_append_left _ z), fun z => by
          rcases List.mem_cons.mp z with z | z
          · exact absurd z hn
          · rcases List.mem_append.mp z with z | z
            · exact z
            · exact absurd z h⟩
