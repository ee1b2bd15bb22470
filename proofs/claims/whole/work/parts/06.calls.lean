section XV
variable {p : Program} {l : Launch} {e : Env} {R : Room} {s : State} {m : MethodId} {args : Array Value} {below : List Frame} {meth : Method} {c : Code} {Q : State → Prop} {G : XG} {nL cells slots : Nat} {S : HSt} {pc : Nat} {lv : List (Nat × Value)} {cc : ByteArray} {own : String}
variable {y : MethodName} {b : ByteArray} {n na : Nat} {ret : Option FieldType} {lev mc ms lev0 mc0 ms0 : Nat} {a kd index : Nat} {host : String}
theorem x_callVi (C : Cx p s m c cc nL args own G) {Post : Int32 → HSt → Prop} (As rest : List Value) {st : List Value} (M : MeR y b n ret na) (MV : MeV y kd) (hlk : Cond.methodLink own index y ∈ TBL) (hM : Mx l y b n ret lev mc ms G vI (.ref a :: As) S Post) (hk : gK S a = kd) (hna : As.length = na) (hrest : (rest.map fun v => v.category).sum ≤ 8) (hdg : decode cc pc = .ok (.invokevirtual index, 3)) (hlev : lev + 1 ≤ lev0) (hmc : cells + mc ≤ mc0) (hms : slots + ms ≤ ms0) (hst0 : st = As.reverse ++ .ref a :: rest)
    (kk : ∀ (r : Int32) (S' : HSt), Post r S' → Wx p l e (rmL lev0 mc0 ms0) s m args below meth c Q G nL (cells + mc) (slots + ms) S' (pc + 3) lv (.int r :: rest)) : Wx p l e (rmL lev0 mc0 ms0) s m args below meth c Q G nL cells slots S pc lv st := by
  subst hst0
  exact x_callV C As M MV hlk hM hk hna hrest hdg hlev hmc hms kk
theorem x_callSi (C : Cx p s m c cc nL args own G) {Post : Int32 → HSt → Prop} (As rest : List Value) {st : List Value} (M : MeR y b n ret na) (hst : Cond.static y ∈ TBL) (hlk : Cond.methodLink own index y ∈ TBL) (hM : Mx l y b n ret lev mc ms G vI (As) S Post) (hna : As.length = na) (hrest : (rest.map fun v => v.category).sum ≤ 8) (hdg : decode cc pc = .ok (.invokestatic index, 3)) (hlev : lev + 1 ≤ lev0) (hmc : cells + mc ≤ mc0) (hms : slots + ms ≤ ms0) (hst0 : st = As.reverse ++ rest)
    (kk : ∀ (r : Int32) (S' : HSt), Post r S' → Wx p l e (rmL lev0 mc0 ms0) s m args below meth c Q G nL (cells + mc) (slots + ms) S' (pc + 3) lv (.int r :: rest)) : Wx p l e (rmL lev0 mc0 ms0) s m args below meth c Q G nL cells slots S pc lv st := by
  subst hst0
  exact x_callS C As M hst hlk hM hna hrest hdg hlev hmc hms kk
theorem x_callSNi (C : Cx p s m c cc nL args own G) {Post : Int32 → HSt → Prop} (As rest : List Value) {st : List Value} (M : MeR y b n ret na) (hst : Cond.static y ∈ TBL) (hlk : (own, index, y, host) ∈ nstL) (hM : Mx l y b n ret lev mc ms G vI (As) S Post) (hna : As.length = na) (hrest : (rest.map fun v => v.category).sum ≤ 8) (hdg : decode cc pc = .ok (.invokestatic index, 3)) (hlev : lev + 1 ≤ lev0) (hmc : cells + mc ≤ mc0) (hms : slots + ms ≤ ms0) (hst0 : st = As.reverse ++ rest)
    (kk : ∀ (r : Int32) (S' : HSt), Post r S' → Wx p l e (rmL lev0 mc0 ms0) s m args below meth c Q G nL (cells + mc) (slots + ms) S' (pc + 3) lv (.int r :: rest)) : Wx p l e (rmL lev0 mc0 ms0) s m args below meth c Q G nL cells slots S pc lv st := by
  subst hst0
  exact x_callSN C As M hst hlk hM hna hrest hdg hlev hmc hms kk
theorem x_callVl (C : Cx p s m c cc nL args own G) {Post : Int64 → HSt → Prop} (As rest : List Value) {st : List Value} (M : MeR y b n ret na) (MV : MeV y kd) (hlk : Cond.methodLink own index y ∈ TBL) (hM : Mx l y b n ret lev mc ms G vL (.ref a :: As) S Post) (hk : gK S a = kd) (hna : As.length = na) (hrest : (rest.map fun v => v.category).sum ≤ 8) (hdg : decode cc pc = .ok (.invokevirtual index, 3)) (hlev : lev + 1 ≤ lev0) (hmc : cells + mc ≤ mc0) (hms : slots + ms ≤ ms0) (hst0 : st = As.reverse ++ .ref a :: rest)
    (kk : ∀ (r : Int64) (S' : HSt), Post r S' → Wx p l e (rmL lev0 mc0 ms0) s m args below meth c Q G nL (cells + mc) (slots + ms) S' (pc + 3) lv (.long r :: rest)) : Wx p l e (rmL lev0 mc0 ms0) s m args below meth c Q G nL cells slots S pc lv st := by
  subst hst0
  exact x_callV C As M MV hlk hM hk hna hrest hdg hlev hmc hms kk
theorem x_callSl (C : Cx p s m c cc nL args own G) {Post : Int64 → HSt → Prop} (As rest : List Value) {st : List Value} (M : MeR y b n ret na) (hst : Cond.static y ∈ TBL) (hlk : Cond.methodLink own index y ∈ TBL) (hM : Mx l y b n ret lev mc ms G vL (As) S Post) (hna : As.length = na) (hrest : (rest.map fun v => v.category).sum ≤ 8) (hdg : decode cc pc = .ok (.invokestatic index, 3)) (hlev : lev + 1 ≤ lev0) (hmc : cells + mc ≤ mc0) (hms : slots + ms ≤ ms0) (hst0 : st = As.reverse ++ rest)
    (kk : ∀ (r : Int64) (S' : HSt), Post r S' → Wx p l e (rmL lev0 mc0 ms0) s m args below meth c Q G nL (cells + mc) (slots + ms) S' (pc + 3) lv (.long r :: rest)) : Wx p l e (rmL lev0 mc0 ms0) s m args below meth c Q G nL cells slots S pc lv st := by
  subst hst0
  exact x_callS C As M hst hlk hM hna hrest hdg hlev hmc hms kk
theorem x_callSNl (C : Cx p s m c cc nL args own G) {Post : Int64 → HSt → Prop} (As rest : List Value) {st : List Value} (M : MeR y b n ret na) (hst : Cond.static y ∈ TBL) (hlk : (own, index, y, host) ∈ nstL) (hM : Mx l y b n ret lev mc ms G vL (As) S Post) (hna : As.length = na) (hrest : (rest.map fun v => v.category).sum ≤ 8) (hdg : decode cc pc = .ok (.invokestatic index, 3)) (hlev : lev + 1 ≤ lev0) (hmc : cells + mc ≤ mc0) (hms : slots + ms ≤ ms0) (hst0 : st = As.reverse ++ rest)
    (kk : ∀ (r : Int64) (S' : HSt), Post r S' → Wx p l e (rmL lev0 mc0 ms0) s m args below meth c Q G nL (cells + mc) (slots + ms) S' (pc + 3) lv (.long r :: rest)) : Wx p l e (rmL lev0 mc0 ms0) s m args below meth c Q G nL cells slots S pc lv st := by
  subst hst0
  exact x_callSN C As M hst hlk hM hna hrest hdg hlev hmc hms kk
theorem x_callVr (C : Cx p s m c cc nL args own G) {Post : Option Nat → HSt → Prop} (As rest : List Value) {st : List Value} (M : MeR y b n ret na) (MV : MeV y kd) (hlk : Cond.methodLink own index y ∈ TBL) (hM : Mx l y b n ret lev mc ms G vR (.ref a :: As) S Post) (hk : gK S a = kd) (hna : As.length = na) (hrest : (rest.map fun v => v.category).sum ≤ 8) (hdg : decode cc pc = .ok (.invokevirtual index, 3)) (hlev : lev + 1 ≤ lev0) (hmc : cells + mc ≤ mc0) (hms : slots + ms ≤ ms0) (hst0 : st = As.reverse ++ .ref a :: rest)
    (kk : ∀ (r : Option Nat) (S' : HSt), Post r S' → Wx p l e (rmL lev0 mc0 ms0) s m args below meth c Q G nL (cells + mc) (slots + ms) S' (pc + 3) lv (va_rf r :: rest)) : Wx p l e (rmL lev0 mc0 ms0) s m args below meth c Q G nL cells slots S pc lv st := by
  subst hst0
  exact x_callV C As M MV hlk hM hk hna hrest hdg hlev hmc hms kk
theorem x_callSr (C : Cx p s m c cc nL args own G) {Post : Option Nat → HSt → Prop} (As rest : List Value) {st : List Value} (M : MeR y b n ret na) (hst : Cond.static y ∈ TBL) (hlk : Cond.methodLink own index y ∈ TBL) (hM : Mx l y b n ret lev mc ms G vR (As) S Post) (hna : As.length = na) (hrest : (rest.map fun v => v.category).sum ≤ 8) (hdg : decode cc pc = .ok (.invokestatic index, 3)) (hlev : lev + 1 ≤ lev0) (hmc : cells + mc ≤ mc0) (hms : slots + ms ≤ ms0) (hst0 : st = As.reverse ++ rest)
    (kk : ∀ (r : Option Nat) (S' : HSt), Post r S' → Wx p l e (rmL lev0 mc0 ms0) s m args below meth c Q G nL (cells + mc) (slots + ms) S' (pc + 3) lv (va_rf r :: rest)) : Wx p l e (rmL lev0 mc0 ms0) s m args below meth c Q G nL cells slots S pc lv st := by
  subst hst0
  exact x_callS C As M hst hlk hM hna hrest hdg hlev hmc hms kk
theorem x_callSNr (C : Cx p s m c cc nL args own G) {Post : Option Nat → HSt → Prop} (As rest : List Value) {st : List Value} (M : MeR y b n ret na) (hst : Cond.static y ∈ TBL) (hlk : (own, index, y, host) ∈ nstL) (hM : Mx l y b n ret lev mc ms G vR (As) S Post) (hna : As.length = na) (hrest : (rest.map fun v => v.category).sum ≤ 8) (hdg : decode cc pc = .ok (.invokestatic index, 3)) (hlev : lev + 1 ≤ lev0) (hmc : cells + mc ≤ mc0) (hms : slots + ms ≤ ms0) (hst0 : st = As.reverse ++ rest)
    (kk : ∀ (r : Option Nat) (S' : HSt), Post r S' → Wx p l e (rmL lev0 mc0 ms0) s m args below meth c Q G nL (cells + mc) (slots + ms) S' (pc + 3) lv (va_rf r :: rest)) : Wx p l e (rmL lev0 mc0 ms0) s m args below meth c Q G nL cells slots S pc lv st := by
  subst hst0
  exact x_callSN C As M hst hlk hM hna hrest hdg hlev hmc hms kk
theorem x_callVv (C : Cx p s m c cc nL args own G) {Post : Unit → HSt → Prop} (As rest : List Value) {st : List Value} (M : MeR y b n ret na) (MV : MeV y kd) (hlk : Cond.methodLink own index y ∈ TBL) (hM : Mx l y b n ret lev mc ms G vV (.ref a :: As) S Post) (hk : gK S a = kd) (hna : As.length = na) (hrest : (rest.map fun v => v.category).sum ≤ 8) (hdg : decode cc pc = .ok (.invokevirtual index, 3)) (hlev : lev + 1 ≤ lev0) (hmc : cells + mc ≤ mc0) (hms : slots + ms ≤ ms0) (hst0 : st = As.reverse ++ .ref a :: rest)
    (kk : ∀ (r : Unit) (S' : HSt), Post r S' → Wx p l e (rmL lev0 mc0 ms0) s m args below meth c Q G nL (cells + mc) (slots + ms) S' (pc + 3) lv (rest)) : Wx p l e (rmL lev0 mc0 ms0) s m args below meth c Q G nL cells slots S pc lv st := by
  subst hst0
  exact x_callV C As M MV hlk hM hk hna hrest hdg hlev hmc hms kk
theorem x_callSv (C : Cx p s m c cc nL args own G) {Post : Unit → HSt → Prop} (As rest : List Value) {st : List Value} (M : MeR y b n ret na) (hst : Cond.static y ∈ TBL) (hlk : Cond.methodLink own index y ∈ TBL) (hM : Mx l y b n ret lev mc ms G vV (As) S Post) (hna : As.length = na) (hrest : (rest.map fun v => v.category).sum ≤ 8) (hdg : decode cc pc = .ok (.invokestatic index, 3)) (hlev : lev + 1 ≤ lev0) (hmc : cells + mc ≤ mc0) (hms : slots + ms ≤ ms0) (hst0 : st = As.reverse ++ rest)
    (kk : ∀ (r : Unit) (S' : HSt), Post r S' → Wx p l e (rmL lev0 mc0 ms0) s m args below meth c Q G nL (cells + mc) (slots + ms) S' (pc + 3) lv (rest)) : Wx p l e (rmL lev0 mc0 ms0) s m args below meth c Q G nL cells slots S pc lv st := by
  subst hst0
  exact x_callS C As M hst hlk hM hna hrest hdg hlev hmc hms kk
theorem x_callSNv (C : Cx p s m c cc nL args own G) {Post : Unit → HSt → Prop} (As rest : List Value) {st : List Value} (M : MeR y b n ret na) (hst : Cond.static y ∈ TBL) (hlk : (own, index, y, host) ∈ nstL) (hM : Mx l y b n ret lev mc ms G vV (As) S Post) (hna : As.length = na) (hrest : (rest.map fun v => v.category).sum ≤ 8) (hdg : decode cc pc = .ok (.invokestatic index, 3)) (hlev : lev + 1 ≤ lev0) (hmc : cells + mc ≤ mc0) (hms : slots + ms ≤ ms0) (hst0 : st = As.reverse ++ rest)
    (kk : ∀ (r : Unit) (S' : HSt), Post r S' → Wx p l e (rmL lev0 mc0 ms0) s m args below meth c Q G nL (cells + mc) (slots + ms) S' (pc + 3) lv (rest)) : Wx p l e (rmL lev0 mc0 ms0) s m args below meth c Q G nL cells slots S pc lv st := by
  subst hst0
  exact x_callSN C As M hst hlk hM hna hrest hdg hlev hmc hms kk
theorem x_callIx (C : Cx p s m c cc nL args own G) {Post : Unit → HSt → Prop} (As rest : List Value) {st : List Value} (M : MeR y b n none na) (hy1 : y.name = "<init>") (hin : Cond.instanceMethod y ∈ TBL) (hlk : Cond.methodLink own index y ∈ TBL) (hM : Mx l y b n none lev mc ms G vV (.ref a :: As) S Post) (hna : As.length = na) (hrest : (rest.map fun v => v.category).sum ≤ 8) (hdg : decode cc pc = .ok (.invokespecial index, 3)) (hlev : lev + 1 ≤ lev0) (hmc : cells + mc ≤ mc0) (hms : slots + ms ≤ ms0) (hst0 : st = As.reverse ++ .ref a :: rest)
    (kk : ∀ (S' : HSt), Post () S' → Wx p l e (rmL lev0 mc0 ms0) s m args below meth c Q G nL (cells + mc) (slots + ms) S' (pc + 3) lv rest) : Wx p l e (rmL lev0 mc0 ms0) s m args below meth c Q G nL cells slots S pc lv st := by
  subst hst0
  exact x_callI C As M hy1 hin hlk hM hna hrest hdg hlev hmc hms kk
theorem x_callINx (C : Cx p s m c cc nL args own G) {Post : Unit → HSt → Prop} (As rest : List Value) {st : List Value} (M : MeR y b n none na) (hy1 : y.name = "<init>") (hin : Cond.instanceMethod y ∈ TBL) (hlk : (own, index, y, host) ∈ nstL) (hM : Mx l y b n none lev mc ms G vV (.ref a :: As) S Post) (hna : As.length = na) (hrest : (rest.map fun v => v.category).sum ≤ 8) (hdg : decode cc pc = .ok (.invokespecial index, 3)) (hlev : lev + 1 ≤ lev0) (hmc : cells + mc ≤ mc0) (hms : slots + ms ≤ ms0) (hst0 : st = As.reverse ++ .ref a :: rest)
    (kk : ∀ (S' : HSt), Post () S' → Wx p l e (rmL lev0 mc0 ms0) s m args below meth c Q G nL (cells + mc) (slots + ms) S' (pc + 3) lv rest) : Wx p l e (rmL lev0 mc0 ms0) s m args below meth c Q G nL cells slots S pc lv st := by
  subst hst0
  exact x_callIN C As M hy1 hin hlk hM hna hrest hdg hlev hmc hms kk
end XV
theorem cat_i (x : Int32) : (Value.int x).category = 1 := rfl
theorem cat_l (x : Int64) : (Value.long x).category = 2 := rfl
theorem cat_r (x : Nat) : (Value.ref x).category = 1 := rfl
theorem va_rf_cat (x : Option Nat) : (va_rf x).category = 1 := by cases x <;> rfl
section XU
variable {p : Program} {l : Launch} {e : Env} {R : Room} {s : State} {m : MethodId} {args : Array Value} {below : List Frame} {meth : Method} {c : Code} {Q : State → Prop} {G : XG} {nL cells slots : Nat} {S : HSt} {pc : Nat} {lv : List (Nat × Value)} {rest : List Value} {cc : ByteArray}
theorem x_under (C : Cx p s m c cc nL args RX1 G) {index : Nat} (hlk : Cond.fieldLink RX1 index "TrampOffice$Charter" "UNDER" "[I" ∈ TBL) (hdg : decode cc pc = .ok (.getstatic index, 3)) (k : Wx p l e R s m args below meth c Q G nL cells slots S (pc + 3) lv (.ref (G.1.2 98 0) :: rest)) : Wx p l e R s m args below meth c Q G nL cells slots S pc lv rest := fun H locs ls hH hS hl =>
  va_gets C.1 C.2.1 C.2.2.2.2.2.2.2.2.2.2.1 hS C.2.2.2.1 (C.2.2.2.2.1 _ hlk) (fun _ h => h) hdg (k H locs ls hH hS hl)
theorem x_ulen {own : String} (C : Cx p s m c cc nL args own G) (hdg : decode cc pc = .ok (.arraylength, 1)) (k : Wx p l e R s m args below meth c Q G nL cells slots S (pc + 1) lv (.int 6 :: rest)) : Wx p l e R s m args below meth c Q G nL cells slots S pc lv (.ref (G.1.2 98 0) :: rest) := fun H locs ls hH hS hl => by
  obtain ⟨scr, h1, h2, h3, h4, h5, h6, h7⟩ := C.2.2.2.2.2.2.2.2.2.2.2.1
  exact W.alen (n := 6) C.1 C.2.1 (by rw [hS.2.1 _ (Array.getElem?_eq_some_iff.mp h1).1 h7]; exact h1) h2 (by rw [h5]; rfl) rfl rfl hdg (k H locs ls hH hS hl)
theorem x_uld {own : String} (C : Cx p s m c cc nL args own G) {i : Int32} (hin : vp_in i 6) (hdg : decode cc pc = .ok (.iaload, 1)) (k : Wx p l e R s m args below meth c Q G nL cells slots S (pc + 1) lv (.int (undB i.toNatClampNeg) :: rest)) : Wx p l e R s m args below meth c Q G nL cells slots S pc lv (.int i :: .ref (G.1.2 98 0) :: rest) := fun H locs ls hH hS hl => by
  obtain ⟨scr, h1, h2, h3, h4, h5, h6, h7⟩ := C.2.2.2.2.2.2.2.2.2.2.2.1
  have hlt : i.toNatClampNeg < 6 := Nat.not_le.mp fun q => hin (Or.inr q)
  exact W.iald (v := .int (undB i.toNatClampNeg)) C.1 C.2.1 (by rw [hS.2.1 _ (Array.getElem?_eq_some_iff.mp h1).1 h7]; exact h1) h2 h3 (fun z => z.elim (fun q => hin (Or.inl q)) (fun q => by omega)) (h6 _ hlt) rfl rfl hdg (k H locs ls hH hS hl)
theorem x_ldcS {own tx : String} (C : Cx p s m c cc nL args own G) {index : Nat} (i : Nat) (hi : i < 11) (h1 : litN.getD i ("", 0, "") = (own, index, tx)) (hdg : decode cc pc = .ok (.ldc index, 2)) (k : Wx p l e R s m args below meth c Q G nL cells slots S (pc + 2) lv (.ref (G.1.2 99 i) :: rest)) : Wx p l e R s m args below meth c Q G nL cells slots S pc lv rest := fun H locs ls hH hS hl => by
  have h := C.2.2.2.2.2.2.2.2.2.2.2.2.1 i hi
  rw [h1] at h
  exact va_ldcS C.1 C.2.1 C.2.2.2.1 h hdg (k H locs ls hH hS hl)
end XU
section XS
variable {p : Program} {l : Launch} {e : Env} {R : Room} {s : State} {m : MethodId} {args : Array Value} {below : List Frame} {meth : Method} {c : Code} {Q : State → Prop} {G : XG} {nL cells slots : Nat} {S : HSt} {pc : Nat} {lv : List (Nat × Value)} {rest : List Value} {cc : ByteArray} {own : String} {i : Nat}
theorem x_sval (C : Cx p s m c cc nL args own G) (hi : i < 11) {index : Nat} (hlk : Cond.fieldLink own index "java/lang/String" "value" "[B" ∈ TBL) (hdg : decode cc pc = .ok (.getfield index, 3)) (k : Wx p l e R s m args below meth c Q G nL cells slots S (pc + 3) lv (.ref (G.1.2 97 i) :: rest)) : Wx p l e R s m args below meth c Q G nL cells slots S pc lv (.ref (G.1.2 99 i) :: rest) := fun H locs ls hH hS hl =>
  vk_getf C.1 C.2.1 (C.2.2.2.2.2.2.2.1.1 i hi).2.2.1 hS C.2.2.2.1 (C.2.2.2.2.1 _ hlk) (fun _ h => h) hdg (k H locs ls hH hS hl)
theorem x_scod (C : Cx p s m c cc nL args own G) (hi : i < 11) {index : Nat} (hlk : Cond.fieldLink own index "java/lang/String" "coder" "B" ∈ TBL) (hdg : decode cc pc = .ok (.getfield index, 3)) (k : Wx p l e R s m args below meth c Q G nL cells slots S (pc + 3) lv (.int 0 :: rest)) : Wx p l e R s m args below meth c Q G nL cells slots S pc lv (.ref (G.1.2 99 i) :: rest) := fun H locs ls hH hS hl =>
  vk_getf C.1 C.2.1 (C.2.2.2.2.2.2.2.1.1 i hi).2.1 hS C.2.2.2.1 (C.2.2.2.2.1 _ hlk) (fun _ h => h) hdg (k H locs ls hH hS hl)
theorem x_blen (C : Cx p s m c cc nL args own G) (hi : i < 11) (hdg : decode cc pc = .ok (.arraylength, 1)) (k : Wx p l e R s m args below meth c Q G nL cells slots S (pc + 1) lv (.int (nI (litL.getD i 0)) :: rest)) : Wx p l e R s m args below meth c Q G nL cells slots S pc lv (.ref (G.1.2 97 i) :: rest) := fun H locs ls hH hS hl => by
  obtain ⟨scr, h1, h2, h3, h4, h5, h6, h7⟩ := (C.2.2.2.2.2.2.2.1.1 i hi).2.2.2
  exact W.alen (n := nI (litL.getD i 0)) C.1 C.2.1 (by rw [hS.2.1 _ (Array.getElem?_eq_some_iff.mp h1).1 h7]; exact h1) h2 h5 rfl rfl hdg (k H locs ls hH hS hl)
theorem x_bld (C : Cx p s m c cc nL args own G) (hi : i < 11) {j : Int32} (hin : vp_in j (litL.getD i 0)) (hdg : decode cc pc = .ok (.baload, 1)) (k : Wx p l e R s m args below meth c Q G nL cells slots S (pc + 1) lv (.int ((litB.getD i []).getD j.toNatClampNeg 0) :: rest)) : Wx p l e R s m args below meth c Q G nL cells slots S pc lv (.int j :: .ref (G.1.2 97 i) :: rest) := fun H locs ls hH hS hl => by
  obtain ⟨scr, h1, h2, h3, h4, h5, h6, h7⟩ := (C.2.2.2.2.2.2.2.1.1 i hi).2.2.2
  have hlt : j.toNatClampNeg < litL.getD i 0 := Nat.not_le.mp fun q => hin (Or.inr q)
  exact W.bald (v := .int ((litB.getD i []).getD j.toNatClampNeg 0)) C.1 C.2.1 (by rw [hS.2.1 _ (Array.getElem?_eq_some_iff.mp h1).1 h7]; exact h1) h2 h3 (fun z => z.elim (fun q => hin (Or.inl q)) (fun q => by omega)) (h6 _ hlt) rfl rfl hdg (k H locs ls hH hS hl)
theorem x_cstr (C : Cx p s m c cc nL args own G) {index : Nat} (hlk : Cond.fieldLink own index "java/lang/String" "COMPACT_STRINGS" "Z" ∈ TBL) (hdg : decode cc pc = .ok (.getstatic index, 3)) (k : Wx p l e R s m args below meth c Q G nL cells slots S (pc + 3) lv (.int 1 :: rest)) : Wx p l e R s m args below meth c Q G nL cells slots S pc lv rest := fun H locs ls hH hS hl =>
  va_gets C.1 C.2.1 C.2.2.2.2.2.2.2.2.1 hS C.2.2.2.1 (C.2.2.2.2.1 _ hlk) (fun _ h => h) hdg (k H locs ls hH hS hl)
theorem x_fmt (C : Cx p s m c cc nL args own G) {index : Nat} (hlk : Cond.fieldLink own index "jdk/internal/util/Preconditions" "SIOOBE_FORMATTER" "Ljava/util/function/BiFunction;" ∈ TBL) (hdg : decode cc pc = .ok (.getstatic index, 3)) (k : ∀ r : Option Nat, Wx p l e R s m args below meth c Q G nL cells slots S (pc + 3) lv (va_rf r :: rest)) : Wx p l e R s m args below meth c Q G nL cells slots S pc lv rest := fun H locs ls hH hS hl => by
  obtain ⟨r, hr⟩ := C.2.2.2.2.2.2.2.2.2.1
  exact va_gets C.1 C.2.1 hr hS C.2.2.2.1 (C.2.2.2.2.1 _ hlk) (fun _ h => h) hdg (k r H locs ls hH hS hl)
theorem x_ishr (C : Cx p s m c cc nL args own G) {x y : Int32} (hdg : decode cc pc = .ok (.ishr, 1)) (k : Wx p l e R s m args below meth c Q G nL cells slots S (pc + 1) lv (.int (x >>> (y &&& 31)) :: rest)) : Wx p l e R s m args below meth c Q G nL cells slots S pc lv (.int y :: .int x :: rest) := fun H locs ls hH hS hl => lv_ishr C.1 C.2.1 hdg (k H locs ls hH hS hl)
theorem x_i2c (C : Cx p s m c cc nL args own G) {x : Int32} (hdg : decode cc pc = .ok (.i2c, 1)) (k : Wx p l e R s m args below meth c Q G nL cells slots S (pc + 1) lv (.int (x.toUInt32 % 65536).toInt32 :: rest)) : Wx p l e R s m args below meth c Q G nL cells slots S pc lv (.int x :: rest) := fun H locs ls hH hS hl => lv_i2c C.1 C.2.1 hdg rfl (k H locs ls hH hS hl)
theorem x_callVsi {y : MethodName} {b : ByteArray} {n na : Nat} {ret : Option FieldType} {lev mc ms lev0 mc0 ms0 : Nat} {index : Nat} (C : Cx p s m c cc nL args own G) {Post : Int32 → HSt → Prop} (As rest : List Value) {st : List Value} (hi : i < 11) (M : MeR y b n ret na) (hcl : y.cls = "java/lang/String") (hin : Cond.instanceMethod y ∈ TBL) (hsel : Cond.selects "java/lang/String" y y ∈ TBL) (hlk : Cond.methodLink own index y ∈ TBL) (hM : Mx l y b n ret lev mc ms G vI (.ref (G.1.2 99 i) :: As) S Post) (hna : As.length = na) (hrest : (rest.map fun v => v.category).sum ≤ 8) (hdg : decode cc pc = .ok (.invokevirtual index, 3)) (hlev : lev + 1 ≤ lev0) (hmc : cells + mc ≤ mc0) (hms : slots + ms ≤ ms0) (hst0 : st = As.reverse ++ .ref (G.1.2 99 i) :: rest)
    (kk : ∀ (r : Int32) (S' : HSt), Post r S' → Wx p l e (rmL lev0 mc0 ms0) s m args below meth c Q G nL (cells + mc) (slots + ms) S' (pc + 3) lv (.int r :: rest)) : Wx p l e (rmL lev0 mc0 ms0) s m args below meth c Q G nL cells slots S pc lv st := by
  subst hst0
  intro H locs ls hH hS hl
  obtain ⟨hcode, hini, hd1, hd2, hd3, hn⟩ := M
  have hw := Wd.of (As := .ref (G.1.2 99 i) :: As) C hH hS
  refine x_after hS hl (va_runV (As := As) (rest := rest) (nL := nL) (Ts := TBL) ⟨C.1, C.2.1, C.2.2.1, C.2.2.2.1, C.2.2.2.2.1⟩ hM (cwV (C := "java/lang/String") na C.2.2.2.2.1 (fun w hw => ?_) rfl rfl rfl ⟨hcl, hd1, hd2, hd3⟩ (rm_ok hn hlev)) ⟨hw.1, vk_recv C.2.2.2.2.2.2.2.1 hi hS, hw.2⟩ rfl hna hl.1 rfl (lv_room hrest) hdg ⟨hmc, hms⟩) kk
  have h9 : w ∈ TBL := by
    rcases List.mem_append.mp hw with h | h
    · have h := h
      simp only [List.mem_cons, List.not_mem_nil, or_false] at h
      rcases h with rfl | rfl | rfl | rfl
      · exact hlk
      · exact hin
      · exact hsel
      · rw [hcl] at hini; exact hini
    · rcases List.mem_cons.mp h with rfl | h
      · exact hcode
      · exact h
  exact ⟨h9, good_of_word (TBL_good w h9)⟩
end XS
