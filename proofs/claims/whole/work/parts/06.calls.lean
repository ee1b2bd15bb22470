section XV
variable {p : Program} {l : Launch} {e : Env} {R : Room} {s : State} {m : MethodId} {args : Array Value} {below : List Frame} {meth : Method} {c : Code} {Q : State → Prop} {G : XG} {nL cells slots : Nat} {S : HSt} {pc : Nat} {lv : List (Nat × Value)} {cc : ByteArray} {own : String}
variable {y : MethodName} {b : ByteArray} {n na : Nat} {ret : Option FieldType} {lev mc ms lev0 mc0 ms0 : Nat} {a kd index : Nat} {host : String}
theorem x_callVi (C : Cx p s m c cc nL args own G) {Post : Int32 → HSt → Prop} (As rest : List Value) {st : List Value} (M : MeR y b n ret na) (MV : MeV y kd) (hlk : Cond.methodLink own index y ∈ TBL) (hM : Mx l y b n ret lev mc ms G vI (.ref a :: As) S Post) (hk : gK S a = kd) (hna : As.length = na) (hrest : (rest.map fun v => v.category).sum ≤ 8) (hdg : decode cc pc = .ok (.invokevirtual index, 3)) (hlev : lev + 1 ≤ lev0) (hmc : cells + mc ≤ mc0) (hms : slots + ms ≤ ms0) (hst0 : st = As.reverse ++ .ref a :: rest)
    (kk : ∀ (r : Int32) (S' : HSt), Post r S' → Wx p l e (rmL lev0 mc0 ms0) s m args below meth c Q G nL (cells + mc) (slots + ms) S' (pc + 3) lv (.int r :: rest)) : Wx p l e (rmL lev0 mc0 ms0) s m args below meth c Q G nL cells slots S pc lv st := by
  subst hst0
  exact x_callV C As M MV hlk hM hk hna hrest hdg hlev hmc hms kk
theorem x_callSi (C : Cx p s m c cc nL args own G) {Post : Int32 → HSt → Prop} (As rest : List Value) {st : List Value} (M : MeR y b n ret na) (hst : Cond.static y ∈ TBL) (hlk : Cond.methodLink own index y ∈ TBL) (hM : Mx l y b n ret lev mc ms G vI (As) S Post) (hna : As.length = na) (hrest : (rest.map fun v => v.category).sum ≤ 8) (hdg : decode cc pc = .ok (.invokestatic index, 3)) (hlev : lev + 1 ≤ lev0) (hmc : cells + mc ≤ mc0) (hms : slots + ms ≤ ms0) (hst0 : st = As.reverse ++ rest)
    (kk : ∀ (r : Int32) (S' : HSt), Post r S' → Wx p l e (rmL lev0 mc0 ms0) s m args below meth c Q G nL (cells + mc) (slots + ms) S' (pc + 3) lv (.int r :: rest)) : Wx p l e (rmL lev0 mc0 ms0) s m args below meth c Q G nL cells slots S pc lv st := by
  subst hst0
  exact x_callS C As M hst hlk hM hna hrest hdg hlev hmc hms kk
theorem x_callSNi (C : Cx p s m c cc nL args own G) {Post : Int32 → HSt → Prop} (As rest : List Value) {st : List Value} (M : MeR y b n ret na) (hst : Cond.static y ∈ TBL) (hlk : (own, index, y, host) ∈ nstL) (hM : Mx l y b n ret lev mc ms G vI (As) S Post) (hna : As.length = na) (hrest : (rest.map fun v => v.category).sum ≤ 8) (hdg : decode cc pc = .ok (.invokestatic index, 3)) (hlev : lev + 1 ≤ lev0) (hmc : cells + mc ≤ mc0) (hms : slots + ms ≤ ms0) (hst0 : st = As.reverse ++ rest)
    (kk : ∀ (r : Int32) (S' : HSt), Post r S' → Wx p l e (rmL lev0 mc0 ms0) s m args below meth c Q G nL (cells + mc) (slots + ms) S' (pc + 3) lv (.int r :: rest)) : Wx p l e (rmL lev0 mc0 ms0) s m args below meth c Q G nL cells slots S pc lv st := by
  subst hst0
  exact x_callSN C As M hst hlk hM hna hrest hdg hlev hmc hms kk
theorem x_callVl (C : Cx p s m c cc nL args own G) {Post : Int64 → HSt → Prop} (As rest : List Value) {st : List Value} (M : MeR y b n ret na) (MV : MeV y kd) (hlk : Cond.methodLink own index y ∈ TBL) (hM : Mx l y b n ret lev mc ms G vL (.ref a :: As) S Post) (hk : gK S a = kd) (hna : As.length = na) (hrest : (rest.map fun v => v.category).sum ≤ 8) (hdg : decode cc pc = .ok (.invokevirtual index, 3)) (hlev : lev + 1 ≤ lev0) (hmc : cells + mc ≤ mc0) (hms : slots + ms ≤ ms0) (hst0 : st = As.reverse ++ .ref a :: rest)
    (kk : ∀ (r : Int64) (S' : HSt), Post r S' → Wx p l e (rmL lev0 mc0 ms0) s m args below meth c Q G nL (cells + mc) (slots + ms) S' (pc + 3) lv (.long r :: rest)) : Wx p l e (rmL lev0 mc0 ms0) s m args below meth c Q G nL cells slots S pc lv st := by
  subst hst0
  exact x_callV C As M MV hlk hM hk hna hrest hdg hlev hmc hms kk
theorem x_callSl (C : Cx p s m c cc nL args own G) {Post : Int64 → HSt → Prop} (As rest : List Value) {st : List Value} (M : MeR y b n ret na) (hst : Cond.static y ∈ TBL) (hlk : Cond.methodLink own index y ∈ TBL) (hM : Mx l y b n ret lev mc ms G vL (As) S Post) (hna : As.length = na) (hrest : (rest.map fun v => v.category).sum ≤ 8) (hdg : decode cc pc = .ok (.invokestatic index, 3)) (hlev : lev + 1 ≤ lev0) (hmc : cells + mc ≤ mc0) (hms : slots + ms ≤ ms0) (hst0 : st = As.reverse ++ rest)
    (kk : ∀ (r : Int64) (S' : HSt), Post r S' → Wx p l e (rmL lev0 mc0 ms0) s m args below meth c Q G nL (cells + mc) (slots + ms) S' (pc + 3) lv (.long r :: rest)) : Wx p l e (rmL lev0 mc0 ms0) s m args below meth c Q G nL cells slots S pc lv st := by
  subst hst0
  exact x_callS C As M hst hlk hM hna hrest hdg hlev hmc hms kk
theorem x_callSNl (C : Cx p s m c cc nL args own G) {Post : Int64 → HSt → Prop} (As rest : List Value) {st : List Value} (M : MeR y b n ret na) (hst : Cond.static y ∈ TBL) (hlk : (own, index, y, host) ∈ nstL) (hM : Mx l y b n ret lev mc ms G vL (As) S Post) (hna : As.length = na) (hrest : (rest.map fun v => v.category).sum ≤ 8) (hdg : decode cc pc = .ok (.invokestatic index, 3)) (hlev : lev + 1 ≤ lev0) (hmc : cells + mc ≤ mc0) (hms : slots + ms ≤ ms0) (hst0 : st = As.reverse ++ rest)
    (kk : ∀ (r : Int64) (S' : HSt), Post r S' → Wx p l e (rmL lev0 mc0 ms0) s m args below meth c Q G nL (cells + mc) (slots + ms) S' (pc + 3) lv (.long r :: rest)) : Wx p l e (rmL lev0 mc0 ms0) s m args below meth c Q G nL cells slots S pc lv st := by
  subst hst0
  exact x_callSN C As M hst hlk hM hna hrest hdg hlev hmc hms kk
theorem x_callVr (C : Cx p s m c cc nL args own G) {Post : Option Nat → HSt → Prop} (As rest : List Value) {st : List Value} (M : MeR y b n ret na) (MV : MeV y kd) (hlk : Cond.methodLink own index y ∈ TBL) (hM : Mx l y b n ret lev mc ms G vR (.ref a :: As) S Post) (hk : gK S a = kd) (hna : As.length = na) (hrest : (rest.map fun v => v.category).sum ≤ 8) (hdg : decode cc pc = .ok (.invokevirtual index, 3)) (hlev : lev + 1 ≤ lev0) (hmc : cells + mc ≤ mc0) (hms : slots + ms ≤ ms0) (hst0 : st = As.reverse ++ .ref a :: rest)
    (kk : ∀ (r : Option Nat) (S' : HSt), Post r S' → Wx p l e (rmL lev0 mc0 ms0) s m args below meth c Q G nL (cells + mc) (slots + ms) S' (pc + 3) lv (va_rf r :: rest)) : Wx p l e (rmL lev0 mc0 ms0) s m args below meth c Q G nL cells slots S pc lv st := by
  subst hst0
  exact x_callV C As M MV hlk hM hk hna hrest hdg hlev hmc hms kk
theorem x_callSr (C : Cx p s m c cc nL args own G) {Post : Option Nat → HSt → Prop} (As rest : List Value) {st : List Value} (M : MeR y b n ret na) (hst : Cond.static y ∈ TBL) (hlk : Cond.methodLink own index y ∈ TBL) (hM : Mx l y b n ret lev mc ms G vR (As) S Post) (hna : As.length = na) (hrest : (rest.map fun v => v.category).sum ≤ 8) (hdg : decode cc pc = .ok (.invokestatic index, 3)) (hlev : lev + 1 ≤ lev0) (hmc : cells + mc ≤ mc0) (hms : slots + ms ≤ ms0) (hst0 : st = As.reverse ++ rest)
    (kk : ∀ (r : Option Nat) (S' : HSt), Post r S' → Wx p l e (rmL lev0 mc0 ms0) s m args below meth c Q G nL (cells + mc) (slots + ms) S' (pc + 3) lv (va_rf r :: rest)) : Wx p l e (rmL lev0 mc0 ms0) s m args below meth c Q G nL cells slots S pc lv st := by
  subst hst0
  exact x_callS C As M hst hlk hM hna hrest hdg hlev hmc hms kk
theorem x_callSNr (C : Cx p s m c cc nL args own G) {Post : Option Nat → HSt → Prop} (As rest : List Value) {st : List Value} (M : MeR y b n ret na) (hst : Cond.static y ∈ TBL) (hlk : (own, index, y, host) ∈ nstL) (hM : Mx l y b n ret lev mc ms G vR (As) S Post) (hna : As.length = na) (hrest : (rest.map fun v => v.category).sum ≤ 8) (hdg : decode cc pc = .ok (.invokestatic index, 3)) (hlev : lev + 1 ≤ lev0) (hmc : cells + mc ≤ mc0) (hms : slots + ms ≤ ms0) (hst0 : st = As.reverse ++ rest)
    (kk : ∀ (r : Option Nat) (S' : HSt), Post r S' → Wx p l e (rmL lev0 mc0 ms0) s m args below meth c Q G nL (cells + mc) (slots + ms) S' (pc + 3) lv (va_rf r :: rest)) : Wx p l e (rmL lev0 mc0 ms0) s m args below meth c Q G nL cells slots S pc lv st := by
  subst hst0
  exact x_callSN C As M hst hlk hM hna hrest hdg hlev hmc hms kk
theorem x_callVv (C : Cx p s m c cc nL args own G) {Post : Unit → HSt → Prop} (As rest : List Value) {st : List Value} (M : MeR y b n ret na) (MV : MeV y kd) (hlk : Cond.methodLink own index y ∈ TBL) (hM : Mx l y b n ret lev mc ms G vV (.ref a :: As) S Post) (hk : gK S a = kd) (hna : As.length = na) (hrest : (rest.map fun v => v.category).sum ≤ 8) (hdg : decode cc pc = .ok (.invokevirtual index, 3)) (hlev : lev + 1 ≤ lev0) (hmc : cells + mc ≤ mc0) (hms : slots + ms ≤ ms0) (hst0 : st = As.reverse ++ .ref a :: rest)
    (kk : ∀ (r : Unit) (S' : HSt), Post r S' → Wx p l e (rmL lev0 mc0 ms0) s m args below meth c Q G nL (cells + mc) (slots + ms) S' (pc + 3) lv (rest)) : Wx p l e (rmL lev0 mc0 ms0) s m args below meth c Q G nL cells slots S pc lv st := by
  subst hst0
  exact x_callV C As M MV hlk hM hk hna hrest hdg hlev hmc hms kk
theorem x_callSv (C : Cx p s m c cc nL args own G) {Post : Unit → HSt → Prop} (As rest : List Value) {st : List Value} (M : MeR y b n ret na) (hst : Cond.static y ∈ TBL) (hlk : Cond.methodLink own index y ∈ TBL) (hM : Mx l y b n ret lev mc ms G vV (As) S Post) (hna : As.length = na) (hrest : (rest.map fun v => v.category).sum ≤ 8) (hdg : decode cc pc = .ok (.invokestatic index, 3)) (hlev : lev + 1 ≤ lev0) (hmc : cells + mc ≤ mc0) (hms : slots + ms ≤ ms0) (hst0 : st = As.reverse ++ rest)
    (kk : ∀ (r : Unit) (S' : HSt), Post r S' → Wx p l e (rmL lev0 mc0 ms0) s m args below meth c Q G nL (cells + mc) (slots + ms) S' (pc + 3) lv (rest)) : Wx p l e (rmL lev0 mc0 ms0) s m args below meth c Q G nL cells slots S pc lv st := by
  subst hst0
  exact x_callS C As M hst hlk hM hna hrest hdg hlev hmc hms kk
theorem x_callSNv (C : Cx p s m c cc nL args own G) {Post : Unit → HSt → Prop} (As rest : List Value) {st : List Value} (M : MeR y b n ret na) (hst : Cond.static y ∈ TBL) (hlk : (own, index, y, host) ∈ nstL) (hM : Mx l y b n ret lev mc ms G vV (As) S Post) (hna : As.length = na) (hrest : (rest.map fun v => v.category).sum ≤ 8) (hdg : decode cc pc = .ok (.invokestatic index, 3)) (hlev : lev + 1 ≤ lev0) (hmc : cells + mc ≤ mc0) (hms : slots + ms ≤ ms0) (hst0 : st = As.reverse ++ rest)
    (kk : ∀ (r : Unit) (S' : HSt), Post r S' → Wx p l e (rmL lev0 mc0 ms0) s m args below meth c Q G nL (cells + mc) (slots + ms) S' (pc + 3) lv (rest)) : Wx p l e (rmL lev0 mc0 ms0) s m args below meth c Q G nL cells slots S pc lv st := by
  subst hst0
  exact x_callSN C As M hst hlk hM hna hrest hdg hlev hmc hms kk
theorem x_callIx (C : Cx p s m c cc nL args own G) {Post : Unit → HSt → Prop} (As rest : List Value) {st : List Value} (M : MeR y b n none na) (hy1 : y.name = "<init>") (hin : Cond.instanceMethod y ∈ TBL) (hlk : Cond.methodLink own index y ∈ TBL) (hM : Mx l y b n none lev mc ms G vV (.ref a :: As) S Post) (hna : As.length = na) (hrest : (rest.map fun v => v.category).sum ≤ 8) (hdg : decode cc pc = .ok (.invokespecial index, 3)) (hlev : lev + 1 ≤ lev0) (hmc : cells + mc ≤ mc0) (hms : slots + ms ≤ ms0) (hst0 : st = As.reverse ++ .ref a :: rest)
    (kk : ∀ (S' : HSt), Post () S' → Wx p l e (rmL lev0 mc0 ms0) s m args below meth c Q G nL (cells + mc) (slots + ms) S' (pc + 3) lv rest) : Wx p l e (rmL lev0 mc0 ms0) s m args below meth c Q G nL cells slots S pc lv st := by
  subst hst0
  exact x_callI C As M hy1 hin hlk hM hna hrest hdg hlev hmc hms kk
theorem x_callINx (C : Cx p s m c cc nL args own G) {Post : Unit → HSt → Prop} (As rest : List Value) {st : List Value} (M : MeR y b n none na) (hy1 : y.name = "<init>") (hin : Cond.instanceMethod y ∈ TBL) (hlk : (own, index, y, host) ∈ nstL) (hM : Mx l y b n none lev mc ms G vV (.ref a :: As) S Post) (hna : As.length = na) (hrest : (rest.map fun v => v.category).sum ≤ 8) (hdg : decode cc pc = .ok (.invokespecial index, 3)) (hlev : lev + 1 ≤ lev0) (hmc : cells + mc ≤ mc0) (hms : slots + ms ≤ ms0) (hst0 : st = As.reverse ++ .ref a :: rest)
    (kk : ∀ (S' : HSt), Post () S' → Wx p l e (rmL lev0 mc0 ms0) s m args below meth c Q G nL (cells + mc) (slots + ms) S' (pc + 3) lv rest) : Wx p l e (rmL lev0 mc0 ms0) s m args below meth c Q G nL cells slots S pc lv st := by
  subst hst0
  exact x_callIN C As M hy1 hin hlk hM hna hrest hdg hlev hmc hms kk
end XV
theorem cat_i (x : Int32) : (Value.int x).category = 1 := rfl
theorem cat_l (x : Int64) : (Value.long x).category = 2 := rfl
theorem cat_r (x : Nat) : (Value.ref x).category = 1 := rfl
theorem va_rf_cat (x : Option Nat) : (va_rf x).category = 1 := by cases x <;> rfl
section XU
variable {p : Program} {l : Launch} {e : Env} {R : Room} {s : State} {m : MethodId} {args : Array Value} {below : List Frame} {meth : Method} {c : Code} {Q : State → Prop} {G : XG} {nL cells slots : Nat} {S : HSt} {pc : Nat} {lv : List (Nat × Value)} {rest : List Value} {cc : ByteArray}
theorem x_under (C : Cx p s m c cc nL args RX1 G) {index : Nat} (hlk : Cond.fieldLink RX1 index "TrampOffice$Charter" "UNDER" "[I" ∈ TBL) (hdg : decode cc pc = .ok (.getstatic index, 3)) (k : Wx p l e R s m args below meth c Q G nL cells slots S (pc + 3) lv (.ref (G.1.2 98 0) :: rest)) : Wx p l e R s m args below meth c Q G nL cells slots S pc lv rest := fun H locs ls hH hS hl =>
  va_gets C.1 C.2.1 C.2.2.2.2.2.2.2.2.2.2.1 hS C.2.2.2.1 (C.2.2.2.2.1 _ hlk) (fun _ h => h) hdg (k H locs ls hH hS hl)
theorem x_ulen {own : String} (C : Cx p s m c cc nL args own G) (hdg : decode cc pc = .ok (.arraylength, 1)) (k : Wx p l e R s m args below meth c Q G nL cells slots S (pc + 1) lv (.int 6 :: rest)) : Wx p l e R s m args below meth c Q G nL cells slots S pc lv (.ref (G.1.2 98 0) :: rest) := fun H locs ls hH hS hl => by
  obtain ⟨scr, h1, h2, h3, h4, h5, h6, h7⟩ := C.2.2.2.2.2.2.2.2.2.2.2.1
  exact W.alen (n := 6) C.1 C.2.1 (by rw [hS.2.1 _ (Array.getElem?_eq_some_iff.mp h1).1 h7]; exact h1) h2 (by rw [h5]; rfl) rfl rfl hdg (k H locs ls hH hS hl)
theorem x_uld {own : String} (C : Cx p s m c cc nL args own G) {i : Int32} (hin : vp_in i 6) (hdg : decode cc pc = .ok (.iaload, 1)) (k : Wx p l e R s m args below meth c Q G nL cells slots S (pc + 1) lv (.int (undB i.toNatClampNeg) :: rest)) : Wx p l e R s m args below meth c Q G nL cells slots S pc lv (.int i :: .ref (G.1.2 98 0) :: rest) := fun H locs ls hH hS hl => by
  obtain ⟨scr, h1, h2, h3, h4, h5, h6, h7⟩ := C.2.2.2.2.2.2.2.2.2.2.2.1
  have hlt : i.toNatClampNeg < 6 := Nat.not_le.mp fun q => hin (Or.inr q)
  exact W.iald (v := .int (undB i.toNatClampNeg)) C.1 C.2.1 (by rw [hS.2.1 _ (Array.getElem?_eq_some_iff.mp h1).1 h7]; exact h1) h2 h3 (fun z => z.elim (fun q => hin (Or.inl q)) (fun q => by omega)) (h6 _ hlt) rfl rfl hdg (k H locs ls hH hS hl)
theorem x_ldcS {own tx : String} (C : Cx p s m c cc nL args own G) {index : Nat} (i : Nat) (hi : i < 11) (h1 : litN.getD i ("", 0, "") = (own, index, tx)) (hdg : decode cc pc = .ok (.ldc index, 2)) (k : Wx p l e R s m args below meth c Q G nL cells slots S (pc + 2) lv (.ref (G.1.2 99 i) :: rest)) : Wx p l e R s m args below meth c Q G nL cells slots S pc lv rest := fun H locs ls hH hS hl => by
  have h := C.2.2.2.2.2.2.2.2.2.2.2.2.1 i hi
  rw [h1] at h
  exact va_ldcS C.1 C.2.1 C.2.2.2.1 h hdg (k H locs ls hH hS hl)
end XU
