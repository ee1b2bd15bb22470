/-! A PART OF THE HEAP AS A VALUE: the kind of each address (0: none of it), int fields, long fields, references, lengths, int rows, reference rows -/
abbrev HSt : Type := (Nat → Nat) × (Nat → Nat → Int32) × (Nat → Nat → Int64) × (Nat → Nat → Option Nat) × (Nat → Nat) × (Nat → Nat → Nat → Int32) × (Nat → Nat → Nat → Option Nat)
def gK (S : HSt) (a : Nat) : Nat := S.1 a
def gI (S : HSt) (f a : Nat) : Int32 := S.2.1 f a
def gJ (S : HSt) (f a : Nat) : Int64 := S.2.2.1 f a
def gR (S : HSt) (f a : Nat) : Option Nat := S.2.2.2.1 f a
def gN (S : HSt) (a : Nat) : Nat := S.2.2.2.2.1 a
def gA (S : HSt) (k a : Nat) : Nat → Int32 := S.2.2.2.2.2.1 k a
def gB (S : HSt) (k a : Nat) : Nat → Option Nat := S.2.2.2.2.2.2 k a
def up2 {α : Type} (g : Nat → Nat → α) (f a : Nat) (v : α) : Nat → Nat → α := fun f' a' => if f' = f ∧ a' = a then v else g f' a'
def uI (S : HSt) (f a : Nat) (v : Int32) : HSt := (S.1, up2 S.2.1 f a v, S.2.2)
def uJ (S : HSt) (f a : Nat) (v : Int64) : HSt := (S.1, S.2.1, up2 S.2.2.1 f a v, S.2.2.2)
def uR (S : HSt) (f a : Nat) (v : Option Nat) : HSt := (S.1, S.2.1, S.2.2.1, up2 S.2.2.2.1 f a v, S.2.2.2.2)
def sA (S : HSt) (k a : Nat) (g : Nat → Int32) : HSt := (S.1, S.2.1, S.2.2.1, S.2.2.2.1, S.2.2.2.2.1, up2 S.2.2.2.2.2.1 k a g, S.2.2.2.2.2.2)
def sB (S : HSt) (k a : Nat) (g : Nat → Option Nat) : HSt := (S.1, S.2.1, S.2.2.1, S.2.2.2.1, S.2.2.2.2.1, S.2.2.2.2.2.1, up2 S.2.2.2.2.2.2 k a g)
def uA (S : HSt) (k a i : Nat) (v : Int32) : HSt := sA S k a (upd (gA S k a) i v)
def uB (S : HSt) (k a i : Nat) (v : Option Nat) : HSt := sB S k a (va_up (gB S k a) i v)
def cl2 {α : Type} (g : Nat → Nat → α) (a : Nat) (v : α) : Nat → Nat → α := fun f' a' => if a' = a then v else g f' a'
def nO (S : HSt) (k a : Nat) : HSt := (va_up S.1 a k, cl2 S.2.1 a 0, cl2 S.2.2.1 a 0, cl2 S.2.2.2.1 a none, S.2.2.2.2)
def nA (S : HSt) (k a n : Nat) : HSt := (va_up S.1 a k, S.2.1, S.2.2.1, S.2.2.2.1, va_up S.2.2.2.2.1 a n, cl2 S.2.2.2.2.2.1 a (fun _ => 0), cl2 S.2.2.2.2.2.2 a (fun _ => none))
/-- a class's fields by its kind: 0 int or boolean, 1 long, 2 a reference; and the field's own number -/
def flds : Nat → List (Nat × Nat)
  | 1 => [(0, 100), (2, 101), (2, 102), (2, 103), (2, 104), (2, 105)]
  | 2 => [(0, 200), (2, 201), (0, 202), (0, 203), (2, 204), (0, 205), (0, 206), (0, 207), (0, 208)]
  | 3 => [(2, 300), (2, 301), (0, 302), (0, 303), (0, 304), (0, 305), (0, 306)]
  | 4 => [(0, 400), (0, 401), (0, 402), (2, 403)]
  | 5 => [(0, 500), (0, 501), (0, 502), (0, 503), (1, 504)]
  | 6 => [(0, 600), (2, 601), (0, 602), (2, 603), (2, 604), (0, 605), (0, 606), (0, 607)]
  | 7 => [(0, 700), (1, 701), (0, 702), (2, 703), (2, 704), (2, 705), (0, 706), (0, 707)]
  | 8 => [(0, 800), (0, 801), (2, 802)]
  | 9 => [(0, 900), (0, 901), (0, 902), (0, 903), (2, 904), (0, 905), (0, 906), (0, 907), (2, 908)]
  | 10 => [(0, 1000), (0, 1001), (0, 1002), (0, 1003), (0, 1004), (0, 1005), (2, 1006)]
  | 11 => [(0, 1100), (0, 1101), (0, 1102), (2, 1103)]
  | 12 => [(2, 1200), (2, 1201), (2, 1202), (2, 1203), (2, 1204), (2, 1205), (2, 1206), (0, 1207), (0, 1208), (0, 1209), (0, 1210), (0, 1211), (0, 1212), (2, 1213), (2, 1214), (2, 1215), (2, 1216), (2, 1217), (2, 1218)]
  | 13 => [(0, 1300), (2, 1301), (2, 1302), (2, 1303), (0, 1304), (2, 1305), (2, 1306), (2, 1307), (2, 1308), (2, 1309), (2, 1310), (2, 1311), (2, 1312), (0, 1313), (2, 1314), (2, 1315), (2, 1316), (2, 1317), (2, 1318), (2, 1319), (2, 1320), (0, 1321), (2, 1322), (2, 1323), (0, 1324), (0, 1325), (2, 1326), (2, 1327), (2, 1328), (0, 1329), (2, 1330), (2, 1331), (2, 1332), (2, 1333), (2, 1334), (2, 1335), (2, 1336), (2, 1337), (2, 1338), (2, 1339), (2, 1340), (2, 1341), (2, 1342), (0, 1343), (1, 1344), (0, 1345), (2, 1346), (2, 1347), (2, 1348), (2, 1349), (0, 1350), (0, 1351), (0, 1352), (0, 1353), (0, 1354), (0, 1355), (0, 1356), (0, 1357), (0, 1358), (2, 1359), (0, 1360), (0, 1361), (0, 1362)]
  | _ => []
def fval (i : Nat → Int32) (j : Nat → Int64) (r : Nat → Option Nat) (q : Nat × Nat) : Value := if q.1 = 0 then .int (i q.2) else if q.1 = 1 then .long (j q.2) else va_rf (r q.2)
def entL (cy : Nat → ClassId) (k : Nat) (i : Nat → Int32) (j : Nat → Int64) (r : Nat → Option Nat) (n : Nat) (A : Nat → Nat → Int32) (B : Nat → Nat → Option Nat) : va_E :=
  if k < 100 then .inr (k - 1, (flds k).map (fval i j r)) else .inl (cy (k / 100 - 1), n, if k < 400 then .inl (A k) else .inr (.inr (.inr (.inr (B k)))))
def ent (cy : Nat → ClassId) (S : HSt) (a : Nat) : va_E := entL cy (gK S a) (fun f => gI S f a) (fun f => gJ S f a) (fun f => gR S f a) (gN S a) (fun k => gA S k a) (fun k => gB S k a)
theorem ent_obj {cy : Nat → ClassId} {S : HSt} {a k : Nat} (h : gK S a = k) (hk : k < 100) : ent cy S a = .inr (k - 1, (flds k).map (fval (fun f => gI S f a) (fun f => gJ S f a) (fun f => gR S f a))) := by
  subst h; unfold ent entL; rw [if_pos hk]
theorem ent_num {cy : Nat → ClassId} {S : HSt} {a k : Nat} (h : gK S a = k) (h1 : 100 ≤ k) (h2 : k < 400) : ent cy S a = .inl (cy (k / 100 - 1), gN S a, .inl (gA S k a)) := by
  subst h; unfold ent entL; rw [if_neg (by omega), if_pos h2]
theorem ent_ref {cy : Nat → ClassId} {S : HSt} {a k : Nat} (h : gK S a = k) (h1 : 400 ≤ k) : ent cy S a = .inl (cy (k / 100 - 1), gN S a, .inr (.inr (.inr (.inr (gB S k a))))) := by
  subst h; unfold ent entL; rw [if_neg (by omega), if_neg (by omega)]
theorem up2_ne {α : Type} (g : Nat → Nat → α) (f a : Nat) (v : α) {b : Nat} (h : b ≠ a) : (fun f' => up2 g f a v f' b) = fun f' => g f' b := by
  funext f'; simp [up2, h]
theorem ent_uI {cy : Nat → ClassId} (S : HSt) (f a : Nat) (v : Int32) {b : Nat} (h : b ≠ a) : ent cy (uI S f a v) b = ent cy S b := by
  unfold ent
  rw [show (fun f' => gI (uI S f a v) f' b) = (fun f' => gI S f' b) from up2_ne S.2.1 f a v h]
  rfl
theorem ent_uJ {cy : Nat → ClassId} (S : HSt) (f a : Nat) (v : Int64) {b : Nat} (h : b ≠ a) : ent cy (uJ S f a v) b = ent cy S b := by
  unfold ent
  rw [show (fun f' => gJ (uJ S f a v) f' b) = (fun f' => gJ S f' b) from up2_ne S.2.2.1 f a v h]
  rfl
theorem ent_uR {cy : Nat → ClassId} (S : HSt) (f a : Nat) (v : Option Nat) {b : Nat} (h : b ≠ a) : ent cy (uR S f a v) b = ent cy S b := by
  unfold ent
  rw [show (fun f' => gR (uR S f a v) f' b) = (fun f' => gR S f' b) from up2_ne S.2.2.2.1 f a v h]
  rfl
theorem ent_sA {cy : Nat → ClassId} (S : HSt) (f a : Nat) (v : Nat → Int32) {b : Nat} (h : b ≠ a) : ent cy (sA S f a v) b = ent cy S b := by
  unfold ent
  rw [show (fun f' => gA (sA S f a v) f' b) = (fun f' => gA S f' b) from up2_ne S.2.2.2.2.2.1 f a v h]
  rfl
theorem ent_sB {cy : Nat → ClassId} (S : HSt) (f a : Nat) (v : Nat → Option Nat) {b : Nat} (h : b ≠ a) : ent cy (sB S f a v) b = ent cy S b := by
  unfold ent
  rw [show (fun f' => gB (sB S f a v) f' b) = (fun f' => gB S f' b) from up2_ne S.2.2.2.2.2.2 f a v h]
  rfl
theorem map_set_of {α β : Type} {l : List α} {g g' : α → β} {k : Nat} {w : β} (hk : ∀ x, l[k]? = some x → g' x = w) (ho : ∀ (j : Nat) (x : α), j ≠ k → l[j]? = some x → g' x = g x) : (l.map g).set k w = l.map g' := by
  apply List.ext_getElem?
  intro j
  rw [List.getElem?_map]
  by_cases h : j = k
  · subst h
    by_cases hl : j < (l.map g).length
    · rw [List.getElem?_set_self hl]
      have hl2 : j < l.length := by simpa using hl
      rw [List.getElem?_eq_getElem hl2]
      exact congrArg some (hk _ (List.getElem?_eq_getElem hl2)).symm
    · have hl2 : l.length ≤ j := by simpa using hl
      rw [List.getElem?_eq_none hl2, List.getElem?_eq_none (by simpa using hl2)]; rfl
  · rw [List.getElem?_set_ne (Ne.symm h), List.getElem?_map]
    cases hx : l[j]? with
    | none => rfl
    | some x => exact congrArg some (ho j x h hx).symm
/-- the words that a method needs: all that the tables say and that stays true -/
def TBL : List Cond := lw_tbl.filter goodWord
theorem TBL_in {w : Cond} (h : w ∈ lw_tbl) (g : goodWord w = true) : w ∈ TBL := List.mem_filter.mpr ⟨h, g⟩
theorem tb_t {w : Cond} (h : w ∈ tables_1) (g : goodWord w = true) : w ∈ TBL := TBL_in (List.mem_append_right _ h) g
theorem tb1 {w : Cond} (i : Nat) (h : tables_1_1[i]? = some w) (g : goodWord w = true) : w ∈ TBL := tb_t (by unfold tables_1; exact List.mem_append_left _ (List.mem_of_getElem? h)) g
theorem tb2 {w : Cond} (i : Nat) (h : tables_1_2[i]? = some w) (g : goodWord w = true) : w ∈ TBL := tb_t (by unfold tables_1; exact List.mem_append_right _ (List.mem_append_left _ (List.mem_of_getElem? h))) g
theorem tb3 {w : Cond} (i : Nat) (h : tables_1_3[i]? = some w) (g : goodWord w = true) : w ∈ TBL := tb_t (by unfold tables_1; exact List.mem_append_right _ (List.mem_append_right _ (List.mem_append_left _ (List.mem_of_getElem? h)))) g
theorem tb4 {w : Cond} (i : Nat) (h : tables_1_4[i]? = some w) (g : goodWord w = true) : w ∈ TBL := tb_t (by unfold tables_1; exact List.mem_append_right _ (List.mem_append_right _ (List.mem_append_right _ (List.mem_append_left _ (List.mem_of_getElem? h))))) g
theorem tb5 {w : Cond} (i : Nat) (h : tables_1_5[i]? = some w) (g : goodWord w = true) : w ∈ TBL := tb_t (by unfold tables_1; exact List.mem_append_right _ (List.mem_append_right _ (List.mem_append_right _ (List.mem_append_right _ (List.mem_append_left _ (List.mem_of_getElem? h)))))) g
theorem tb6 {w : Cond} (i : Nat) (h : tables_1_6[i]? = some w) (g : goodWord w = true) : w ∈ TBL := tb_t (by unfold tables_1; exact List.mem_append_right _ (List.mem_append_right _ (List.mem_append_right _ (List.mem_append_right _ (List.mem_append_right _ (List.mem_append_left _ (List.mem_of_getElem? h))))))) g
theorem tb7 {w : Cond} (i : Nat) (h : tables_1_7[i]? = some w) (g : goodWord w = true) : w ∈ TBL := tb_t (by unfold tables_1; exact List.mem_append_right _ (List.mem_append_right _ (List.mem_append_right _ (List.mem_append_right _ (List.mem_append_right _ (List.mem_append_right _ (List.mem_of_getElem? h))))))) g
theorem tb0 {y : MethodName} {q : MethodName × Nat} (hq : q ∈ lw_privs) (h : q.1 = y) : Cond.selects y.cls y y ∈ TBL := by
  subst h
  exact TBL_in (List.mem_append_left _ (List.mem_map.mpr ⟨q, hq, rfl⟩)) rfl
theorem TBL_good : ∀ w ∈ TBL, goodWord w = true := fun w h => (List.mem_filter.mp h).2
theorem TBL_lw {w : Cond} (h : w ∈ TBL) : w ∈ lw_tbl := (List.mem_filter.mp h).1
theorem TBL_G {c c' : Cond} (h : c' ∈ TBL) : GoodIn (c :: TBL) (c' :: TBL) := fun w hw => by
  have h1 : w ∈ TBL := by
    rcases List.mem_cons.mp hw with rfl | h1
    · exact h
    · exact h1
  exact ⟨List.mem_cons_of_mem _ h1, good_of_word (TBL_good w h1)⟩
theorem TBL_GL {c' : Cond} (h : c' ∈ TBL) : GoodIn TBL (c' :: TBL) := fun w hw => by
  have h1 : w ∈ TBL := by
    rcases List.mem_cons.mp hw with rfl | h1
    · exact h
    · exact h1
  exact ⟨h1, good_of_word (TBL_good w h1)⟩
/-- the surroundings of a part: where the classes lie, the array classes, the addresses that are its own -/
abbrev XG : Type := va_G × (Nat → ClassId) × (Nat → Prop)
def xtys (cy : Nat → ClassId) : List (ClassId × FieldType) := [(cy 0, .byte), (cy 1, .int), (cy 2, .boolean), (cy 3, .object RX1), (cy 4, .object RX2), (cy 5, .object RX3), (cy 6, .object RX7), (cy 7, .object RX8), (cy 8, .object RX10), (cy 9, .array .int)]
def Hq (G : XG) (S : HSt) (H : Heap) : Prop := ∃ L : List Nat, (∀ a, gK S a ≠ 0 ↔ a ∈ L) ∧ va_P G.1 vwCl (va_pl L (ent G.2.1 S)) H ∧ va_D G.2.2 (va_pl L (ent G.2.1 S))
/-- what stands in the heap beside the parts: the literals, a static row, three statics of the JDK's -/
def litN : List (String × Nat × String) := [("TrampOffice", 91, "lay sort = 1 or sort = 2 ; off sort = 4 ;"), ("TrampOffice$Reader", 106, "lay"), ("TrampOffice$Reader", 112, "off"), ("TrampOffice$Reader", 114, "or"), ("TrampOffice$Reader", 116, "and"), ("TrampOffice$Reader", 118, "not"), ("TrampOffice$Reader", 120, "sort"), ("TrampOffice$Reader", 122, "weekday"), ("TrampOffice$Reader", 124, "clock"), ("TrampOffice$Reader", 126, "hour"), ("TrampOffice$Reader", 128, "over")]
def litB : List (List Int32) := [[108, 97, 121, 32, 115, 111, 114, 116, 32, 61, 32, 49, 32, 111, 114, 32, 115, 111, 114, 116, 32, 61, 32, 50, 32, 59, 32, 111, 102, 102, 32, 115, 111, 114, 116, 32, 61, 32, 52, 32, 59], [108, 97, 121], [111, 102, 102], [111, 114], [97, 110, 100], [110, 111, 116], [115, 111, 114, 116], [119, 101, 101, 107, 100, 97, 121], [99, 108, 111, 99, 107], [104, 111, 117, 114], [111, 118, 101, 114]]
def litL : List Nat := litB.map List.length
def undB : Nat → Int32 := fun j => [-1, 0, 1, 0, 0, 0].getD j 0
def nstL : List (String × Nat × MethodName × String) := [(RX11, 50, yX4_init, "TrampOffice"), (RX11, 57, yX6_init, "TrampOffice"), (RX6, 20, yX4_init, "TrampOffice"), (RX11, 64, yX0_init, "TrampOffice"), (RX11, 71, yX5_init, "TrampOffice"), (RX11, 85, yX9_init, "TrampOffice"), (RX11, 90, yX7_init, "TrampOffice"), (RX5, 140, yX11_within, "TrampOffice"), (RX10, 25, yX11_within, "TrampOffice"), (RX8, 35, yX11_roundedUp, "TrampOffice"), (RX4, 37, yX11_roundedUp, "TrampOffice"), (RX9, 85, yX11_within, "TrampOffice"), (RX1, 54, yX11_within, "TrampOffice")]
def aoL : List String := [RX1, RX2, RX3, RX7, RX8, RX10]
/-- the classes of arrays that the constructors make -/
def AOs (s : State) : Prop := (∀ C0 ∈ aoL, va_AO C0 s) ∧ (Cond.arrayOver (.array .int)).before #[] s = true
theorem AOs.moved {u U : State} (hvm : u.vm.Alike U.vm) (h : AOs u) : AOs U := ⟨fun C0 hc => va_AO.moved hvm (h.1 C0 hc), Jvm.Stand.arrayOver_alikeB hvm h.2⟩
def Amb (G : XG) (s : State) (H : Heap) : Prop := vk_S 11 litL litB (G.1.2 99) (G.1.2 97) G.2.2 s H ∧ va_Z "java/lang/String" "COMPACT_STRINGS" "Z" (.int 1) G.2.2 s H ∧ (∃ r : Option Nat, va_Z "jdk/internal/util/Preconditions" "SIOOBE_FORMATTER" "Ljava/util/function/BiFunction;" (va_rf r) G.2.2 s H) ∧ va_Z "TrampOffice$Charter" "UNDER" "[I" (.ref (G.1.2 98 0)) G.2.2 s H ∧ va_T .int (G.1.2 98 0) 6 (fun j => .int (undB j)) G.2.2 s H ∧ (∀ i, i < 11 → vk_R (litN.getD i ("", 0, "")).1 (litN.getD i ("", 0, "")).2.1 (litN.getD i ("", 0, "")).2.2 (G.1.2 99 i) s) ∧ (∀ q ∈ nstL, va_Nw (.methodLinkNest q.1 q.2.1 q.2.2.1 q.2.2.2) s) ∧ AOs s
theorem Amb.at {G : XG} {s U : State} {H : Heap} {locs : List Loc} (h : Amb G s s.heap) (hW : s.WarmedH U.vm) (hS : va_S G.2.2 s.heap H locs) : Amb G U H := by
  obtain ⟨h1, h2, ⟨r, h3⟩, h4, h5, h6, h7, h8⟩ := h
  exact ⟨(h1.kept hS.2.1).moved hW.alike, (h2.kept hS.2.1).moved hW.alike, ⟨r, (h3.kept hS.2.1).moved hW.alike⟩, (h4.kept hS.2.1).moved hW.alike, (h5.kept hS.2.1).moved hW.alike, fun i hi => vk_R.warm hW (h6 i hi), fun q hq => va_Nw.warmM hW (h7 q hq), h8.moved hW.alike⟩
theorem Amb.same {G : XG} {s U : State} {H : Heap} (h : Amb G s H) (hv : U.vm = s.vm) : Amb G U H := by
  obtain ⟨h1, h2, ⟨r, h3⟩, h4, h5, h6, h7, h8⟩ := h
  have ha : s.vm.Alike U.vm := by rw [hv]; exact Vm.Alike.refl _
  exact ⟨h1.moved ha, h2.moved ha, ⟨r, h3.moved ha⟩, h4.moved ha, h5.moved ha, fun i hi => vk_R.same hv (h6 i hi), fun q hq => va_Nw.same rfl hv.symm (h7 q hq), h8.moved ha⟩
def Cx (p : Program) (s : State) (m : MethodId) (c : Code) (cc : ByteArray) (nL : Nat) (args : Array Value) (own : String) (G : XG) : Prop :=
  p.tables.exec = Jvm.exec ∧ c.code = cc ∧ c.maxLocals = nL ∧ s.vm.findClass own = some m.cls ∧ (∀ w ∈ TBL, w.before args s = true) ∧ va_K G.1 vwCl (xtys G.2.1) s ∧ (∀ q, s.heap.size ≤ q → G.2.2 q) ∧ Amb G s s.heap
def Wx (p : Program) (l : Launch) (e : Env) (R : Room) (s : State) (m : MethodId) (args : Array Value) (below : List Frame) (meth : Method) (c : Code) (Q : State → Prop) (G : XG) (nL cells slots : Nat) (S : HSt) (pc : Nat) (lv : List (Nat × Value)) (st : List Value) : Prop :=
  ∀ (H : Heap) (locs : List Loc) (ls : Array Slot), Hq G S H → va_S G.2.2 s.heap H locs → lv_has ls nL lv → W p l e R s m args below meth c H locs cells slots Q (F0 m pc ls st)
section XR
variable {p : Program} {l : Launch} {e : Env} {R : Room} {s : State} {m : MethodId} {args : Array Value} {below : List Frame} {meth : Method} {c : Code} {Q : State → Prop} {G : XG} {nL cells slots : Nat} {S : HSt} {pc pc' : Nat} {lv : List (Nat × Value)} {rest : List Value} {cc : ByteArray} {own : String}
theorem x_iconst (C : Cx p s m c cc nL args own G) {n : Int} (v : Int32) (hdg : decode cc pc = .ok (.iconst n, 1)) (hv : Int32.ofInt n = v) (k : Wx p l e R s m args below meth c Q G nL cells slots S (pc + 1) lv (.int v :: rest)) : Wx p l e R s m args below meth c Q G nL cells slots S pc lv rest := fun H locs ls hH hS hl => lv_iconst C.1 C.2.1 hdg hv (k H locs ls hH hS hl)
theorem x_bipush (C : Cx p s m c cc nL args own G) {n : Int} (v : Int32) (hdg : decode cc pc = .ok (.bipush n, 2)) (hv : (Int8.ofInt n).toInt32 = v) (k : Wx p l e R s m args below meth c Q G nL cells slots S (pc + 2) lv (.int v :: rest)) : Wx p l e R s m args below meth c Q G nL cells slots S pc lv rest := fun H locs ls hH hS hl => lv_bipush C.1 C.2.1 hdg hv (k H locs ls hH hS hl)
theorem x_sipush (C : Cx p s m c cc nL args own G) {n : Int} (v : Int32) (hdg : decode cc pc = .ok (.sipush n, 3)) (hv : (Int16.ofInt n).toInt32 = v) (k : Wx p l e R s m args below meth c Q G nL cells slots S (pc + 3) lv (.int v :: rest)) : Wx p l e R s m args below meth c Q G nL cells slots S pc lv rest := fun H locs ls hH hS hl => lv_sipush C.1 C.2.1 hdg hv (k H locs ls hH hS hl)
theorem x_lconst (C : Cx p s m c cc nL args own G) {n : Fin 2} (v : Int64) (hdg : decode cc pc = .ok (.lconst n, 1)) (hv : Int64.ofNat (n : Nat) = v) (k : Wx p l e R s m args below meth c Q G nL cells slots S (pc + 1) lv (.long v :: rest)) : Wx p l e R s m args below meth c Q G nL cells slots S pc lv rest := fun H locs ls hH hS hl => lv_lconst C.1 C.2.1 hdg hv (k H locs ls hH hS hl)
theorem x_ldc (C : Cx p s m c cc nL args own G) {index : Nat} (v : Int32) (hdg : decode cc pc = .ok (.ldc index, 2)) (hw : Cond.constant own index v ∈ TBL) (k : Wx p l e R s m args below meth c Q G nL cells slots S (pc + 2) lv (.int v :: rest)) : Wx p l e R s m args below meth c Q G nL cells slots S pc lv rest := fun H locs ls hH hS hl => lv_ldc C.1 C.2.1 C.2.2.2.1 (C.2.2.2.2.1 _ hw) hdg (k H locs ls hH hS hl)
theorem x_ldc2 (C : Cx p s m c cc nL args own G) {index : Nat} (v : Int64) (hdg : decode cc pc = .ok (.ldc2_w index, 3)) (hw : Cond.constantLong own index v ∈ TBL) (k : Wx p l e R s m args below meth c Q G nL cells slots S (pc + 3) lv (.long v :: rest)) : Wx p l e R s m args below meth c Q G nL cells slots S pc lv rest := fun H locs ls hH hS hl => lv_ldc2 C.1 C.2.1 C.2.2.2.1 (C.2.2.2.2.1 _ hw) hdg (k H locs ls hH hS hl)
theorem x_null (C : Cx p s m c cc nL args own G) (hdg : decode cc pc = .ok (.aconst_null, 1)) (k : Wx p l e R s m args below meth c Q G nL cells slots S (pc + 1) lv (.null :: rest)) : Wx p l e R s m args below meth c Q G nL cells slots S pc lv rest := fun H locs ls hH hS hl => lv_null C.1 C.2.1 hdg (k H locs ls hH hS hl)
theorem x_iload_n (C : Cx p s m c cc nL args own G) {k : Fin 4} {i : Nat} {x : Int32} (j : Nat) (hj : lv[j]? = some (i, .int x)) (hdg : decode cc pc = .ok (.iload_n k, 1)) (hi : (k : Nat) = i) (kk : Wx p l e R s m args below meth c Q G nL cells slots S (pc + 1) lv (.int x :: rest)) : Wx p l e R s m args below meth c Q G nL cells slots S pc lv rest := fun H locs ls hH hS hl => lv_iload_n C.1 C.2.1 hdg hi (lv_at hl j hj) (kk H locs ls hH hS hl)
theorem x_iload (C : Cx p s m c cc nL args own G) {i : Nat} {x : Int32} (j : Nat) (hj : lv[j]? = some (i, .int x)) (hdg : decode cc pc = .ok (.iload i, 2)) (kk : Wx p l e R s m args below meth c Q G nL cells slots S (pc + 2) lv (.int x :: rest)) : Wx p l e R s m args below meth c Q G nL cells slots S pc lv rest := fun H locs ls hH hS hl => lv_iload C.1 C.2.1 hdg (lv_at hl j hj) (kk H locs ls hH hS hl)
theorem x_lload_n (C : Cx p s m c cc nL args own G) {k : Fin 4} {i : Nat} {x : Int64} (j : Nat) (hj : lv[j]? = some (i, .long x)) (hdg : decode cc pc = .ok (.lload_n k, 1)) (hi : (k : Nat) = i) (kk : Wx p l e R s m args below meth c Q G nL cells slots S (pc + 1) lv (.long x :: rest)) : Wx p l e R s m args below meth c Q G nL cells slots S pc lv rest := fun H locs ls hH hS hl => lv_lload_n C.1 C.2.1 hdg hi (lv_at hl j hj) (kk H locs ls hH hS hl)
theorem x_lload (C : Cx p s m c cc nL args own G) {i : Nat} {x : Int64} (j : Nat) (hj : lv[j]? = some (i, .long x)) (hdg : decode cc pc = .ok (.lload i, 2)) (kk : Wx p l e R s m args below meth c Q G nL cells slots S (pc + 2) lv (.long x :: rest)) : Wx p l e R s m args below meth c Q G nL cells slots S pc lv rest := fun H locs ls hH hS hl => lv_lload C.1 C.2.1 hdg (lv_at hl j hj) (kk H locs ls hH hS hl)
theorem lq_aload_n {H : Heap} {locs : List Loc} {ls : Array Slot} (hexec : p.tables.exec = Jvm.exec) (hb : c.code = cc) {k : Fin 4} {i : Nat} {x : Option Nat} (hdg : decode cc pc = .ok (.aload_n k, 1)) (hi : (k : Nat) = i) (hl : ls[i]? = some (.val (va_rf x))) (kk : W p l e R s m args below meth c H locs cells slots Q (F0 m (pc + 1) ls (va_rf x :: rest))) : W p l e R s m args below meth c H locs cells slots Q (F0 m pc ls rest) := by
  subst hi
  intro T hT X
  obtain ⟨t, a, b⟩ := kk T hT X
  refine ⟨t, ?_, b⟩
  cases x with
  | none => jvm_step X.here [X.here.top, hexec, hb, hdg, hl, va_rf, Value.isRef]; exact a
  | some x => jvm_step X.here [X.here.top, hexec, hb, hdg, hl, va_rf, Value.isRef]; exact a
theorem lq_aload {H : Heap} {locs : List Loc} {ls : Array Slot} (hexec : p.tables.exec = Jvm.exec) (hb : c.code = cc) {i : Nat} {x : Option Nat} (hdg : decode cc pc = .ok (.aload i, 2)) (hl : ls[i]? = some (.val (va_rf x))) (kk : W p l e R s m args below meth c H locs cells slots Q (F0 m (pc + 2) ls (va_rf x :: rest))) : W p l e R s m args below meth c H locs cells slots Q (F0 m pc ls rest) := by
  intro T hT X
  obtain ⟨t, a, b⟩ := kk T hT X
  refine ⟨t, ?_, b⟩
  cases x with
  | none => jvm_step X.here [X.here.top, hexec, hb, hdg, hl, va_rf, Value.isRef]; exact a
  | some x => jvm_step X.here [X.here.top, hexec, hb, hdg, hl, va_rf, Value.isRef]; exact a
theorem x_aload_n (C : Cx p s m c cc nL args own G) {k : Fin 4} {i : Nat} {x : Nat} (j : Nat) (hj : lv[j]? = some (i, .ref x)) (hdg : decode cc pc = .ok (.aload_n k, 1)) (hi : (k : Nat) = i) (kk : Wx p l e R s m args below meth c Q G nL cells slots S (pc + 1) lv (.ref x :: rest)) : Wx p l e R s m args below meth c Q G nL cells slots S pc lv rest := fun H locs ls hH hS hl => lv_aload_n C.1 C.2.1 hdg hi (lv_at hl j hj) (kk H locs ls hH hS hl)
theorem x_aload (C : Cx p s m c cc nL args own G) {i : Nat} {x : Nat} (j : Nat) (hj : lv[j]? = some (i, .ref x)) (hdg : decode cc pc = .ok (.aload i, 2)) (kk : Wx p l e R s m args below meth c Q G nL cells slots S (pc + 2) lv (.ref x :: rest)) : Wx p l e R s m args below meth c Q G nL cells slots S pc lv rest := fun H locs ls hH hS hl => lv_aload C.1 C.2.1 hdg (lv_at hl j hj) (kk H locs ls hH hS hl)
theorem x_aload_nq (C : Cx p s m c cc nL args own G) {k : Fin 4} {i : Nat} {x : Option Nat} (j : Nat) (hj : lv[j]? = some (i, va_rf x)) (hdg : decode cc pc = .ok (.aload_n k, 1)) (hi : (k : Nat) = i) (kk : Wx p l e R s m args below meth c Q G nL cells slots S (pc + 1) lv (va_rf x :: rest)) : Wx p l e R s m args below meth c Q G nL cells slots S pc lv rest := fun H locs ls hH hS hl => lq_aload_n C.1 C.2.1 hdg hi (lv_at hl j hj) (kk H locs ls hH hS hl)
theorem x_aload_q (C : Cx p s m c cc nL args own G) {i : Nat} {x : Option Nat} (j : Nat) (hj : lv[j]? = some (i, va_rf x)) (hdg : decode cc pc = .ok (.aload i, 2)) (kk : Wx p l e R s m args below meth c Q G nL cells slots S (pc + 2) lv (va_rf x :: rest)) : Wx p l e R s m args below meth c Q G nL cells slots S pc lv rest := fun H locs ls hH hS hl => lq_aload C.1 C.2.1 hdg (lv_at hl j hj) (kk H locs ls hH hS hl)
theorem x_istore_n (C : Cx p s m c cc nL args own G) {k : Fin 4} {i : Nat} {x : Int32} (lv' : List (Nat × Value)) (hdg : decode cc pc = .ok (.istore_n k, 1)) (hi : (k : Nat) = i) (hn : i < nL) (hl' : (i, Value.int x) :: lv.filter (fun q => !(q.1 == i) && !(q.1 + 1 == i && q.2.category == 2)) = lv') (kk : Wx p l e R s m args below meth c Q G nL cells slots S (pc + 1) lv' rest) : Wx p l e R s m args below meth c Q G nL cells slots S pc lv (.int x :: rest) := fun H locs ls hH hS hl => lv_istore_n C.1 C.2.1 hdg hi hl hn hl' (fun ls hl => kk H locs ls hH hS hl)
theorem x_istore (C : Cx p s m c cc nL args own G) {i : Nat} {x : Int32} (lv' : List (Nat × Value)) (hdg : decode cc pc = .ok (.istore i, 2)) (hn : i < nL) (hl' : (i, Value.int x) :: lv.filter (fun q => !(q.1 == i) && !(q.1 + 1 == i && q.2.category == 2)) = lv') (kk : Wx p l e R s m args below meth c Q G nL cells slots S (pc + 2) lv' rest) : Wx p l e R s m args below meth c Q G nL cells slots S pc lv (.int x :: rest) := fun H locs ls hH hS hl => lv_istore C.1 C.2.1 hdg hl hn hl' (fun ls hl => kk H locs ls hH hS hl)
theorem x_lstore_n (C : Cx p s m c cc nL args own G) {k : Fin 4} {i : Nat} {x : Int64} (lv' : List (Nat × Value)) (hdg : decode cc pc = .ok (.lstore_n k, 1)) (hi : (k : Nat) = i) (hn : i + 1 < nL) (hl' : (i, Value.long x) :: lv.filter (fun q => !(q.1 == i) && (!(q.1 == i + 1) && !(q.1 + 1 == i && q.2.category == 2))) = lv') (kk : Wx p l e R s m args below meth c Q G nL cells slots S (pc + 1) lv' rest) : Wx p l e R s m args below meth c Q G nL cells slots S pc lv (.long x :: rest) := fun H locs ls hH hS hl => lv_lstore_n C.1 C.2.1 hdg hi hl hn hl' (fun ls hl => kk H locs ls hH hS hl)
theorem x_lstore (C : Cx p s m c cc nL args own G) {i : Nat} {x : Int64} (lv' : List (Nat × Value)) (hdg : decode cc pc = .ok (.lstore i, 2)) (hn : i + 1 < nL) (hl' : (i, Value.long x) :: lv.filter (fun q => !(q.1 == i) && (!(q.1 == i + 1) && !(q.1 + 1 == i && q.2.category == 2))) = lv') (kk : Wx p l e R s m args below meth c Q G nL cells slots S (pc + 2) lv' rest) : Wx p l e R s m args below meth c Q G nL cells slots S pc lv (.long x :: rest) := fun H locs ls hH hS hl => lv_lstore C.1 C.2.1 hdg hl hn hl' (fun ls hl => kk H locs ls hH hS hl)
theorem x_astore_n (C : Cx p s m c cc nL args own G) {k : Fin 4} {i : Nat} {x : Nat} (lv' : List (Nat × Value)) (hdg : decode cc pc = .ok (.astore_n k, 1)) (hi : (k : Nat) = i) (hn : i < nL) (hl' : (i, Value.ref x) :: lv.filter (fun q => !(q.1 == i) && !(q.1 + 1 == i && q.2.category == 2)) = lv') (kk : Wx p l e R s m args below meth c Q G nL cells slots S (pc + 1) lv' rest) : Wx p l e R s m args below meth c Q G nL cells slots S pc lv (.ref x :: rest) := fun H locs ls hH hS hl => lv_astore_n C.1 C.2.1 hdg hi hl hn hl' (fun ls hl => kk H locs ls hH hS hl)
theorem x_astore (C : Cx p s m c cc nL args own G) {i : Nat} {x : Nat} (lv' : List (Nat × Value)) (hdg : decode cc pc = .ok (.astore i, 2)) (hn : i < nL) (hl' : (i, Value.ref x) :: lv.filter (fun q => !(q.1 == i) && !(q.1 + 1 == i && q.2.category == 2)) = lv') (kk : Wx p l e R s m args below meth c Q G nL cells slots S (pc + 2) lv' rest) : Wx p l e R s m args below meth c Q G nL cells slots S pc lv (.ref x :: rest) := fun H locs ls hH hS hl => lv_astore C.1 C.2.1 hdg hl hn hl' (fun ls hl => kk H locs ls hH hS hl)
theorem lq_astore {H : Heap} {locs : List Loc} {ls : Array Slot} (hexec : p.tables.exec = Jvm.exec) (hb : c.code = cc) {i nL : Nat} {x : Option Nat} {lv lv' : List (Nat × Value)} (hdg : decode cc pc = .ok (.astore i, 2)) (h : lv_has ls nL lv) (hn : i < nL) (hl : (i, va_rf x) :: lv.filter (fun q => !(q.1 == i) && !(q.1 + 1 == i && q.2.category == 2)) = lv') (kk : ∀ ls' : Array Slot, lv_has ls' nL lv' → W p l e R s m args below meth c H locs cells slots Q (F0 m (pc + 2) ls' rest)) : W p l e R s m args below meth c H locs cells slots Q (F0 m pc ls (va_rf x :: rest)) := by
  cases x with
  | some x => exact lv_astore hexec hb hdg h hn hl kk
  | none =>
    obtain ⟨ls', e', h'⟩ := lv_store1 (v := .null) h hn rfl
    intro T hT X
    obtain ⟨t, a, b⟩ := kk ls' (hl ▸ h') T hT X
    refine ⟨t, ?_, b⟩
    jvm_step X.here [X.here.top, ↓top_set X.here.top, hexec, hb, hdg, e', va_rf, Value.isRef]
    exact a
theorem lq_astore_n {H : Heap} {locs : List Loc} {ls : Array Slot} (hexec : p.tables.exec = Jvm.exec) (hb : c.code = cc) {k : Fin 4} {i nL : Nat} {x : Option Nat} {lv lv' : List (Nat × Value)} (hdg : decode cc pc = .ok (.astore_n k, 1)) (hi : (k : Nat) = i) (h : lv_has ls nL lv) (hn : i < nL) (hl : (i, va_rf x) :: lv.filter (fun q => !(q.1 == i) && !(q.1 + 1 == i && q.2.category == 2)) = lv') (kk : ∀ ls' : Array Slot, lv_has ls' nL lv' → W p l e R s m args below meth c H locs cells slots Q (F0 m (pc + 1) ls' rest)) : W p l e R s m args below meth c H locs cells slots Q (F0 m pc ls (va_rf x :: rest)) := by
  cases x with
  | some x => exact lv_astore_n hexec hb hdg hi h hn hl kk
  | none =>
    subst hi
    obtain ⟨ls', e', h'⟩ := lv_store1 (v := .null) h hn rfl
    intro T hT X
    obtain ⟨t, a, b⟩ := kk ls' (hl ▸ h') T hT X
    refine ⟨t, ?_, b⟩
    jvm_step X.here [X.here.top, ↓top_set X.here.top, hexec, hb, hdg, e', va_rf, Value.isRef]
    exact a
theorem x_astore_nq (C : Cx p s m c cc nL args own G) {k : Fin 4} {i : Nat} {x : Option Nat} (lv' : List (Nat × Value)) (hdg : decode cc pc = .ok (.astore_n k, 1)) (hi : (k : Nat) = i) (hn : i < nL) (hl' : (i, va_rf x) :: lv.filter (fun q => !(q.1 == i) && !(q.1 + 1 == i && q.2.category == 2)) = lv') (kk : Wx p l e R s m args below meth c Q G nL cells slots S (pc + 1) lv' rest) : Wx p l e R s m args below meth c Q G nL cells slots S pc lv (va_rf x :: rest) := fun H locs ls hH hS hl => lq_astore_n C.1 C.2.1 hdg hi hl hn hl' (fun ls hl => kk H locs ls hH hS hl)
theorem x_astore_q (C : Cx p s m c cc nL args own G) {i : Nat} {x : Option Nat} (lv' : List (Nat × Value)) (hdg : decode cc pc = .ok (.astore i, 2)) (hn : i < nL) (hl' : (i, va_rf x) :: lv.filter (fun q => !(q.1 == i) && !(q.1 + 1 == i && q.2.category == 2)) = lv') (kk : Wx p l e R s m args below meth c Q G nL cells slots S (pc + 2) lv' rest) : Wx p l e R s m args below meth c Q G nL cells slots S pc lv (va_rf x :: rest) := fun H locs ls hH hS hl => lq_astore C.1 C.2.1 hdg hl hn hl' (fun ls hl => kk H locs ls hH hS hl)
theorem x_iinc (C : Cx p s m c cc nL args own G) {i : Nat} {n : Int} {x : Int32} (v : Int32) (j : Nat) (hj : lv[j]? = some (i, .int x)) (lv' : List (Nat × Value)) (hdg : decode cc pc = .ok (.iinc i n, 3)) (hv : x + Int32.ofInt n = v) (hn : i < nL) (hl' : (i, Value.int v) :: lv.filter (fun q => !(q.1 == i) && !(q.1 + 1 == i && q.2.category == 2)) = lv') (kk : Wx p l e R s m args below meth c Q G nL cells slots S (pc + 3) lv' rest) : Wx p l e R s m args below meth c Q G nL cells slots S pc lv rest := fun H locs ls hH hS hl => lv_iinc C.1 C.2.1 hdg hl hj hv hn hl' (fun ls hl => kk H locs ls hH hS hl)
theorem x_iadd (C : Cx p s m c cc nL args own G) {x y : Int32} (hdg : decode cc pc = .ok (.iadd, 1)) (k : Wx p l e R s m args below meth c Q G nL cells slots S (pc + 1) lv (.int (x + y) :: rest)) : Wx p l e R s m args below meth c Q G nL cells slots S pc lv (.int y :: .int x :: rest) := fun H locs ls hH hS hl => lv_iadd C.1 C.2.1 hdg (k H locs ls hH hS hl)
theorem x_isub (C : Cx p s m c cc nL args own G) {x y : Int32} (hdg : decode cc pc = .ok (.isub, 1)) (k : Wx p l e R s m args below meth c Q G nL cells slots S (pc + 1) lv (.int (x - y) :: rest)) : Wx p l e R s m args below meth c Q G nL cells slots S pc lv (.int y :: .int x :: rest) := fun H locs ls hH hS hl => lv_isub C.1 C.2.1 hdg (k H locs ls hH hS hl)
theorem x_imul (C : Cx p s m c cc nL args own G) {x y : Int32} (hdg : decode cc pc = .ok (.imul, 1)) (k : Wx p l e R s m args below meth c Q G nL cells slots S (pc + 1) lv (.int (x * y) :: rest)) : Wx p l e R s m args below meth c Q G nL cells slots S pc lv (.int y :: .int x :: rest) := fun H locs ls hH hS hl => lv_imul C.1 C.2.1 hdg (k H locs ls hH hS hl)
theorem x_iand (C : Cx p s m c cc nL args own G) {x y : Int32} (hdg : decode cc pc = .ok (.iand, 1)) (k : Wx p l e R s m args below meth c Q G nL cells slots S (pc + 1) lv (.int (x &&& y) :: rest)) : Wx p l e R s m args below meth c Q G nL cells slots S pc lv (.int y :: .int x :: rest) := fun H locs ls hH hS hl => lv_iand C.1 C.2.1 hdg (k H locs ls hH hS hl)
theorem x_ior (C : Cx p s m c cc nL args own G) {x y : Int32} (hdg : decode cc pc = .ok (.ior, 1)) (k : Wx p l e R s m args below meth c Q G nL cells slots S (pc + 1) lv (.int (x ||| y) :: rest)) : Wx p l e R s m args below meth c Q G nL cells slots S pc lv (.int y :: .int x :: rest) := fun H locs ls hH hS hl => lv_ior C.1 C.2.1 hdg (k H locs ls hH hS hl)
theorem x_idiv (C : Cx p s m c cc nL args own G) {x y : Int32} (hdg : decode cc pc = .ok (.idiv, 1)) (hne : ¬ y = 0) (k : Wx p l e R s m args below meth c Q G nL cells slots S (pc + 1) lv (.int (x / y) :: rest)) : Wx p l e R s m args below meth c Q G nL cells slots S pc lv (.int y :: .int x :: rest) := fun H locs ls hH hS hl => lv_idiv C.1 C.2.1 hdg hne (k H locs ls hH hS hl)
theorem x_irem (C : Cx p s m c cc nL args own G) {x y : Int32} (hdg : decode cc pc = .ok (.irem, 1)) (hne : ¬ y = 0) (k : Wx p l e R s m args below meth c Q G nL cells slots S (pc + 1) lv (.int (x - x / y * y) :: rest)) : Wx p l e R s m args below meth c Q G nL cells slots S pc lv (.int y :: .int x :: rest) := fun H locs ls hH hS hl => lv_irem C.1 C.2.1 hdg hne (k H locs ls hH hS hl)
theorem x_ladd (C : Cx p s m c cc nL args own G) {x y : Int64} (hdg : decode cc pc = .ok (.ladd, 1)) (k : Wx p l e R s m args below meth c Q G nL cells slots S (pc + 1) lv (.long (x + y) :: rest)) : Wx p l e R s m args below meth c Q G nL cells slots S pc lv (.long y :: .long x :: rest) := fun H locs ls hH hS hl => lv_ladd C.1 C.2.1 hdg (k H locs ls hH hS hl)
theorem x_lsub (C : Cx p s m c cc nL args own G) {x y : Int64} (hdg : decode cc pc = .ok (.lsub, 1)) (k : Wx p l e R s m args below meth c Q G nL cells slots S (pc + 1) lv (.long (x - y) :: rest)) : Wx p l e R s m args below meth c Q G nL cells slots S pc lv (.long y :: .long x :: rest) := fun H locs ls hH hS hl => lv_lsub C.1 C.2.1 hdg (k H locs ls hH hS hl)
theorem x_lmul (C : Cx p s m c cc nL args own G) {x y : Int64} (hdg : decode cc pc = .ok (.lmul, 1)) (k : Wx p l e R s m args below meth c Q G nL cells slots S (pc + 1) lv (.long (x * y) :: rest)) : Wx p l e R s m args below meth c Q G nL cells slots S pc lv (.long y :: .long x :: rest) := fun H locs ls hH hS hl => lv_lmul C.1 C.2.1 hdg (k H locs ls hH hS hl)
theorem x_land (C : Cx p s m c cc nL args own G) {x y : Int64} (hdg : decode cc pc = .ok (.land, 1)) (k : Wx p l e R s m args below meth c Q G nL cells slots S (pc + 1) lv (.long (x &&& y) :: rest)) : Wx p l e R s m args below meth c Q G nL cells slots S pc lv (.long y :: .long x :: rest) := fun H locs ls hH hS hl => lv_land C.1 C.2.1 hdg (k H locs ls hH hS hl)
theorem x_lor (C : Cx p s m c cc nL args own G) {x y : Int64} (hdg : decode cc pc = .ok (.lor, 1)) (k : Wx p l e R s m args below meth c Q G nL cells slots S (pc + 1) lv (.long (x ||| y) :: rest)) : Wx p l e R s m args below meth c Q G nL cells slots S pc lv (.long y :: .long x :: rest) := fun H locs ls hH hS hl => lv_lor C.1 C.2.1 hdg (k H locs ls hH hS hl)
theorem x_ldiv (C : Cx p s m c cc nL args own G) {x y : Int64} (hdg : decode cc pc = .ok (.ldiv, 1)) (hne : ¬ y = 0) (k : Wx p l e R s m args below meth c Q G nL cells slots S (pc + 1) lv (.long (x / y) :: rest)) : Wx p l e R s m args below meth c Q G nL cells slots S pc lv (.long y :: .long x :: rest) := fun H locs ls hH hS hl => lv_ldiv C.1 C.2.1 hdg hne (k H locs ls hH hS hl)
theorem x_lrem (C : Cx p s m c cc nL args own G) {x y : Int64} (hdg : decode cc pc = .ok (.lrem, 1)) (hne : ¬ y = 0) (k : Wx p l e R s m args below meth c Q G nL cells slots S (pc + 1) lv (.long (x - x / y * y) :: rest)) : Wx p l e R s m args below meth c Q G nL cells slots S pc lv (.long y :: .long x :: rest) := fun H locs ls hH hS hl => lv_lrem C.1 C.2.1 hdg hne (k H locs ls hH hS hl)
theorem x_ineg (C : Cx p s m c cc nL args own G) {x : Int32} (hdg : decode cc pc = .ok (.ineg, 1)) (k : Wx p l e R s m args below meth c Q G nL cells slots S (pc + 1) lv (.int (-x) :: rest)) : Wx p l e R s m args below meth c Q G nL cells slots S pc lv (.int x :: rest) := fun H locs ls hH hS hl => lv_ineg C.1 C.2.1 hdg (k H locs ls hH hS hl)
theorem x_i2l (C : Cx p s m c cc nL args own G) {x : Int32} (hdg : decode cc pc = .ok (.i2l, 1)) (k : Wx p l e R s m args below meth c Q G nL cells slots S (pc + 1) lv (.long x.toInt64 :: rest)) : Wx p l e R s m args below meth c Q G nL cells slots S pc lv (.int x :: rest) := fun H locs ls hH hS hl => lv_i2l C.1 C.2.1 hdg rfl (k H locs ls hH hS hl)
theorem x_l2i (C : Cx p s m c cc nL args own G) {x : Int64} (hdg : decode cc pc = .ok (.l2i, 1)) (k : Wx p l e R s m args below meth c Q G nL cells slots S (pc + 1) lv (.int x.toInt32 :: rest)) : Wx p l e R s m args below meth c Q G nL cells slots S pc lv (.long x :: rest) := fun H locs ls hH hS hl => lv_l2i C.1 C.2.1 hdg rfl (k H locs ls hH hS hl)
theorem x_i2b (C : Cx p s m c cc nL args own G) {x : Int32} (hdg : decode cc pc = .ok (.i2b, 1)) (k : Wx p l e R s m args below meth c Q G nL cells slots S (pc + 1) lv (.int x.toInt8.toInt32 :: rest)) : Wx p l e R s m args below meth c Q G nL cells slots S pc lv (.int x :: rest) := fun H locs ls hH hS hl => lv_i2b C.1 C.2.1 hdg rfl (k H locs ls hH hS hl)
theorem x_i2s (C : Cx p s m c cc nL args own G) {x : Int32} (hdg : decode cc pc = .ok (.i2s, 1)) (k : Wx p l e R s m args below meth c Q G nL cells slots S (pc + 1) lv (.int x.toInt16.toInt32 :: rest)) : Wx p l e R s m args below meth c Q G nL cells slots S pc lv (.int x :: rest) := fun H locs ls hH hS hl => lv_i2s C.1 C.2.1 hdg rfl (k H locs ls hH hS hl)
theorem x_lshl (C : Cx p s m c cc nL args own G) {x : Int64} {y : Int32} (hdg : decode cc pc = .ok (.lshl, 1)) (k : Wx p l e R s m args below meth c Q G nL cells slots S (pc + 1) lv (.long (x <<< (y.toInt64 &&& 63)) :: rest)) : Wx p l e R s m args below meth c Q G nL cells slots S pc lv (.int y :: .long x :: rest) := fun H locs ls hH hS hl => lv_lshl C.1 C.2.1 hdg rfl (k H locs ls hH hS hl)
theorem x_lshr (C : Cx p s m c cc nL args own G) {x : Int64} {y : Int32} (hdg : decode cc pc = .ok (.lshr, 1)) (k : Wx p l e R s m args below meth c Q G nL cells slots S (pc + 1) lv (.long (x >>> (y.toInt64 &&& 63)) :: rest)) : Wx p l e R s m args below meth c Q G nL cells slots S pc lv (.int y :: .long x :: rest) := fun H locs ls hH hS hl => lv_lshr C.1 C.2.1 hdg rfl (k H locs ls hH hS hl)
theorem x_lcmp (C : Cx p s m c cc nL args own G) {x y : Int64} (hdg : decode cc pc = .ok (.lcmp, 1)) (k : Wx p l e R s m args below meth c Q G nL cells slots S (pc + 1) lv (.int (lg_cmp x y) :: rest)) : Wx p l e R s m args below meth c Q G nL cells slots S pc lv (.long y :: .long x :: rest) := fun H locs ls hH hS hl => W.lcmp C.1 C.2.1 hdg (k H locs ls hH hS hl)
theorem x_dup (C : Cx p s m c cc nL args own G) {va : Value} (hdg : decode cc pc = .ok (.dup, 1)) (hva : va.category = 1) (k : Wx p l e R s m args below meth c Q G nL cells slots S (pc + 1) lv (va :: va :: rest)) : Wx p l e R s m args below meth c Q G nL cells slots S pc lv (va :: rest) := fun H locs ls hH hS hl => lv_dup C.1 C.2.1 hdg hva (k H locs ls hH hS hl)
theorem x_pop (C : Cx p s m c cc nL args own G) {va : Value} (hdg : decode cc pc = .ok (.pop, 1)) (hva : va.category = 1) (k : Wx p l e R s m args below meth c Q G nL cells slots S (pc + 1) lv (rest)) : Wx p l e R s m args below meth c Q G nL cells slots S pc lv (va :: rest) := fun H locs ls hH hS hl => lv_pop C.1 C.2.1 hdg hva (k H locs ls hH hS hl)
theorem x_dup_x1 (C : Cx p s m c cc nL args own G) {va vb : Value} (hdg : decode cc pc = .ok (.dup_x1, 1)) (hva : va.category = 1) (hvb : vb.category = 1) (k : Wx p l e R s m args below meth c Q G nL cells slots S (pc + 1) lv (va :: vb :: va :: rest)) : Wx p l e R s m args below meth c Q G nL cells slots S pc lv (va :: vb :: rest) := fun H locs ls hH hS hl => lv_dup_x1 C.1 C.2.1 hdg hva hvb (k H locs ls hH hS hl)
theorem x_dup2 (C : Cx p s m c cc nL args own G) {va vb : Value} (hdg : decode cc pc = .ok (.dup2, 1)) (hva : va.category = 1) (hvb : vb.category = 1) (k : Wx p l e R s m args below meth c Q G nL cells slots S (pc + 1) lv (va :: vb :: va :: vb :: rest)) : Wx p l e R s m args below meth c Q G nL cells slots S pc lv (va :: vb :: rest) := fun H locs ls hH hS hl => lv_dup2_11 C.1 C.2.1 hdg hva hvb (k H locs ls hH hS hl)
theorem x_if_eq (C : Cx p s m c cc nL args own G) {x : Int32} {off : Int} (tgt : Nat) (hdg : decode cc pc = .ok (.ifCond .eq off, 3)) (ht : (pc : Int) + off = (tgt : Int)) (kt : x = 0 → Wx p l e R s m args below meth c Q G nL cells slots S tgt lv rest) (kf : ¬ x = 0 → Wx p l e R s m args below meth c Q G nL cells slots S (pc + 3) lv rest) : Wx p l e R s m args below meth c Q G nL cells slots S pc lv (.int x :: rest) := fun H locs ls hH hS hl => lv_if_eq C.1 C.2.1 hdg ht (fun q => kt q H locs ls hH hS hl) (fun q => kf q H locs ls hH hS hl)
theorem x_ic_eq (C : Cx p s m c cc nL args own G) {x y : Int32} {off : Int} (tgt : Nat) (hdg : decode cc pc = .ok (.if_icmp .eq off, 3)) (ht : (pc : Int) + off = (tgt : Int)) (kt : x = y → Wx p l e R s m args below meth c Q G nL cells slots S tgt lv rest) (kf : ¬ x = y → Wx p l e R s m args below meth c Q G nL cells slots S (pc + 3) lv rest) : Wx p l e R s m args below meth c Q G nL cells slots S pc lv (.int y :: .int x :: rest) := fun H locs ls hH hS hl => lv_icmp_eq C.1 C.2.1 hdg ht (fun q => kt q H locs ls hH hS hl) (fun q => kf q H locs ls hH hS hl)
theorem x_if_ne (C : Cx p s m c cc nL args own G) {x : Int32} {off : Int} (tgt : Nat) (hdg : decode cc pc = .ok (.ifCond .ne off, 3)) (ht : (pc : Int) + off = (tgt : Int)) (kt : ¬ x = 0 → Wx p l e R s m args below meth c Q G nL cells slots S tgt lv rest) (kf : x = 0 → Wx p l e R s m args below meth c Q G nL cells slots S (pc + 3) lv rest) : Wx p l e R s m args below meth c Q G nL cells slots S pc lv (.int x :: rest) := fun H locs ls hH hS hl => lv_if_ne C.1 C.2.1 hdg ht (fun q => kt q H locs ls hH hS hl) (fun q => kf q H locs ls hH hS hl)
theorem x_ic_ne (C : Cx p s m c cc nL args own G) {x y : Int32} {off : Int} (tgt : Nat) (hdg : decode cc pc = .ok (.if_icmp .ne off, 3)) (ht : (pc : Int) + off = (tgt : Int)) (kt : ¬ x = y → Wx p l e R s m args below meth c Q G nL cells slots S tgt lv rest) (kf : x = y → Wx p l e R s m args below meth c Q G nL cells slots S (pc + 3) lv rest) : Wx p l e R s m args below meth c Q G nL cells slots S pc lv (.int y :: .int x :: rest) := fun H locs ls hH hS hl => lv_icmp_ne C.1 C.2.1 hdg ht (fun q => kt q H locs ls hH hS hl) (fun q => kf q H locs ls hH hS hl)
theorem x_if_lt (C : Cx p s m c cc nL args own G) {x : Int32} {off : Int} (tgt : Nat) (hdg : decode cc pc = .ok (.ifCond .lt off, 3)) (ht : (pc : Int) + off = (tgt : Int)) (kt : x < 0 → Wx p l e R s m args below meth c Q G nL cells slots S tgt lv rest) (kf : ¬ x < 0 → Wx p l e R s m args below meth c Q G nL cells slots S (pc + 3) lv rest) : Wx p l e R s m args below meth c Q G nL cells slots S pc lv (.int x :: rest) := fun H locs ls hH hS hl => lv_if_lt C.1 C.2.1 hdg ht (fun q => kt q H locs ls hH hS hl) (fun q => kf q H locs ls hH hS hl)
theorem x_ic_lt (C : Cx p s m c cc nL args own G) {x y : Int32} {off : Int} (tgt : Nat) (hdg : decode cc pc = .ok (.if_icmp .lt off, 3)) (ht : (pc : Int) + off = (tgt : Int)) (kt : x < y → Wx p l e R s m args below meth c Q G nL cells slots S tgt lv rest) (kf : ¬ x < y → Wx p l e R s m args below meth c Q G nL cells slots S (pc + 3) lv rest) : Wx p l e R s m args below meth c Q G nL cells slots S pc lv (.int y :: .int x :: rest) := fun H locs ls hH hS hl => lv_icmp_lt C.1 C.2.1 hdg ht (fun q => kt q H locs ls hH hS hl) (fun q => kf q H locs ls hH hS hl)
theorem x_if_ge (C : Cx p s m c cc nL args own G) {x : Int32} {off : Int} (tgt : Nat) (hdg : decode cc pc = .ok (.ifCond .ge off, 3)) (ht : (pc : Int) + off = (tgt : Int)) (kt : 0 ≤ x → Wx p l e R s m args below meth c Q G nL cells slots S tgt lv rest) (kf : ¬ 0 ≤ x → Wx p l e R s m args below meth c Q G nL cells slots S (pc + 3) lv rest) : Wx p l e R s m args below meth c Q G nL cells slots S pc lv (.int x :: rest) := fun H locs ls hH hS hl => lv_if_ge C.1 C.2.1 hdg ht (fun q => kt q H locs ls hH hS hl) (fun q => kf q H locs ls hH hS hl)
theorem x_ic_ge (C : Cx p s m c cc nL args own G) {x y : Int32} {off : Int} (tgt : Nat) (hdg : decode cc pc = .ok (.if_icmp .ge off, 3)) (ht : (pc : Int) + off = (tgt : Int)) (kt : y ≤ x → Wx p l e R s m args below meth c Q G nL cells slots S tgt lv rest) (kf : ¬ y ≤ x → Wx p l e R s m args below meth c Q G nL cells slots S (pc + 3) lv rest) : Wx p l e R s m args below meth c Q G nL cells slots S pc lv (.int y :: .int x :: rest) := fun H locs ls hH hS hl => lv_icmp_ge C.1 C.2.1 hdg ht (fun q => kt q H locs ls hH hS hl) (fun q => kf q H locs ls hH hS hl)
theorem x_if_gt (C : Cx p s m c cc nL args own G) {x : Int32} {off : Int} (tgt : Nat) (hdg : decode cc pc = .ok (.ifCond .gt off, 3)) (ht : (pc : Int) + off = (tgt : Int)) (kt : 0 < x → Wx p l e R s m args below meth c Q G nL cells slots S tgt lv rest) (kf : ¬ 0 < x → Wx p l e R s m args below meth c Q G nL cells slots S (pc + 3) lv rest) : Wx p l e R s m args below meth c Q G nL cells slots S pc lv (.int x :: rest) := fun H locs ls hH hS hl => lv_if_gt C.1 C.2.1 hdg ht (fun q => kt q H locs ls hH hS hl) (fun q => kf q H locs ls hH hS hl)
theorem x_ic_gt (C : Cx p s m c cc nL args own G) {x y : Int32} {off : Int} (tgt : Nat) (hdg : decode cc pc = .ok (.if_icmp .gt off, 3)) (ht : (pc : Int) + off = (tgt : Int)) (kt : y < x → Wx p l e R s m args below meth c Q G nL cells slots S tgt lv rest) (kf : ¬ y < x → Wx p l e R s m args below meth c Q G nL cells slots S (pc + 3) lv rest) : Wx p l e R s m args below meth c Q G nL cells slots S pc lv (.int y :: .int x :: rest) := fun H locs ls hH hS hl => lv_icmp_gt C.1 C.2.1 hdg ht (fun q => kt q H locs ls hH hS hl) (fun q => kf q H locs ls hH hS hl)
theorem x_if_le (C : Cx p s m c cc nL args own G) {x : Int32} {off : Int} (tgt : Nat) (hdg : decode cc pc = .ok (.ifCond .le off, 3)) (ht : (pc : Int) + off = (tgt : Int)) (kt : x ≤ 0 → Wx p l e R s m args below meth c Q G nL cells slots S tgt lv rest) (kf : ¬ x ≤ 0 → Wx p l e R s m args below meth c Q G nL cells slots S (pc + 3) lv rest) : Wx p l e R s m args below meth c Q G nL cells slots S pc lv (.int x :: rest) := fun H locs ls hH hS hl => lv_if_le C.1 C.2.1 hdg ht (fun q => kt q H locs ls hH hS hl) (fun q => kf q H locs ls hH hS hl)
theorem x_ic_le (C : Cx p s m c cc nL args own G) {x y : Int32} {off : Int} (tgt : Nat) (hdg : decode cc pc = .ok (.if_icmp .le off, 3)) (ht : (pc : Int) + off = (tgt : Int)) (kt : x ≤ y → Wx p l e R s m args below meth c Q G nL cells slots S tgt lv rest) (kf : ¬ x ≤ y → Wx p l e R s m args below meth c Q G nL cells slots S (pc + 3) lv rest) : Wx p l e R s m args below meth c Q G nL cells slots S pc lv (.int y :: .int x :: rest) := fun H locs ls hH hS hl => lv_icmp_le C.1 C.2.1 hdg ht (fun q => kt q H locs ls hH hS hl) (fun q => kf q H locs ls hH hS hl)
theorem x_goto (C : Cx p s m c cc nL args own G) {off : Int} (tgt : Nat) (hdg : decode cc pc = .ok (.goto off, 3)) (ht : (pc : Int) + off = (tgt : Int)) (k : Wx p l e R s m args below meth c Q G nL cells slots S tgt lv rest) : Wx p l e R s m args below meth c Q G nL cells slots S pc lv rest := fun H locs ls hH hS hl => lv_goto C.1 C.2.1 hdg ht (k H locs ls hH hS hl)
theorem x_ifnull (C : Cx p s m c cc nL args own G) {t : Option Nat} {off : Int} (tgt : Nat) (hdg : decode cc pc = .ok (.ifnull off, 3)) (ht : (pc : Int) + off = (tgt : Int)) (kt : t = none → Wx p l e R s m args below meth c Q G nL cells slots S tgt lv rest) (kf : ∀ b, t = some b → Wx p l e R s m args below meth c Q G nL cells slots S (pc + 3) lv rest) : Wx p l e R s m args below meth c Q G nL cells slots S pc lv (va_rf t :: rest) := by
  intro H locs ls hH hS hl
  cases t with
  | none => exact lv_ifnullN C.1 C.2.1 hdg ht (kt rfl H locs ls hH hS hl)
  | some b => exact lv_ifnull C.1 C.2.1 hdg (kf b rfl H locs ls hH hS hl)
theorem x_ifnonnull (C : Cx p s m c cc nL args own G) {t : Option Nat} {off : Int} (tgt : Nat) (hdg : decode cc pc = .ok (.ifnonnull off, 3)) (ht : (pc : Int) + off = (tgt : Int)) (kf : t = none → Wx p l e R s m args below meth c Q G nL cells slots S (pc + 3) lv rest) (kt : ∀ b, t = some b → Wx p l e R s m args below meth c Q G nL cells slots S tgt lv rest) : Wx p l e R s m args below meth c Q G nL cells slots S pc lv (va_rf t :: rest) := by
  intro H locs ls hH hS hl
  cases t with
  | none => exact lv_ifnonnullN C.1 C.2.1 hdg (kf rfl H locs ls hH hS hl)
  | some b => exact lv_ifnonnull C.1 C.2.1 hdg ht (kt b rfl H locs ls hH hS hl)
theorem x_sub (ks : List Nat) (lv' : List (Nat × Value)) (h : lv_pick lv ks = lv') (k : Wx p l e R s m args below meth c Q G nL cells slots S pc lv' rest) : Wx p l e R s m args below meth c Q G nL cells slots S pc lv rest := fun H locs ls hH hS hl => k H locs ls hH hS (lv_sub hl ks h)
theorem x_pc (h : pc = pc') (k : Wx p l e R s m args below meth c Q G nL cells slots S pc' lv rest) : Wx p l e R s m args below meth c Q G nL cells slots S pc lv rest := h ▸ k
theorem x_tableOut (C : Cx p s m c cc nL args own G) {dflt lo hi : Int} {offs : Array Int} {len : Nat} {x : Int32} (tgt : Nat) (hdg : decode cc pc = .ok (.tableswitch dflt lo hi offs, len)) (h : x.toInt < lo ∨ hi < x.toInt) (ht : (pc : Int) + dflt = (tgt : Int)) (k : Wx p l e R s m args below meth c Q G nL cells slots S tgt lv rest) : Wx p l e R s m args below meth c Q G nL cells slots S pc lv (.int x :: rest) := fun H locs ls hH hS hl => lv_tableOut C.1 C.2.1 hdg h ht (k H locs ls hH hS hl)
theorem x_tableIn (C : Cx p s m c cc nL args own G) {dflt lo hi : Int} {offs : Array Int} {len : Nat} {x : Int32} {off : Int} (tgt : Nat) (hdg : decode cc pc = .ok (.tableswitch dflt lo hi offs, len)) (h1 : ¬ x.toInt < lo) (h2 : ¬ hi < x.toInt) (ho : offs[(x.toInt - lo).toNat]? = some off) (ht : (pc : Int) + off = (tgt : Int)) (k : Wx p l e R s m args below meth c Q G nL cells slots S tgt lv rest) : Wx p l e R s m args below meth c Q G nL cells slots S pc lv (.int x :: rest) := fun H locs ls hH hS hl => lv_tableIn C.1 C.2.1 hdg h1 h2 ho ht (k H locs ls hH hS hl)
theorem x_lookup (C : Cx p s m c cc nL args own G) {dflt : Int} {ps : Array (Int × Int)} {len : Nat} {x : Int32} {off : Int} (tgt : Nat) (hdg : decode cc pc = .ok (.lookupswitch dflt ps, len)) (hp : (ps.toList.zip (ps.toList.drop 1)).all (fun (a, next) => a.1 < next.1) = true) (ho : Op.lookupswitch.offset ps.toList dflt x.toInt = off) (ht : (pc : Int) + off = (tgt : Int)) (k : Wx p l e R s m args below meth c Q G nL cells slots S tgt lv rest) : Wx p l e R s m args below meth c Q G nL cells slots S pc lv (.int x :: rest) := fun H locs ls hH hS hl => lv_lookup C.1 C.2.1 hdg hp ho ht (k H locs ls hH hS hl)
/-- a field that an instruction names: its class's kind, its type (0 int, 1 long, 2 reference), its number -/
def FldR (own : String) (index kd t f : Nat) : Prop := ∃ (C : String) (T : u_T) (N k : Nat), 0 < kd ∧ kd < 14 ∧ vwCl[kd - 1]? = some (C, T, N) ∧ (flds kd)[k]? = some (t, f) ∧ (∀ w ∈ u_ws C T N, w ∈ TBL) ∧ k < N ∧ Cond.fieldLink own index (T k).1 (T k).2.1 (T k).2.2.1 ∈ TBL
def FldN (own : String) (index kd t f : Nat) : Prop := ∃ (C : String) (T : u_T) (N k : Nat) (host : String), 0 < kd ∧ kd < 14 ∧ vwCl[kd - 1]? = some (C, T, N) ∧ (flds kd)[k]? = some (t, f) ∧ (∀ w ∈ u_ws C T N, w ∈ TBL) ∧ k < N ∧ Cond.fieldLinkNest own index (T k).1 (T k).2.1 (T k).2.2.1 host ∈ TBL
def FldW (own : String) (index kd t f : Nat) (fin : Bool) (ty : FieldType) : Prop := ∃ (C : String) (T : u_T) (N k : Nat) (ty0 : Nat → FieldType), 0 < kd ∧ kd < 14 ∧ vwCl[kd - 1]? = some (C, T, N) ∧ (flds kd)[k]? = some (t, f) ∧ (∀ w ∈ u_ws C T N, w ∈ TBL) ∧ k < N ∧ Cond.fieldLink own index (T k).1 (T k).2.1 (T k).2.2.1 ∈ TBL ∧ (∀ j, j < N → parseFieldDescriptor (T j).2.2.1 = some (ty0 j)) ∧ (∀ a, a < N → ∀ b, b < N → a ≠ b → (T a).2.1 ≠ (T b).2.1) ∧ (T k).2.2.2 = fin ∧ ty0 k = ty ∧ (fin = true → (T k).1 = own)
theorem flds_num0 : ∀ kd, kd < 14 → ∀ j, j < 70 → ((flds kd)[j]?.all fun x => x.2 == 100 * kd + j) = true := by decide +kernel
theorem flds_len0 : ∀ kd, kd < 14 → (flds kd).length ≤ 70 := by decide +kernel
theorem flds_num {kd j : Nat} {x : Nat × Nat} (hk : kd < 14) (h : (flds kd)[j]? = some x) : x.2 = 100 * kd + j := by
  have h1 := (List.getElem?_eq_some_iff.mp h).1
  have h2 := flds_num0 kd hk j (by have := flds_len0 kd hk; omega)
  rw [h] at h2
  simpa using h2
theorem x_getI (C : Cx p s m c cc nL args own G) {index kd f a : Nat} (F : FldR own index kd 0 f) (hk : gK S a = kd) (hdg : decode cc pc = .ok (.getfield index, 3)) (kk : Wx p l e R s m args below meth c Q G nL cells slots S (pc + 3) lv (.int (gI S f a) :: rest)) : Wx p l e R s m args below meth c Q G nL cells slots S pc lv (.ref a :: rest) := by
  intro H locs ls hH hS hl
  obtain ⟨C0, T, N, k, h0, h1, hc, hf, hin, hkN, hlink⟩ := F
  obtain ⟨L, hL, hP, hD⟩ := id hH
  have ha : a ∈ L := (hL a).mp (by rw [hk]; omega)
  obtain ⟨q0, hq⟩ := va_pl_get (X := []) (f := ent G.2.1 S) ha
  rw [ent_obj hk (by omega)] at hq
  refine va_get C.1 C.2.1 C.2.2.2.2.1 hin C.2.2.2.1 C.2.2.2.2.2.1 hP q0 hq hc k hkN (C.2.2.2.2.1 _ hlink) (fun _ h => h) (v := .int (gI S f a)) ?_ hdg (kk H locs ls hH hS hl)
  rw [List.getElem?_map, hf]; rfl
theorem x_getJ (C : Cx p s m c cc nL args own G) {index kd f a : Nat} (F : FldR own index kd 1 f) (hk : gK S a = kd) (hdg : decode cc pc = .ok (.getfield index, 3)) (kk : Wx p l e R s m args below meth c Q G nL cells slots S (pc + 3) lv (.long (gJ S f a) :: rest)) : Wx p l e R s m args below meth c Q G nL cells slots S pc lv (.ref a :: rest) := by
  intro H locs ls hH hS hl
  obtain ⟨C0, T, N, k, h0, h1, hc, hf, hin, hkN, hlink⟩ := F
  obtain ⟨L, hL, hP, hD⟩ := id hH
  have ha : a ∈ L := (hL a).mp (by rw [hk]; omega)
  obtain ⟨q0, hq⟩ := va_pl_get (X := []) (f := ent G.2.1 S) ha
  rw [ent_obj hk (by omega)] at hq
  refine va_get C.1 C.2.1 C.2.2.2.2.1 hin C.2.2.2.1 C.2.2.2.2.2.1 hP q0 hq hc k hkN (C.2.2.2.2.1 _ hlink) (fun _ h => h) (v := .long (gJ S f a)) ?_ hdg (kk H locs ls hH hS hl)
  rw [List.getElem?_map, hf]; rfl
theorem x_getR (C : Cx p s m c cc nL args own G) {index kd f a : Nat} (F : FldR own index kd 2 f) (hk : gK S a = kd) (hdg : decode cc pc = .ok (.getfield index, 3)) (kk : Wx p l e R s m args below meth c Q G nL cells slots S (pc + 3) lv (va_rf (gR S f a) :: rest)) : Wx p l e R s m args below meth c Q G nL cells slots S pc lv (.ref a :: rest) := by
  intro H locs ls hH hS hl
  obtain ⟨C0, T, N, k, h0, h1, hc, hf, hin, hkN, hlink⟩ := F
  obtain ⟨L, hL, hP, hD⟩ := id hH
  have ha : a ∈ L := (hL a).mp (by rw [hk]; omega)
  obtain ⟨q0, hq⟩ := va_pl_get (X := []) (f := ent G.2.1 S) ha
  rw [ent_obj hk (by omega)] at hq
  refine va_get C.1 C.2.1 C.2.2.2.2.1 hin C.2.2.2.1 C.2.2.2.2.2.1 hP q0 hq hc k hkN (C.2.2.2.2.1 _ hlink) (fun _ h => h) (v := va_rf (gR S f a)) ?_ hdg (kk H locs ls hH hS hl)
  rw [List.getElem?_map, hf]; rfl
theorem x_getIN (C : Cx p s m c cc nL args own G) {index kd f a : Nat} (F : FldN own index kd 0 f) (hk : gK S a = kd) (hdg : decode cc pc = .ok (.getfield index, 3)) (kk : Wx p l e R s m args below meth c Q G nL cells slots S (pc + 3) lv (.int (gI S f a) :: rest)) : Wx p l e R s m args below meth c Q G nL cells slots S pc lv (.ref a :: rest) := by
  intro H locs ls hH hS hl
  obtain ⟨C0, T, N, k, host, h0, h1, hc, hf, hin, hkN, hlink⟩ := F
  obtain ⟨L, hL, hP, hD⟩ := id hH
  have ha : a ∈ L := (hL a).mp (by rw [hk]; omega)
  obtain ⟨q0, hq⟩ := va_pl_get (X := []) (f := ent G.2.1 S) ha
  rw [ent_obj hk (by omega)] at hq
  refine va_getN C.1 C.2.1 C.2.2.2.2.1 hin C.2.2.2.1 C.2.2.2.2.2.1 hP q0 hq hc k hkN (C.2.2.2.2.1 _ hlink) (fun _ h => h) (v := .int (gI S f a)) ?_ hdg (kk H locs ls hH hS hl)
  rw [List.getElem?_map, hf]; rfl
theorem x_getRN (C : Cx p s m c cc nL args own G) {index kd f a : Nat} (F : FldN own index kd 2 f) (hk : gK S a = kd) (hdg : decode cc pc = .ok (.getfield index, 3)) (kk : Wx p l e R s m args below meth c Q G nL cells slots S (pc + 3) lv (va_rf (gR S f a) :: rest)) : Wx p l e R s m args below meth c Q G nL cells slots S pc lv (.ref a :: rest) := by
  intro H locs ls hH hS hl
  obtain ⟨C0, T, N, k, host, h0, h1, hc, hf, hin, hkN, hlink⟩ := F
  obtain ⟨L, hL, hP, hD⟩ := id hH
  have ha : a ∈ L := (hL a).mp (by rw [hk]; omega)
  obtain ⟨q0, hq⟩ := va_pl_get (X := []) (f := ent G.2.1 S) ha
  rw [ent_obj hk (by omega)] at hq
  refine va_getN C.1 C.2.1 C.2.2.2.2.1 hin C.2.2.2.1 C.2.2.2.2.2.1 hP q0 hq hc k hkN (C.2.2.2.2.1 _ hlink) (fun _ h => h) (v := va_rf (gR S f a)) ?_ hdg (kk H locs ls hH hS hl)
  rw [List.getElem?_map, hf]; rfl
theorem ent_put_uI {cy : Nat → ClassId} {S : HSt} {a kd k f : Nat} {v : Int32} (hk : gK S a = kd) (h1 : kd < 14) (hf : (flds kd)[k]? = some (0, f)) : ent cy (uI S f a v) a = .inr (kd - 1, ((flds kd).map (fval (fun f => gI S f a) (fun f => gJ S f a) (fun f => gR S f a))).set k (.int v)) := by
  rw [ent_obj (S := uI S f a v) (k := kd) hk (by omega)]
  refine congrArg (fun x => (Sum.inr : Nat × List Value → va_E) (kd - 1, x)) ?_
  symm
  refine map_set_of (fun x hx => ?_) (fun j x hj hx => ?_)
  · rw [hf] at hx
    cases hx
    simp [fval, gI, uI, up2]
  · have e1 := flds_num h1 hf
    have e2 := flds_num h1 hx
    have e3 : x.2 ≠ f := fun q => hj (by simp only at e1; omega)
    simp [fval, gI, gJ, gR, uI, up2, e3]
theorem x_putIF (C : Cx p s m c cc nL args own G) {index kd f a : Nat} {v : Int32} {ty : FieldType} (F : FldW own index kd 0 f true ty) (hk : gK S a = kd) (hn : narrow ty (.int v) = .int v) (hfit : fits ty (.int v) = true) (hin2 : meth.name = "<init>") (hdg : decode cc pc = .ok (.putfield index, 3)) (kk : Wx p l e R s m args below meth c Q G nL cells slots (uI S f a v) (pc + 3) lv rest) : Wx p l e R s m args below meth c Q G nL cells slots S pc lv (.int v :: .ref a :: rest) := by
  intro H locs ls hH hS hl
  obtain ⟨C0, T, N, k, ty0, h0, h1, hc, hf, hin, hkN, hlink, hty, hnm, hfin, hty2, hdecl⟩ := F
  obtain ⟨L, hL, hP, hD⟩ := id hH
  have ha : a ∈ L := (hL a).mp (by rw [hk]; omega)
  obtain ⟨q0, hq⟩ := va_pl_get (X := []) (f := ent G.2.1 S) ha
  have hq0 := hq
  rw [ent_obj hk (by omega)] at hq
  refine va_putF C.1 C.2.1 C.2.2.2.2.1 hin ty0 hty hnm C.2.2.2.1 C.2.2.2.2.2.1 hP hD hS q0 hq hc k hkN (C.2.2.2.2.1 _ hlink) (fun _ h => h) hfin hin2 (hdecl rfl) (ty := ty) (v := .int v) ((hty k hkN).trans (congrArg some hty2)) hn hfit (by rw [List.length_map]; exact (List.getElem?_eq_some_iff.mp hf).1) hdg (fun H1 locs1 hP1 hD1 hS1 => kk H1 locs1 ls ?_ hS1 hl)
  have e1 := va_pl_set (X := []) (e := (.inr (kd - 1, ((flds kd).map (fval (fun f => gI S f a) (fun f => gJ S f a) (fun f => gR S f a))).set k (.int v)) : va_E)) hD ha hq0
  have e2 : va_pl L (va_up (ent G.2.1 S) a (.inr (kd - 1, ((flds kd).map (fval (fun f => gI S f a) (fun f => gJ S f a) (fun f => gR S f a))).set k (.int v)))) = va_pl L (ent G.2.1 (uI S f a v)) := va_pl_congr (fun b => by
    by_cases hb : b = a
    · subst hb; rw [va_up_self, ent_put_uI hk h1 hf]
    · rw [va_up_ne _ _ hb, ent_uI S f a v hb])
  have e3 := e1.trans e2
  exact ⟨L, hL, e3 ▸ hP1, e3 ▸ hD1⟩
theorem x_putI (C : Cx p s m c cc nL args own G) {index kd f a : Nat} {v : Int32} {ty : FieldType} (F : FldW own index kd 0 f false ty) (hk : gK S a = kd) (hn : narrow ty (.int v) = .int v) (hfit : fits ty (.int v) = true) (hdg : decode cc pc = .ok (.putfield index, 3)) (kk : Wx p l e R s m args below meth c Q G nL cells slots (uI S f a v) (pc + 3) lv rest) : Wx p l e R s m args below meth c Q G nL cells slots S pc lv (.int v :: .ref a :: rest) := by
  intro H locs ls hH hS hl
  obtain ⟨C0, T, N, k, ty0, h0, h1, hc, hf, hin, hkN, hlink, hty, hnm, hfin, hty2, hdecl⟩ := F
  obtain ⟨L, hL, hP, hD⟩ := id hH
  have ha : a ∈ L := (hL a).mp (by rw [hk]; omega)
  obtain ⟨q0, hq⟩ := va_pl_get (X := []) (f := ent G.2.1 S) ha
  have hq0 := hq
  rw [ent_obj hk (by omega)] at hq
  refine va_put C.1 C.2.1 C.2.2.2.2.1 hin ty0 hty hnm C.2.2.2.1 C.2.2.2.2.2.1 hP hD hS q0 hq hc k hkN (C.2.2.2.2.1 _ hlink) (fun _ h => h) hfin (ty := ty) (v := .int v) ((hty k hkN).trans (congrArg some hty2)) hn hfit (by rw [List.length_map]; exact (List.getElem?_eq_some_iff.mp hf).1) hdg (fun H1 locs1 hP1 hD1 hS1 => kk H1 locs1 ls ?_ hS1 hl)
  have e1 := va_pl_set (X := []) (e := (.inr (kd - 1, ((flds kd).map (fval (fun f => gI S f a) (fun f => gJ S f a) (fun f => gR S f a))).set k (.int v)) : va_E)) hD ha hq0
  have e2 : va_pl L (va_up (ent G.2.1 S) a (.inr (kd - 1, ((flds kd).map (fval (fun f => gI S f a) (fun f => gJ S f a) (fun f => gR S f a))).set k (.int v)))) = va_pl L (ent G.2.1 (uI S f a v)) := va_pl_congr (fun b => by
    by_cases hb : b = a
    · subst hb; rw [va_up_self, ent_put_uI hk h1 hf]
    · rw [va_up_ne _ _ hb, ent_uI S f a v hb])
  have e3 := e1.trans e2
  exact ⟨L, hL, e3 ▸ hP1, e3 ▸ hD1⟩
theorem ent_put_uJ {cy : Nat → ClassId} {S : HSt} {a kd k f : Nat} {v : Int64} (hk : gK S a = kd) (h1 : kd < 14) (hf : (flds kd)[k]? = some (1, f)) : ent cy (uJ S f a v) a = .inr (kd - 1, ((flds kd).map (fval (fun f => gI S f a) (fun f => gJ S f a) (fun f => gR S f a))).set k (.long v)) := by
  rw [ent_obj (S := uJ S f a v) (k := kd) hk (by omega)]
  refine congrArg (fun x => (Sum.inr : Nat × List Value → va_E) (kd - 1, x)) ?_
  symm
  refine map_set_of (fun x hx => ?_) (fun j x hj hx => ?_)
  · rw [hf] at hx
    cases hx
    simp [fval, gJ, uJ, up2]
  · have e1 := flds_num h1 hf
    have e2 := flds_num h1 hx
    have e3 : x.2 ≠ f := fun q => hj (by simp only at e1; omega)
    simp [fval, gI, gJ, gR, uJ, up2, e3]
theorem x_putJF (C : Cx p s m c cc nL args own G) {index kd f a : Nat} {v : Int64} {ty : FieldType} (F : FldW own index kd 1 f true ty) (hk : gK S a = kd) (hn : narrow ty (.long v) = .long v) (hfit : fits ty (.long v) = true) (hin2 : meth.name = "<init>") (hdg : decode cc pc = .ok (.putfield index, 3)) (kk : Wx p l e R s m args below meth c Q G nL cells slots (uJ S f a v) (pc + 3) lv rest) : Wx p l e R s m args below meth c Q G nL cells slots S pc lv (.long v :: .ref a :: rest) := by
  intro H locs ls hH hS hl
  obtain ⟨C0, T, N, k, ty0, h0, h1, hc, hf, hin, hkN, hlink, hty, hnm, hfin, hty2, hdecl⟩ := F
  obtain ⟨L, hL, hP, hD⟩ := id hH
  have ha : a ∈ L := (hL a).mp (by rw [hk]; omega)
  obtain ⟨q0, hq⟩ := va_pl_get (X := []) (f := ent G.2.1 S) ha
  have hq0 := hq
  rw [ent_obj hk (by omega)] at hq
  refine va_putF C.1 C.2.1 C.2.2.2.2.1 hin ty0 hty hnm C.2.2.2.1 C.2.2.2.2.2.1 hP hD hS q0 hq hc k hkN (C.2.2.2.2.1 _ hlink) (fun _ h => h) hfin hin2 (hdecl rfl) (ty := ty) (v := .long v) ((hty k hkN).trans (congrArg some hty2)) hn hfit (by rw [List.length_map]; exact (List.getElem?_eq_some_iff.mp hf).1) hdg (fun H1 locs1 hP1 hD1 hS1 => kk H1 locs1 ls ?_ hS1 hl)
  have e1 := va_pl_set (X := []) (e := (.inr (kd - 1, ((flds kd).map (fval (fun f => gI S f a) (fun f => gJ S f a) (fun f => gR S f a))).set k (.long v)) : va_E)) hD ha hq0
  have e2 : va_pl L (va_up (ent G.2.1 S) a (.inr (kd - 1, ((flds kd).map (fval (fun f => gI S f a) (fun f => gJ S f a) (fun f => gR S f a))).set k (.long v)))) = va_pl L (ent G.2.1 (uJ S f a v)) := va_pl_congr (fun b => by
    by_cases hb : b = a
    · subst hb; rw [va_up_self, ent_put_uJ hk h1 hf]
    · rw [va_up_ne _ _ hb, ent_uJ S f a v hb])
  have e3 := e1.trans e2
  exact ⟨L, hL, e3 ▸ hP1, e3 ▸ hD1⟩
theorem x_putJ (C : Cx p s m c cc nL args own G) {index kd f a : Nat} {v : Int64} {ty : FieldType} (F : FldW own index kd 1 f false ty) (hk : gK S a = kd) (hn : narrow ty (.long v) = .long v) (hfit : fits ty (.long v) = true) (hdg : decode cc pc = .ok (.putfield index, 3)) (kk : Wx p l e R s m args below meth c Q G nL cells slots (uJ S f a v) (pc + 3) lv rest) : Wx p l e R s m args below meth c Q G nL cells slots S pc lv (.long v :: .ref a :: rest) := by
  intro H locs ls hH hS hl
  obtain ⟨C0, T, N, k, ty0, h0, h1, hc, hf, hin, hkN, hlink, hty, hnm, hfin, hty2, hdecl⟩ := F
  obtain ⟨L, hL, hP, hD⟩ := id hH
  have ha : a ∈ L := (hL a).mp (by rw [hk]; omega)
  obtain ⟨q0, hq⟩ := va_pl_get (X := []) (f := ent G.2.1 S) ha
  have hq0 := hq
  rw [ent_obj hk (by omega)] at hq
  refine va_put C.1 C.2.1 C.2.2.2.2.1 hin ty0 hty hnm C.2.2.2.1 C.2.2.2.2.2.1 hP hD hS q0 hq hc k hkN (C.2.2.2.2.1 _ hlink) (fun _ h => h) hfin (ty := ty) (v := .long v) ((hty k hkN).trans (congrArg some hty2)) hn hfit (by rw [List.length_map]; exact (List.getElem?_eq_some_iff.mp hf).1) hdg (fun H1 locs1 hP1 hD1 hS1 => kk H1 locs1 ls ?_ hS1 hl)
  have e1 := va_pl_set (X := []) (e := (.inr (kd - 1, ((flds kd).map (fval (fun f => gI S f a) (fun f => gJ S f a) (fun f => gR S f a))).set k (.long v)) : va_E)) hD ha hq0
  have e2 : va_pl L (va_up (ent G.2.1 S) a (.inr (kd - 1, ((flds kd).map (fval (fun f => gI S f a) (fun f => gJ S f a) (fun f => gR S f a))).set k (.long v)))) = va_pl L (ent G.2.1 (uJ S f a v)) := va_pl_congr (fun b => by
    by_cases hb : b = a
    · subst hb; rw [va_up_self, ent_put_uJ hk h1 hf]
    · rw [va_up_ne _ _ hb, ent_uJ S f a v hb])
  have e3 := e1.trans e2
  exact ⟨L, hL, e3 ▸ hP1, e3 ▸ hD1⟩
theorem ent_put_uR {cy : Nat → ClassId} {S : HSt} {a kd k f : Nat} {v : Option Nat} (hk : gK S a = kd) (h1 : kd < 14) (hf : (flds kd)[k]? = some (2, f)) : ent cy (uR S f a v) a = .inr (kd - 1, ((flds kd).map (fval (fun f => gI S f a) (fun f => gJ S f a) (fun f => gR S f a))).set k (va_rf v)) := by
  rw [ent_obj (S := uR S f a v) (k := kd) hk (by omega)]
  refine congrArg (fun x => (Sum.inr : Nat × List Value → va_E) (kd - 1, x)) ?_
  symm
  refine map_set_of (fun x hx => ?_) (fun j x hj hx => ?_)
  · rw [hf] at hx
    cases hx
    simp [fval, gR, uR, up2]
  · have e1 := flds_num h1 hf
    have e2 := flds_num h1 hx
    have e3 : x.2 ≠ f := fun q => hj (by simp only at e1; omega)
    simp [fval, gI, gJ, gR, uR, up2, e3]
theorem x_putRF (C : Cx p s m c cc nL args own G) {index kd f a : Nat} {v : Option Nat} {ty : FieldType} (F : FldW own index kd 2 f true ty) (hk : gK S a = kd) (hn : narrow ty (va_rf v) = va_rf v) (hfit : fits ty (va_rf v) = true) (hin2 : meth.name = "<init>") (hdg : decode cc pc = .ok (.putfield index, 3)) (kk : Wx p l e R s m args below meth c Q G nL cells slots (uR S f a v) (pc + 3) lv rest) : Wx p l e R s m args below meth c Q G nL cells slots S pc lv (va_rf v :: .ref a :: rest) := by
  intro H locs ls hH hS hl
  obtain ⟨C0, T, N, k, ty0, h0, h1, hc, hf, hin, hkN, hlink, hty, hnm, hfin, hty2, hdecl⟩ := F
  obtain ⟨L, hL, hP, hD⟩ := id hH
  have ha : a ∈ L := (hL a).mp (by rw [hk]; omega)
  obtain ⟨q0, hq⟩ := va_pl_get (X := []) (f := ent G.2.1 S) ha
  have hq0 := hq
  rw [ent_obj hk (by omega)] at hq
  refine va_putF C.1 C.2.1 C.2.2.2.2.1 hin ty0 hty hnm C.2.2.2.1 C.2.2.2.2.2.1 hP hD hS q0 hq hc k hkN (C.2.2.2.2.1 _ hlink) (fun _ h => h) hfin hin2 (hdecl rfl) (ty := ty) (v := va_rf v) ((hty k hkN).trans (congrArg some hty2)) hn hfit (by rw [List.length_map]; exact (List.getElem?_eq_some_iff.mp hf).1) hdg (fun H1 locs1 hP1 hD1 hS1 => kk H1 locs1 ls ?_ hS1 hl)
  have e1 := va_pl_set (X := []) (e := (.inr (kd - 1, ((flds kd).map (fval (fun f => gI S f a) (fun f => gJ S f a) (fun f => gR S f a))).set k (va_rf v)) : va_E)) hD ha hq0
  have e2 : va_pl L (va_up (ent G.2.1 S) a (.inr (kd - 1, ((flds kd).map (fval (fun f => gI S f a) (fun f => gJ S f a) (fun f => gR S f a))).set k (va_rf v)))) = va_pl L (ent G.2.1 (uR S f a v)) := va_pl_congr (fun b => by
    by_cases hb : b = a
    · subst hb; rw [va_up_self, ent_put_uR hk h1 hf]
    · rw [va_up_ne _ _ hb, ent_uR S f a v hb])
  have e3 := e1.trans e2
  exact ⟨L, hL, e3 ▸ hP1, e3 ▸ hD1⟩
theorem x_putR (C : Cx p s m c cc nL args own G) {index kd f a : Nat} {v : Option Nat} {ty : FieldType} (F : FldW own index kd 2 f false ty) (hk : gK S a = kd) (hn : narrow ty (va_rf v) = va_rf v) (hfit : fits ty (va_rf v) = true) (hdg : decode cc pc = .ok (.putfield index, 3)) (kk : Wx p l e R s m args below meth c Q G nL cells slots (uR S f a v) (pc + 3) lv rest) : Wx p l e R s m args below meth c Q G nL cells slots S pc lv (va_rf v :: .ref a :: rest) := by
  intro H locs ls hH hS hl
  obtain ⟨C0, T, N, k, ty0, h0, h1, hc, hf, hin, hkN, hlink, hty, hnm, hfin, hty2, hdecl⟩ := F
  obtain ⟨L, hL, hP, hD⟩ := id hH
  have ha : a ∈ L := (hL a).mp (by rw [hk]; omega)
  obtain ⟨q0, hq⟩ := va_pl_get (X := []) (f := ent G.2.1 S) ha
  have hq0 := hq
  rw [ent_obj hk (by omega)] at hq
  refine va_put C.1 C.2.1 C.2.2.2.2.1 hin ty0 hty hnm C.2.2.2.1 C.2.2.2.2.2.1 hP hD hS q0 hq hc k hkN (C.2.2.2.2.1 _ hlink) (fun _ h => h) hfin (ty := ty) (v := va_rf v) ((hty k hkN).trans (congrArg some hty2)) hn hfit (by rw [List.length_map]; exact (List.getElem?_eq_some_iff.mp hf).1) hdg (fun H1 locs1 hP1 hD1 hS1 => kk H1 locs1 ls ?_ hS1 hl)
  have e1 := va_pl_set (X := []) (e := (.inr (kd - 1, ((flds kd).map (fval (fun f => gI S f a) (fun f => gJ S f a) (fun f => gR S f a))).set k (va_rf v)) : va_E)) hD ha hq0
  have e2 : va_pl L (va_up (ent G.2.1 S) a (.inr (kd - 1, ((flds kd).map (fval (fun f => gI S f a) (fun f => gJ S f a) (fun f => gR S f a))).set k (va_rf v)))) = va_pl L (ent G.2.1 (uR S f a v)) := va_pl_congr (fun b => by
    by_cases hb : b = a
    · subst hb; rw [va_up_self, ent_put_uR hk h1 hf]
    · rw [va_up_ne _ _ hb, ent_uR S f a v hb])
  have e3 := e1.trans e2
  exact ⟨L, hL, e3 ▸ hP1, e3 ▸ hD1⟩
theorem x_iald (C : Cx p s m c cc nL args own G) {kd a : Nat} {i : Int32} (hk : gK S a = kd) (h2 : kd / 100 = 2) (hin : vp_in i (gN S a)) (hdg : decode cc pc = .ok (.iaload, 1)) (kk : Wx p l e R s m args below meth c Q G nL cells slots S (pc + 1) lv (.int (gA S kd a i.toNatClampNeg) :: rest)) : Wx p l e R s m args below meth c Q G nL cells slots S pc lv (.int i :: .ref a :: rest) := by
  intro H locs ls hH hS hl
  obtain ⟨L, hL, hP, hD⟩ := id hH
  have ha : a ∈ L := (hL a).mp (by rw [hk]; omega)
  obtain ⟨q0, hq⟩ := va_pl_get (X := []) (f := ent G.2.1 S) ha
  rw [ent_num hk (by omega) (by omega), h2] at hq
  exact va_iald C.1 C.2.1 C.2.2.2.2.2.1 hP q0 1 hq rfl hin hdg (kk H locs ls hH hS hl)
theorem x_bald (C : Cx p s m c cc nL args own G) {kd a : Nat} {i : Int32} (hk : gK S a = kd) (h2 : kd / 100 = 1) (hin : vp_in i (gN S a)) (hdg : decode cc pc = .ok (.baload, 1)) (kk : Wx p l e R s m args below meth c Q G nL cells slots S (pc + 1) lv (.int (gA S kd a i.toNatClampNeg) :: rest)) : Wx p l e R s m args below meth c Q G nL cells slots S pc lv (.int i :: .ref a :: rest) := by
  intro H locs ls hH hS hl
  obtain ⟨L, hL, hP, hD⟩ := id hH
  have ha : a ∈ L := (hL a).mp (by rw [hk]; omega)
  obtain ⟨q0, hq⟩ := va_pl_get (X := []) (f := ent G.2.1 S) ha
  rw [ent_num hk (by omega) (by omega), h2] at hq
  exact va_bald C.1 C.2.1 C.2.2.2.2.2.1 hP q0 0 hq rfl hin hdg (kk H locs ls hH hS hl)
theorem x_zald (C : Cx p s m c cc nL args own G) {kd a : Nat} {i : Int32} (hk : gK S a = kd) (h2 : kd / 100 = 3) (hin : vp_in i (gN S a)) (hdg : decode cc pc = .ok (.baload, 1)) (kk : Wx p l e R s m args below meth c Q G nL cells slots S (pc + 1) lv (.int (gA S kd a i.toNatClampNeg) :: rest)) : Wx p l e R s m args below meth c Q G nL cells slots S pc lv (.int i :: .ref a :: rest) := by
  intro H locs ls hH hS hl
  obtain ⟨L, hL, hP, hD⟩ := id hH
  have ha : a ∈ L := (hL a).mp (by rw [hk]; omega)
  obtain ⟨q0, hq⟩ := va_pl_get (X := []) (f := ent G.2.1 S) ha
  rw [ent_num hk (by omega) (by omega), h2] at hq
  exact va_zald C.1 C.2.1 C.2.2.2.2.2.1 hP q0 2 hq rfl hin hdg (kk H locs ls hH hS hl)
theorem x_iast (C : Cx p s m c cc nL args own G) {kd a : Nat} {i v : Int32} (hk : gK S a = kd) (h2 : kd / 100 = 2) (hin : vp_in i (gN S a)) (hdg : decode cc pc = .ok (.iastore, 1)) (kk : Wx p l e R s m args below meth c Q G nL cells slots (uA S kd a i.toNatClampNeg v) (pc + 1) lv rest) : Wx p l e R s m args below meth c Q G nL cells slots S pc lv (.int v :: .int i :: .ref a :: rest) := by
  intro H locs ls hH hS hl
  obtain ⟨L, hL, hP, hD⟩ := id hH
  have ha : a ∈ L := (hL a).mp (by rw [hk]; omega)
  obtain ⟨q0, hq⟩ := va_pl_get (X := []) (f := ent G.2.1 S) ha
  have hq0 := hq
  rw [ent_num hk (by omega) (by omega), h2] at hq
  refine va_iast C.1 C.2.1 C.2.2.2.2.2.1 hP hD hS q0 1 hq rfl hin hdg (fun H1 locs1 hP1 hD1 hS1 => kk H1 locs1 ls ?_ hS1 hl)
  have e3 := (va_pl_set (X := []) hD ha hq0).trans (va_pl_congr (L := L) (f := va_up (ent G.2.1 S) a (.inl (G.2.1 (2 - 1), gN S a, .inl (upd (gA S kd a) i.toNatClampNeg v)))) (g := ent G.2.1 (uA S kd a i.toNatClampNeg v)) (fun b => by
    by_cases hb : b = a
    · subst hb; rw [va_up_self, ent_num (S := uA S kd b i.toNatClampNeg v) (k := kd) hk (by omega) (by omega), h2]
      refine congrArg (fun x => (Sum.inl (G.2.1 (2 - 1), gN S b, Sum.inl x) : va_E)) ?_
      simp [uA, sA, gA, up2]
    · rw [va_up_ne _ _ hb]; exact (ent_sA S kd a _ hb).symm))
  exact ⟨L, hL, e3 ▸ hP1, e3 ▸ hD1⟩
theorem x_bast (C : Cx p s m c cc nL args own G) {kd a : Nat} {i v : Int32} (hk : gK S a = kd) (h2 : kd / 100 = 1) (hin : vp_in i (gN S a)) (hdg : decode cc pc = .ok (.bastore, 1)) (kk : Wx p l e R s m args below meth c Q G nL cells slots (uA S kd a i.toNatClampNeg (vp_nar .byte v)) (pc + 1) lv rest) : Wx p l e R s m args below meth c Q G nL cells slots S pc lv (.int v :: .int i :: .ref a :: rest) := by
  intro H locs ls hH hS hl
  obtain ⟨L, hL, hP, hD⟩ := id hH
  have ha : a ∈ L := (hL a).mp (by rw [hk]; omega)
  obtain ⟨q0, hq⟩ := va_pl_get (X := []) (f := ent G.2.1 S) ha
  have hq0 := hq
  rw [ent_num hk (by omega) (by omega), h2] at hq
  refine va_bast C.1 C.2.1 C.2.2.2.2.2.1 hP hD hS q0 0 hq rfl hin hdg (fun H1 locs1 hP1 hD1 hS1 => kk H1 locs1 ls ?_ hS1 hl)
  have e3 := (va_pl_set (X := []) hD ha hq0).trans (va_pl_congr (L := L) (f := va_up (ent G.2.1 S) a (.inl (G.2.1 (1 - 1), gN S a, .inl (upd (gA S kd a) i.toNatClampNeg (vp_nar .byte v))))) (g := ent G.2.1 (uA S kd a i.toNatClampNeg (vp_nar .byte v))) (fun b => by
    by_cases hb : b = a
    · subst hb; rw [va_up_self, ent_num (S := uA S kd b i.toNatClampNeg (vp_nar .byte v)) (k := kd) hk (by omega) (by omega), h2]
      refine congrArg (fun x => (Sum.inl (G.2.1 (1 - 1), gN S b, Sum.inl x) : va_E)) ?_
      simp [uA, sA, gA, up2]
    · rw [va_up_ne _ _ hb]; exact (ent_sA S kd a _ hb).symm))
  exact ⟨L, hL, e3 ▸ hP1, e3 ▸ hD1⟩
theorem x_zast (C : Cx p s m c cc nL args own G) {kd a : Nat} {i v : Int32} (hk : gK S a = kd) (h2 : kd / 100 = 3) (hin : vp_in i (gN S a)) (hdg : decode cc pc = .ok (.bastore, 1)) (kk : Wx p l e R s m args below meth c Q G nL cells slots (uA S kd a i.toNatClampNeg (vp_nar .boolean v)) (pc + 1) lv rest) : Wx p l e R s m args below meth c Q G nL cells slots S pc lv (.int v :: .int i :: .ref a :: rest) := by
  intro H locs ls hH hS hl
  obtain ⟨L, hL, hP, hD⟩ := id hH
  have ha : a ∈ L := (hL a).mp (by rw [hk]; omega)
  obtain ⟨q0, hq⟩ := va_pl_get (X := []) (f := ent G.2.1 S) ha
  have hq0 := hq
  rw [ent_num hk (by omega) (by omega), h2] at hq
  refine va_zast C.1 C.2.1 C.2.2.2.2.2.1 hP hD hS q0 2 hq rfl hin hdg (fun H1 locs1 hP1 hD1 hS1 => kk H1 locs1 ls ?_ hS1 hl)
  have e3 := (va_pl_set (X := []) hD ha hq0).trans (va_pl_congr (L := L) (f := va_up (ent G.2.1 S) a (.inl (G.2.1 (3 - 1), gN S a, .inl (upd (gA S kd a) i.toNatClampNeg (vp_nar .boolean v))))) (g := ent G.2.1 (uA S kd a i.toNatClampNeg (vp_nar .boolean v))) (fun b => by
    by_cases hb : b = a
    · subst hb; rw [va_up_self, ent_num (S := uA S kd b i.toNatClampNeg (vp_nar .boolean v)) (k := kd) hk (by omega) (by omega), h2]
      refine congrArg (fun x => (Sum.inl (G.2.1 (3 - 1), gN S b, Sum.inl x) : va_E)) ?_
      simp [uA, sA, gA, up2]
    · rw [va_up_ne _ _ hb]; exact (ent_sA S kd a _ hb).symm))
  exact ⟨L, hL, e3 ▸ hP1, e3 ▸ hD1⟩
theorem x_alen (C : Cx p s m c cc nL args own G) {kd a : Nat} (hk : gK S a = kd) (h2 : 1 ≤ kd / 100 ∧ kd / 100 ≤ 3) (hdg : decode cc pc = .ok (.arraylength, 1)) (kk : Wx p l e R s m args below meth c Q G nL cells slots S (pc + 1) lv (.int (nI (gN S a)) :: rest)) : Wx p l e R s m args below meth c Q G nL cells slots S pc lv (.ref a :: rest) := by
  intro H locs ls hH hS hl
  obtain ⟨L, hL, hP, hD⟩ := id hH
  have ha : a ∈ L := (hL a).mp (by rw [hk]; omega)
  obtain ⟨q0, hq⟩ := va_pl_get (X := []) (f := ent G.2.1 S) ha
  rw [ent_num hk (by omega) (by omega)] at hq
  rcases (show kd / 100 = 1 ∨ kd / 100 = 2 ∨ kd / 100 = 3 by omega) with h | h | h <;> rw [h] at hq
  · exact va_alen C.1 C.2.1 C.2.2.2.2.2.1 hP q0 0 hq rfl rfl hdg (kk H locs ls hH hS hl)
  · exact va_alen C.1 C.2.1 C.2.2.2.2.2.1 hP q0 1 hq rfl rfl hdg (kk H locs ls hH hS hl)
  · exact va_alen C.1 C.2.1 C.2.2.2.2.2.1 hP q0 2 hq rfl rfl hdg (kk H locs ls hH hS hl)
theorem x_alenq (C : Cx p s m c cc nL args own G) {kd a : Nat} {ty : FieldType} (hk : gK S a = kd) (h2 : 400 ≤ kd) (ht : (xtys G.2.1)[kd / 100 - 1]? = some (G.2.1 (kd / 100 - 1), ty)) (hdg : decode cc pc = .ok (.arraylength, 1)) (kk : Wx p l e R s m args below meth c Q G nL cells slots S (pc + 1) lv (.int (nI (gN S a)) :: rest)) : Wx p l e R s m args below meth c Q G nL cells slots S pc lv (.ref a :: rest) := by
  intro H locs ls hH hS hl
  obtain ⟨L, hL, hP, hD⟩ := id hH
  have ha : a ∈ L := (hL a).mp (by rw [hk]; omega)
  obtain ⟨q0, hq⟩ := va_pl_get (X := []) (f := ent G.2.1 S) ha
  rw [ent_ref hk h2] at hq
  exact va_alen C.1 C.2.1 C.2.2.2.2.2.1 hP q0 _ hq ht rfl hdg (kk H locs ls hH hS hl)
theorem x_aaldq (C : Cx p s m c cc nL args own G) {kd a : Nat} {i : Int32} {C0 : String} (hk : gK S a = kd) (h2 : 400 ≤ kd) (ht : (xtys G.2.1)[kd / 100 - 1]? = some (G.2.1 (kd / 100 - 1), .object C0)) (hin : vp_in i (gN S a)) (hdg : decode cc pc = .ok (.aaload, 1)) (kk : Wx p l e R s m args below meth c Q G nL cells slots S (pc + 1) lv (va_rf (gB S kd a i.toNatClampNeg) :: rest)) : Wx p l e R s m args below meth c Q G nL cells slots S pc lv (.int i :: .ref a :: rest) := by
  intro H locs ls hH hS hl
  obtain ⟨L, hL, hP, hD⟩ := id hH
  have ha : a ∈ L := (hL a).mp (by rw [hk]; omega)
  obtain ⟨q0, hq⟩ := va_pl_get (X := []) (f := ent G.2.1 S) ha
  rw [ent_ref hk h2] at hq
  exact va_aldq C.1 C.2.1 C.2.2.2.2.2.1 hP q0 _ hq ht hin hdg (kk H locs ls hH hS hl)
theorem x_aaldA (C : Cx p s m c cc nL args own G) {kd a : Nat} {i : Int32} (hk : gK S a = kd) (h2 : kd / 100 = 10) (hin : vp_in i (gN S a)) (hdg : decode cc pc = .ok (.aaload, 1)) (kk : Wx p l e R s m args below meth c Q G nL cells slots S (pc + 1) lv (va_rf (gB S kd a i.toNatClampNeg) :: rest)) : Wx p l e R s m args below meth c Q G nL cells slots S pc lv (.int i :: .ref a :: rest) := by
  intro H locs ls hH hS hl
  obtain ⟨L, hL, hP, hD⟩ := id hH
  have ha : a ∈ L := (hL a).mp (by rw [hk]; omega)
  obtain ⟨q0, hq⟩ := va_pl_get (X := []) (f := ent G.2.1 S) ha
  rw [ent_ref hk (by omega), h2] at hq
  have hlt : i.toNatClampNeg < gN S a := Nat.not_le.mp fun q => hin (Or.inr q)
  exact W.aald (v := va_rf (gB S kd a i.toNatClampNeg)) (ty := .array .int) C.1 C.2.1 (hP q0 _ hq) ((C.2.2.2.2.2.1.2 9 _ rfl).1 (gN S a) (fun j => va_rf (gB S kd a j))) rfl (fun q => by cases q) (by show ¬ (i < 0 ∨ (arrV _ _ _).slots.size ≤ _); rw [arrV_size]; exact hin) (by show (arrV _ _ _).slots[_]? = _; rw [arrV_read _ _ hlt]) rfl rfl hdg (kk H locs ls hH hS hl)
theorem x_aastq (C : Cx p s m c cc nL args own G) {kd a b kb : Nat} {i : Int32} {r : vw_C} (hk : gK S a = kd) (h2 : 400 ≤ kd) (ht : (xtys G.2.1)[kd / 100 - 1]? = some (G.2.1 (kd / 100 - 1), .object r.1)) (hkb : gK S b = kb) (hb1 : 0 < kb ∧ kb < 14) (hc : vwCl[kb - 1]? = some r) (hin : vp_in i (gN S a)) (hdg : decode cc pc = .ok (.aastore, 1)) (kk : Wx p l e R s m args below meth c Q G nL cells slots (uB S kd a i.toNatClampNeg (some b)) (pc + 1) lv rest) : Wx p l e R s m args below meth c Q G nL cells slots S pc lv (.ref b :: .int i :: .ref a :: rest) := by
  intro H locs ls hH hS hl
  obtain ⟨L, hL, hP, hD⟩ := id hH
  have ha : a ∈ L := (hL a).mp (by rw [hk]; omega)
  have hbL : b ∈ L := (hL b).mp (by rw [hkb]; omega)
  obtain ⟨q0, hq⟩ := va_pl_get (X := []) (f := ent G.2.1 S) ha
  obtain ⟨q1, hq1⟩ := va_pl_get (X := []) (f := ent G.2.1 S) hbL
  have hq0 := hq
  rw [ent_ref hk h2] at hq
  rw [ent_obj hkb (by omega)] at hq1
  refine va_astq C.1 C.2.1 C.2.2.2.2.2.1 hP hD hS q0 _ q1 _ hq ht hq1 hc hin hdg (fun H1 locs1 hP1 hD1 hS1 => kk H1 locs1 ls ?_ hS1 hl)
  have e3 := (va_pl_set (X := []) hD ha hq0).trans (va_pl_congr (L := L) (f := va_up (ent G.2.1 S) a (.inl (G.2.1 (kd / 100 - 1), gN S a, .inr (.inr (.inr (.inr (va_up (gB S kd a) i.toNatClampNeg (some b)))))))) (g := ent G.2.1 (uB S kd a i.toNatClampNeg (some b))) (fun x => by
    by_cases hx : x = a
    · subst hx; rw [va_up_self, ent_ref (S := uB S kd x i.toNatClampNeg (some b)) (k := kd) hk h2]
      refine congrArg (fun y => (Sum.inl (G.2.1 (kd / 100 - 1), gN S x, Sum.inr (Sum.inr (Sum.inr (Sum.inr y)))) : va_E)) ?_
      simp [uB, sB, gB, up2]
    · rw [va_up_ne _ _ hx]; exact (ent_sB S kd a _ hx).symm))
  exact ⟨L, hL, e3 ▸ hP1, e3 ▸ hD1⟩
theorem xtys_int {cy : Nat → ClassId} : (xtys cy)[1]? = some (cy 1, .int) := rfl
theorem Hq_push {G : XG} {S S' : HSt} {H1 : Heap} {L : List Nat} {q : Nat} {e0 : va_E} (hL : ∀ a, gK S a ≠ 0 ↔ a ∈ L) (hP : va_P G.1 vwCl (va_pl L (ent G.2.1 S) ++ [(q, e0)]) H1) (hD : va_D G.2.2 (va_pl L (ent G.2.1 S) ++ [(q, e0)])) (hk : gK S' q ≠ 0) (hko : ∀ a, a ≠ q → gK S' a = gK S a) (he : ent G.2.1 S' q = e0) (ho : ∀ a, a ≠ q → ent G.2.1 S' a = ent G.2.1 S a) : Hq G S' H1 := by
  have hn : q ∉ L := va_pl_fresh2 (X := []) hD
  have e1 : va_pl L (ent G.2.1 S) ++ [(q, e0)] = va_pl (L ++ [q]) (ent G.2.1 S') := (va_pl_push hn).trans (va_pl_congr (fun b => by
    by_cases hb : b = q
    · subst hb; rw [va_up_self]; exact he.symm
    · rw [va_up_ne _ _ hb]; exact (ho b hb).symm))
  refine ⟨L ++ [q], fun a => ?_, e1 ▸ hP, e1 ▸ hD⟩
  by_cases hb : a = q
  · subst hb; simp [hk]
  · rw [hko a hb, hL a]; simp [hb]
theorem Hq_fresh {G : XG} {S : HSt} {L : List Nat} {q : Nat} {e0 : va_E} (hL : ∀ a, gK S a ≠ 0 ↔ a ∈ L) (hD : va_D G.2.2 (va_pl L (ent G.2.1 S) ++ [(q, e0)])) : gK S q = 0 := by
  have hn : q ∉ L := va_pl_fresh2 (X := []) hD
  by_cases h : gK S q = 0
  · exact h
  · exact absurd ((hL q).mp h) hn
theorem ent_ne {cy : Nat → ClassId} {S S' : HSt} {b : Nat} (h0 : gK S' b = gK S b) (h1 : ∀ f, gI S' f b = gI S f b) (h2 : ∀ f, gJ S' f b = gJ S f b) (h3 : ∀ f, gR S' f b = gR S f b) (h4 : gN S' b = gN S b) (h5 : ∀ k, gA S' k b = gA S k b) (h6 : ∀ k, gB S' k b = gB S k b) : ent cy S' b = ent cy S b := by
  unfold ent
  rw [h0, h4, funext h1, funext h2, funext h3, funext h5, funext h6]
theorem cl2_ne {α : Type} (g : Nat → Nat → α) {a b : Nat} (v : α) (f : Nat) (h : b ≠ a) : cl2 g a v f b = g f b := by simp [cl2, h]
theorem ent_nO {cy : Nat → ClassId} (S : HSt) (k a : Nat) {b : Nat} (h : b ≠ a) : ent cy (nO S k a) b = ent cy S b :=
  ent_ne (va_up_ne _ _ h) (fun f => cl2_ne S.2.1 0 f h) (fun f => cl2_ne S.2.2.1 0 f h) (fun f => cl2_ne S.2.2.2.1 none f h) rfl (fun _ => rfl) (fun _ => rfl)
theorem ent_nA {cy : Nat → ClassId} (S : HSt) (k a n : Nat) {b : Nat} (h : b ≠ a) : ent cy (nA S k a n) b = ent cy S b :=
  ent_ne (va_up_ne _ _ h) (fun _ => rfl) (fun _ => rfl) (fun _ => rfl) (va_up_ne _ _ h) (fun f => cl2_ne S.2.2.2.2.2.1 _ f h) (fun f => cl2_ne S.2.2.2.2.2.2 _ f h)
/-- an object that an instruction makes -/
def NewR (own : String) (index kd N : Nat) : Prop := ∃ (C : String) (T : u_T) (ty : Nat → FieldType), 0 < kd ∧ kd < 14 ∧ vwCl[kd - 1]? = some (C, T, N) ∧ (∀ w ∈ u_ws C T N, w ∈ TBL) ∧ (∀ j, j < N → parseFieldDescriptor (T j).2.2.1 = some (ty j)) ∧ Cond.classLink own index C ∈ TBL ∧ Cond.instantiable C N ∈ TBL ∧ Cond.initialized C ∈ TBL ∧ ∀ j, j < N → defaultValue (ty j) = vp_V ((flds kd).map (fval (fun _ => 0) (fun _ => 0) (fun _ => none))) j
theorem x_new (C : Cx p s m c cc nL args own G) {index kd N : Nat} (F : NewR own index kd N) (hdg : decode cc pc = .ok (.new index, 3)) (h1 : cells + 1 ≤ R.cells) (h2 : slots + N ≤ R.slots) (kk : ∀ q : Nat, gK S q = 0 → Wx p l e R s m args below meth c Q G nL (cells + 1) (slots + N) (nO S kd q) (pc + 3) lv (.ref q :: rest)) : Wx p l e R s m args below meth c Q G nL cells slots S pc lv rest := by
  intro H locs ls hH hS hl
  obtain ⟨C0, T, ty, h0, hlt, hc, hin, hty, hcl, hinst, hini, hdef⟩ := F
  obtain ⟨L, hL, hP, hD⟩ := id hH
  refine va_new (ci := kd - 1) C.1 C.2.1 C.2.2.2.2.1 hin ty hty C.2.2.2.1 (C.2.2.2.2.1 _ hcl) (C.2.2.2.2.1 _ hinst) (C.2.2.2.2.1 _ hini) C.2.2.2.2.2.1 hP hD hS C.2.2.2.2.2.2.1 hc hdef h1 h2 hdg (fun q H1 hP1 hD1 hS1 => ?_)
  refine kk q (Hq_fresh hL hD1) H1 locs ls ?_ hS1 hl
  refine Hq_push (S' := nO S kd q) hL hP1 hD1 (by show va_up S.1 q kd q ≠ 0; rw [va_up_self]; omega) (fun a h => va_up_ne _ _ h) ?_ (fun a h => ent_nO S kd q h)
  rw [ent_obj (k := kd) (by show va_up S.1 q kd q = kd; rw [va_up_self]) (by omega)]
  have e1 : (fun f => gI (nO S kd q) f q) = fun _ => (0 : Int32) := by funext f; simp [gI, nO, cl2]
  have e2 : (fun f => gJ (nO S kd q) f q) = fun _ => (0 : Int64) := by funext f; simp [gJ, nO, cl2]
  have e3 : (fun f => gR (nO S kd q) f q) = fun _ => (none : Option Nat) := by funext f; simp [gR, nO, cl2]
  rw [e1, e2, e3]
theorem vname_of {s : State} {t : Nat} {cy : Nat → ClassId} {D : va_G} {tys : List (ClassId × FieldType)} {cA : ClassId} {ty : FieldType} (h : va_K D vwCl (tys ++ [(cA, ty)]) s) : va_RA s cA ty := by
  exact (h.2 tys.length (cA, ty) (by rw [List.getElem?_append_right (Nat.le_refl _), Nat.sub_self]; rfl)).2
theorem va_RA_eq {s : State} {c1 c2 : ClassId} {ty : FieldType} (h1 : va_RA s c1 ty) (h2 : va_RA s c2 ty) : c1 = c2 := by
  cases ty with
  | object C =>
    obtain ⟨_, _, _, _, _, h1⟩ := h1
    obtain ⟨_, _, _, _, _, h2⟩ := h2
    exact Option.some.inj (h1.symm.trans h2)
  | _ => exact Option.some.inj (Eq.trans (Eq.symm h1) h2)
theorem x_newaG (C : Cx p s m c cc nL args own G) {atype : ArrayType} {ty : FieldType} {kd N : Nat} {n : Int32} (t0 : Nat) (ht : (xtys G.2.1)[t0]? = some (G.2.1 t0, ty)) (hkd : kd / 100 = t0 + 1 ∧ kd < 400) (hdg : decode cc pc = .ok (.newarray atype, 2)) (hw : Cond.arrayClass (newarray.typeOf atype) ∈ TBL) (hty : newarray.typeOf atype = ty) (hdf : ∀ cA : ClassId, vp_cell cA (N, .inl (fun _ => 0)) = arrV cA N (fun _ => defaultValue ty)) (hn : ¬ n < 0) (hN : n.toNatClampNeg = N) (hb : N * componentBytes ty ≤ 536870912) (h1 : cells + 1 ≤ R.cells) (h2 : slots + N ≤ R.slots) (kk : ∀ q : Nat, gK S q = 0 → Wx p l e R s m args below meth c Q G nL (cells + 1) (slots + N) (nA S kd q N) (pc + 2) lv (.ref q :: rest)) : Wx p l e R s m args below meth c Q G nL cells slots S pc lv (.int n :: rest) := by
  intro H locs ls hH hS hl
  obtain ⟨L, hL, hP, hD⟩ := id hH
  refine va_newa C.1 C.2.1 (C.2.2.2.2.1 _ hw) hty C.2.2.2.2.2.1 hP hD hS C.2.2.2.2.2.2.1 hdf hn hN hb h1 h2 hdg (fun q cA H1 hK1 hP1 hD1 hS1 => ?_)
  have hcA : cA = G.2.1 t0 := va_RA_eq (vname_of (t := 0) (cy := G.2.1) hK1) (C.2.2.2.2.2.1.2 t0 _ ht).2
  refine kk q (Hq_fresh hL hD1) H1 locs ls ?_ hS1 hl
  have hkq : gK (nA S kd q N) q = kd := by show va_up S.1 q kd q = kd; rw [va_up_self]
  refine Hq_push (S' := nA S kd q N) hL hP1 hD1 (by rw [hkq]; omega) (fun a h => va_up_ne _ _ h) ?_ (fun a h => ent_nA S kd q N h)
  rw [ent_num hkq (by omega) hkd.2, hkd.1, hcA]
  have e1 : gA (nA S kd q N) kd q = fun _ => (0 : Int32) := by simp [gA, nA, cl2]
  have e2 : gN (nA S kd q N) q = N := by show va_up S.2.2.2.2.1 q N q = N; rw [va_up_self]
  rw [e1, e2]; rfl
theorem x_newq (C : Cx p s m c cc nL args own G) {C0 : String} {index kd N : Nat} {n : Int32} (t0 : Nat) (ht : (xtys G.2.1)[t0]? = some (G.2.1 t0, .object C0)) (hkd : kd / 100 = t0 + 1 ∧ 400 ≤ kd) (hdg : decode cc pc = .ok (.anewarray index, 3)) (hcl : Cond.classLink own index C0 ∈ TBL) (hw : aoL[t0 - 3]? = some C0) (hn : ¬ n < 0) (hN : n.toNatClampNeg = N) (hb : N * 4 ≤ 536870912) (h1 : cells + 1 ≤ R.cells) (h2 : slots + N ≤ R.slots) (kk : ∀ q : Nat, gK S q = 0 → Wx p l e R s m args below meth c Q G nL (cells + 1) (slots + N) (nA S kd q N) (pc + 3) lv (.ref q :: rest)) : Wx p l e R s m args below meth c Q G nL cells slots S pc lv (.int n :: rest) := by
  intro H locs ls hH hS hl
  obtain ⟨L, hL, hP, hD⟩ := id hH
  refine va_newq C.1 C.2.1 C.2.2.2.1 (C.2.2.2.2.1 _ hcl) (C.2.2.2.2.2.2.2.2.2.2.2.2.2.2.1 _ (List.mem_of_getElem? hw)) C.2.2.2.2.2.1 hP hD hS C.2.2.2.2.2.2.1 hn hN hb h1 h2 hdg (fun q cA H1 hK1 hP1 hD1 hS1 => ?_)
  have hcA : cA = G.2.1 t0 := va_RA_eq (vname_of (t := 0) (cy := G.2.1) hK1) (C.2.2.2.2.2.1.2 t0 _ ht).2
  refine kk q (Hq_fresh hL hD1) H1 locs ls ?_ hS1 hl
  have hkq : gK (nA S kd q N) q = kd := by show va_up S.1 q kd q = kd; rw [va_up_self]
  refine Hq_push (S' := nA S kd q N) hL hP1 hD1 (by rw [hkq]; omega) (fun a h => va_up_ne _ _ h) ?_ (fun a h => ent_nA S kd q N h)
  rw [ent_ref hkq hkd.2, hkd.1, hcA]
  have e1 : gB (nA S kd q N) kd q = fun _ => (none : Option Nat) := by simp [gB, nA, cl2]
  have e2 : gN (nA S kd q N) q = N := by show va_up S.2.2.2.2.1 q N q = N; rw [va_up_self]
  rw [e1, e2]; rfl
/-- room by levels of calls -/
def rmL (lev mc ms : Nat) : Room := { frames := lev, cells := mc, slots := ms, locals := 40 * lev }
def vI (x : Int32) : Option Value := some (.int x)
def vL (x : Int64) : Option Value := some (.long x)
def vR (x : Option Nat) : Option Value := some (va_rf x)
def vV (_ : Unit) : Option Value := none
def Wd (G : XG) (S : HSt) (U : State) : Prop := Hq G S U.heap ∧ va_K G.1 vwCl (xtys G.2.1) U ∧ (∀ q, U.heap.size ≤ q → G.2.2 q) ∧ Amb G U U.heap
def Qx {α : Type} (G : XG) (val : α → Option Value) (Post : α → HSt → Prop) : Array Value → State → Outcome → State → Prop := fun _ st o t => (∃ (r : α) (S' : HSt), o = .returned (val r) ∧ Post r S' ∧ Hq G S' t.heap) ∧ va_F G.2.2 st t
/-- A CONTRACT: from the part S and the arguments As, method y returns, and what it returns and the part then hold Post -/
def Mx {α : Type} (l : Launch) (y : MethodName) (b : ByteArray) (n : Nat) (ret : Option FieldType) (lev mc ms : Nat) (G : XG) (val : α → Option Value) (As : List Value) (S : HSt) (Post : α → HSt → Prop) : Prop :=
  Met l y (Cond.code y b n ret :: TBL) (rmL lev mc ms) (va_Pc As (Wd G S)) (Qx G val Post) mc ms G.2.2
theorem Mx.mono {α : Type} {l : Launch} {y : MethodName} {b : ByteArray} {n : Nat} {ret : Option FieldType} {lev mc ms : Nat} {G : XG} {val : α → Option Value} {As : List Value} {S : HSt} {Post Post' : α → HSt → Prop} (h : Mx l y b n ret lev mc ms G val As S Post) (hp : ∀ r S', Post r S' → Post' r S') : Mx l y b n ret lev mc ms G val As S Post' := by
  intro p e ha hc hk s m args below hf hr h1 h2
  obtain ⟨k, o, g1, g2, g3, ⟨⟨⟨r, S', q1, q2, q3⟩, q4⟩, g5⟩⟩ := h p e ha hc hk s m args below hf hr h1 h2
  exact ⟨k, o, g1, g2, g3, ⟨⟨⟨r, S', q1, hp r S' q2, q3⟩, q4⟩, g5⟩⟩
theorem x_met {α : Type} {l : Launch} {y : MethodName} {b : ByteArray} {n : Nat} {ret : Option FieldType} {lev mc ms : Nat} {G : XG} {val : α → Option Value} {As : List Value} {S : HSt} {Post : α → HSt → Prop} (lv0 : List (Nat × Value)) (hy : plainName y.cls = true) (hn : (lg_sl As).length ≤ n) (hlv : lv_args 0 As = lv0)
    (body : ∀ (p : Program) (e : Env) (s : State) (m : MethodId) (args : Array Value) (below : List Frame) (meth : Method) (c : Code), Cx p s m c b n args y.cls G → meth.sig.returnType = ret → meth.locks = false → meth.name = y.name →
      Wx p l e (rmL lev mc ms) s m args below meth c (MQ below (Qx G val Post) args s mc ms G.2.2) G n 0 0 S 0 lv0 []) : Mx l y b n ret lev mc ms G val As S Post := by
  subst hlv
  refine Met.ofW (cc := b) (maxL := n) (ret := ret) hy rfl ?_
  intro p e s m args below meth c s₁ B hml hv
  obtain ⟨rfl, hH, hK, hA, hAmb⟩ := hv
  have hts := atoms_spec (ws := Cond.code y b n ret :: TBL) B.pre
  have hown : s.vm.findClass y.cls = some m.cls := findClass_of_methodNamed B.named
  have hin : meth.name = y.name := (name_of_methodNamed B.named B.method).1
  have hl := lv_entry As (n := n) hn
  rw [lg_entry_eq]
  exact body p e s m As.toArray below meth c ⟨B.exec, B.bytes, hml, hown, fun w h => hts w (List.mem_cons_of_mem _ h), hK, hA, hAmb⟩ B.returns B.notSynchronized hin s.heap [] _ hH va_S.rf hl
theorem x_iret (C : Cx p s m c cc nL args own G) {mc ms : Nat} {Post : Int32 → HSt → Prop} {v : Int32} (hr : meth.sig.returnType = some .int) (hk : meth.locks = false) (hdg : decode cc pc = .ok (.ireturn, 1)) (h1 : cells ≤ mc) (h2 : slots ≤ ms) (hp : Post v S) : Wx p l e R s m args below meth c (MQ below (Qx G vI Post) args s mc ms G.2.2) G nL cells slots S pc lv [.int v] := fun H locs ls hH hS hl =>
  W.widen h1 h2 (W.iret C.1 C.2.1 hr (fun t ht _ => ⟨⟨v, S, rfl, hp, by rw [ht]; exact hH⟩, hS.F ht⟩) hS.2.2 hdg hk)
theorem x_zret (C : Cx p s m c cc nL args own G) {mc ms : Nat} {Post : Int32 → HSt → Prop} {v : Int32} (hr : meth.sig.returnType = some .boolean) (hk : meth.locks = false) (hdg : decode cc pc = .ok (.ireturn, 1)) (h1 : cells ≤ mc) (h2 : slots ≤ ms) (hz : narrow .boolean (.int v) = .int v) (hp : Post v S) : Wx p l e R s m args below meth c (MQ below (Qx G vI Post) args s mc ms G.2.2) G nL cells slots S pc lv [.int v] := fun H locs ls hH hS hl =>
  W.widen h1 h2 (W.zret C.1 C.2.1 hr hz (fun t ht _ => ⟨⟨v, S, rfl, hp, by rw [ht]; exact hH⟩, hS.F ht⟩) hS.2.2 hdg hk)
theorem x_cret (C : Cx p s m c cc nL args own G) {mc ms : Nat} {Post : Int32 → HSt → Prop} {v : Int32} {ty : FieldType} (hr : meth.sig.returnType = some ty) (hk : meth.locks = false) (hdg : decode cc pc = .ok (.ireturn, 1)) (h1 : cells ≤ mc) (h2 : slots ≤ ms) (hz : narrow ty (.int v) = .int v) (hp : Post v S) : Wx p l e R s m args below meth c (MQ below (Qx G vI Post) args s mc ms G.2.2) G nL cells slots S pc lv [.int v] := fun H locs ls hH hS hl =>
  W.widen h1 h2 (W.zret C.1 C.2.1 hr hz (fun t ht _ => ⟨⟨v, S, rfl, hp, by rw [ht]; exact hH⟩, hS.F ht⟩) hS.2.2 hdg hk)
theorem x_lret (C : Cx p s m c cc nL args own G) {mc ms : Nat} {Post : Int64 → HSt → Prop} {v : Int64} (hr : meth.sig.returnType = some .long) (hk : meth.locks = false) (hdg : decode cc pc = .ok (.lreturn, 1)) (h1 : cells ≤ mc) (h2 : slots ≤ ms) (hp : Post v S) : Wx p l e R s m args below meth c (MQ below (Qx G vL Post) args s mc ms G.2.2) G nL cells slots S pc lv [.long v] := fun H locs ls hH hS hl =>
  W.widen h1 h2 (W.lret C.1 C.2.1 hr (fun t ht _ => ⟨⟨v, S, rfl, hp, by rw [ht]; exact hH⟩, hS.F ht⟩) hS.2.2 hdg hk)
theorem x_vret (C : Cx p s m c cc nL args own G) {mc ms : Nat} {Post : Unit → HSt → Prop} (hr : meth.sig.returnType = none) (hk : meth.locks = false) (hdg : decode cc pc = .ok (.return_, 1)) (h1 : cells ≤ mc) (h2 : slots ≤ ms) (hp : Post () S) : Wx p l e R s m args below meth c (MQ below (Qx G vV Post) args s mc ms G.2.2) G nL cells slots S pc lv [] := fun H locs ls hH hS hl =>
  W.widen h1 h2 (W.vret C.1 C.2.1 hr (fun t ht _ => ⟨⟨(), S, rfl, hp, by rw [ht]; exact hH⟩, hS.F ht⟩) hS.2.2 hdg hk)
theorem x_aret (C : Cx p s m c cc nL args own G) {mc ms : Nat} {Post : Option Nat → HSt → Prop} {v : Option Nat} {C0 : String} (hr : meth.sig.returnType = some (.object C0)) (hk : meth.locks = false) (hdg : decode cc pc = .ok (.areturn, 1)) (h1 : cells ≤ mc) (h2 : slots ≤ ms) (hp : Post v S) : Wx p l e R s m args below meth c (MQ below (Qx G vR Post) args s mc ms G.2.2) G nL cells slots S pc lv [va_rf v] := fun H locs ls hH hS hl =>
  W.widen h1 h2 (W.aret C.1 C.2.1 hr (Or.inl ⟨_, rfl⟩) (va_rf_or v) (fun t ht _ => ⟨⟨v, S, rfl, hp, by rw [ht]; exact hH⟩, hS.F ht⟩) hS.2.2 hdg hk)
/-- behind a call -/
theorem x_after {α : Type} {val : α → Option Value} {Post : α → HSt → Prop} {mc ms : Nat} {st0 : List Value} {H : Heap} {locs : List Loc} {ls : Array Slot} {a0 : Array Value} (hS : va_S G.2.2 s.heap H locs) (hl : lv_has ls nL lv) (hr : va_Run p l e R s m args below meth c H locs cells slots mc ms (F0 m pc ls st0) rest (Qx G val Post a0) G.2.2)
    (kk : ∀ (r : α) (S' : HSt), Post r S' → Wx p l e R s m args below meth c Q G nL (cells + mc) (slots + ms) S' (pc + 3) lv ((val r).toList ++ rest)) : W p l e R s m args below meth c H locs cells slots Q (F0 m pc ls st0) := by
  intro T hT X
  obtain ⟨v, st₀, t, T', L, h0, X', hL, e1, e2, ⟨⟨r, S', hv, hp, hH⟩, hz, hk⟩, st⟩ := hr T hT X
  cases hv
  rw [h0] at hz hk
  obtain ⟨t2, a1, b1⟩ := kk r S' hp T'.heap (locs ++ L) ls (by rw [e1]; exact hH)
    ⟨Nat.le_trans hS.1 (by rw [e1]; exact hz), fun q h1 h2 => by rw [e1, hk q (Nat.lt_of_lt_of_le h1 hS.1) h2]; exact hS.2.1 q h1 h2, fun q hq => by
      rcases List.mem_append.mp hq with h | h
      · exact hS.2.2 q h
      · exact hL q h⟩ hl T' rfl X'
  exact ⟨t2, st t2 a1, b1⟩
/-- a method of the claim: what stands of it in the tables -/
def MeR (y : MethodName) (b : ByteArray) (n : Nat) (ret : Option FieldType) (na : Nat) : Prop := Cond.code y b n ret ∈ TBL ∧ Cond.initialized y.cls ∈ TBL ∧ y.cls ≠ "java/lang/invoke/MethodHandle" ∧ y.cls ≠ "java/lang/invoke/VarHandle" ∧ (parseMethodDescriptor y.desc).map (fun d => d.parameters.length) = some na ∧ n ≤ 21
/-- a virtual method's receiver -/
def MeV (y : MethodName) (kd : Nat) : Prop := 0 < kd ∧ kd < 14 ∧ Cond.instanceMethod y ∈ TBL ∧ Cond.selects y.cls y y ∈ TBL ∧ ∃ (T : u_T) (N : Nat), vwCl[kd - 1]? = some (y.cls, T, N)
theorem Wd.of {H : Heap} {locs : List Loc} {As : List Value} (C : Cx p s m c cc nL args own G) (hH : Hq G S H) (hS : va_S G.2.2 s.heap H locs) : FrameBlind (va_Pc As (Wd G S)) ∧ ∀ U : State, U.heap = H → s.WarmedH U.vm → va_Pc As (Wd G S) As.toArray U := by
  refine ⟨fun a U g mk q => ?_, fun U hU hW => ⟨rfl, by rw [hU]; exact hH, va_K.moved hW.alike C.2.2.2.2.2.1, fun q hq => C.2.2.2.2.2.2.1 q (Nat.le_trans hS.1 (by rw [← hU]; exact hq)), by rw [hU]; exact C.2.2.2.2.2.2.2.at hW hS⟩⟩
  obtain ⟨q0, q1, q2, q3, q4⟩ := q
  exact ⟨q0, q1, va_K.moved (u := U) (U := U.calling g mk a) (Vm.Alike.refl U.vm) q2, q3, q4.same rfl⟩
theorem recvX {H : Heap} {locs : List Loc} {a kd : Nat} {y : MethodName} (C : Cx p s m c cc nL args own G) (M : MeV y kd) (hk : gK S a = kd) (hH : Hq G S H) : ∃ cell : Cell, H[a]? = some cell ∧ cell.vm.isStatics = false ∧ s.vm.findClass y.cls = some cell.cls := by
  obtain ⟨h0, h1, _, _, T, N, hc⟩ := M
  obtain ⟨L, hL, hP, hD⟩ := hH
  have ha : a ∈ L := (hL a).mp (by rw [hk]; omega)
  obtain ⟨q0, hq⟩ := va_pl_get (X := []) (f := ent G.2.1 S) ha
  rw [ent_obj hk (by omega)] at hq
  exact va_recv C.2.2.2.2.2.1 hP hc hq
section XCALL
variable {α : Type} {y : MethodName} {b : ByteArray} {n na : Nat} {ret : Option FieldType} {lev mc ms lev0 mc0 ms0 : Nat} {val : α → Option Value} {Post : α → HSt → Prop} {a kd index : Nat} {As : List Value} {host : String}
theorem rm_ok (hn : n ≤ 21) (hlev : lev + 1 ≤ lev0) : (rmL lev mc ms).frames + 1 ≤ (rmL lev0 mc0 ms0).frames ∧ 8 + (n + 11) + (rmL lev mc ms).locals ≤ (rmL lev0 mc0 ms0).locals := ⟨hlev, by show 8 + (n + 11) + 40 * lev ≤ 40 * lev0; omega⟩
theorem x_callV (C : Cx p s m c cc nL args own G) (As : List Value) (M : MeR y b n ret na) (MV : MeV y kd) (hlk : Cond.methodLink own index y ∈ TBL) (hM : Mx l y b n ret lev mc ms G val (.ref a :: As) S Post) (hk : gK S a = kd) (hna : As.length = na) (hrest : (rest.map fun v => v.category).sum ≤ 8) (hdg : decode cc pc = .ok (.invokevirtual index, 3)) (hlev : lev + 1 ≤ lev0) (hmc : cells + mc ≤ mc0) (hms : slots + ms ≤ ms0)
    (kk : ∀ (r : α) (S' : HSt), Post r S' → Wx p l e (rmL lev0 mc0 ms0) s m args below meth c Q G nL (cells + mc) (slots + ms) S' (pc + 3) lv ((val r).toList ++ rest)) : Wx p l e (rmL lev0 mc0 ms0) s m args below meth c Q G nL cells slots S pc lv (As.reverse ++ .ref a :: rest) := by
  intro H locs ls hH hS hl
  obtain ⟨hcode, hini, hd1, hd2, hd3, hn⟩ := M
  have hw := Wd.of (As := .ref a :: As) C hH hS
  refine x_after hS hl (va_runV (As := As) (rest := rest) (nL := nL) (Ts := TBL) ⟨C.1, C.2.1, C.2.2.1, C.2.2.2.1, C.2.2.2.2.1⟩ hM (cwV (C := y.cls) na C.2.2.2.2.1 (fun w hw => ?_) rfl rfl rfl ⟨rfl, hd1, hd2, hd3⟩ (rm_ok hn hlev)) ⟨hw.1, recvX (locs := locs) C MV hk hH, hw.2⟩ rfl hna hl.1 rfl (lv_room hrest) hdg ⟨hmc, hms⟩) kk
  have h9 : w ∈ TBL := by
    rcases List.mem_append.mp hw with h | h
    · have h := h
      simp only [List.mem_cons, List.not_mem_nil, or_false] at h
      rcases h with rfl | rfl | rfl | rfl
      · exact hlk
      · exact MV.2.2.1
      · exact MV.2.2.2.1
      · exact hini
    · rcases List.mem_cons.mp h with rfl | h
      · exact hcode
      · exact h
  exact ⟨h9, good_of_word (TBL_good w h9)⟩
theorem x_callS (C : Cx p s m c cc nL args own G) (As : List Value) (M : MeR y b n ret na) (hst : Cond.static y ∈ TBL) (hlk : Cond.methodLink own index y ∈ TBL) (hM : Mx l y b n ret lev mc ms G val As S Post) (hna : As.length = na) (hrest : (rest.map fun v => v.category).sum ≤ 8) (hdg : decode cc pc = .ok (.invokestatic index, 3)) (hlev : lev + 1 ≤ lev0) (hmc : cells + mc ≤ mc0) (hms : slots + ms ≤ ms0)
    (kk : ∀ (r : α) (S' : HSt), Post r S' → Wx p l e (rmL lev0 mc0 ms0) s m args below meth c Q G nL (cells + mc) (slots + ms) S' (pc + 3) lv ((val r).toList ++ rest)) : Wx p l e (rmL lev0 mc0 ms0) s m args below meth c Q G nL cells slots S pc lv (As.reverse ++ rest) := by
  intro H locs ls hH hS hl
  obtain ⟨hcode, hini, hd1, hd2, hd3, hn⟩ := M
  have hw := Wd.of (As := As) C hH hS
  have hG : GoodIn TBL (Cond.code y b n ret :: TBL) := TBL_GL hcode
  exact x_after hS hl (va_runS (As := As) (rest := rest) (nL := nL) (Ts := TBL) ⟨C.1, C.2.1, C.2.2.1, C.2.2.2.1, C.2.2.2.2.1⟩ hM ⟨callB_of na C.2.2.2.2.1 hG rfl rfl rfl (C.2.2.2.2.1 _ hini) (C.2.2.2.2.1 _ hlk) ⟨hd1, hd2, hd3⟩ (rm_ok hn hlev), C.2.2.2.2.1 _ hst⟩ hw rfl hna hl.1 rfl (lv_room hrest) hdg ⟨hmc, hms⟩) kk
theorem x_callSN (C : Cx p s m c cc nL args own G) (As : List Value) (M : MeR y b n ret na) (hst : Cond.static y ∈ TBL) (hlk : (own, index, y, host) ∈ nstL) (hM : Mx l y b n ret lev mc ms G val As S Post) (hna : As.length = na) (hrest : (rest.map fun v => v.category).sum ≤ 8) (hdg : decode cc pc = .ok (.invokestatic index, 3)) (hlev : lev + 1 ≤ lev0) (hmc : cells + mc ≤ mc0) (hms : slots + ms ≤ ms0)
    (kk : ∀ (r : α) (S' : HSt), Post r S' → Wx p l e (rmL lev0 mc0 ms0) s m args below meth c Q G nL (cells + mc) (slots + ms) S' (pc + 3) lv ((val r).toList ++ rest)) : Wx p l e (rmL lev0 mc0 ms0) s m args below meth c Q G nL cells slots S pc lv (As.reverse ++ rest) := by
  intro H locs ls hH hS hl
  obtain ⟨hcode, hini, hd1, hd2, hd3, hn⟩ := M
  have hw := Wd.of (As := As) C hH hS
  have hG : GoodIn TBL (Cond.code y b n ret :: TBL) := TBL_GL hcode
  exact x_after hS hl (va_runSN (As := As) (rest := rest) (nL := nL) (Ts := TBL) ⟨C.1, C.2.1, C.2.2.1, C.2.2.2.1, C.2.2.2.2.1⟩ hM ⟨va_cnB na C.2.2.2.2.1 hG rfl rfl rfl (C.2.2.2.2.2.2.2.2.2.2.2.2.2.1 _ hlk) (C.2.2.2.2.1 _ hini) ⟨hd1, hd2, hd3⟩ (rm_ok hn hlev), C.2.2.2.2.1 _ hst, trivial⟩ hw rfl hna hl.1 rfl (lv_room hrest) hdg ⟨hmc, hms⟩) kk
theorem x_callI {Post : Unit → HSt → Prop} (C : Cx p s m c cc nL args own G) (As : List Value) (M : MeR y b n none na) (hy1 : y.name = "<init>") (hin : Cond.instanceMethod y ∈ TBL) (hlk : Cond.methodLink own index y ∈ TBL) (hM : Mx l y b n none lev mc ms G vV (.ref a :: As) S Post) (hna : As.length = na) (hrest : (rest.map fun v => v.category).sum ≤ 8) (hdg : decode cc pc = .ok (.invokespecial index, 3)) (hlev : lev + 1 ≤ lev0) (hmc : cells + mc ≤ mc0) (hms : slots + ms ≤ ms0)
    (kk : ∀ (S' : HSt), Post () S' → Wx p l e (rmL lev0 mc0 ms0) s m args below meth c Q G nL (cells + mc) (slots + ms) S' (pc + 3) lv rest) : Wx p l e (rmL lev0 mc0 ms0) s m args below meth c Q G nL cells slots S pc lv (As.reverse ++ .ref a :: rest) := by
  intro H locs ls hH hS hl
  obtain ⟨hcode, hini, hd1, hd2, hd3, hn⟩ := M
  have hw := Wd.of (As := .ref a :: As) C hH hS
  have hG : GoodIn TBL (Cond.code y b n none :: TBL) := TBL_GL hcode
  exact x_after hS hl (va_runI (As := As) (rest := rest) (nL := nL) (Ts := TBL) ⟨C.1, C.2.1, C.2.2.1, C.2.2.2.1, C.2.2.2.2.1⟩ hM (cwI na C.2.2.2.2.1 hG rfl rfl rfl (C.2.2.2.2.1 _ hini) (C.2.2.2.2.1 _ hlk) (C.2.2.2.2.1 _ hin) hy1 ⟨hd1, hd2, hd3⟩ (rm_ok hn hlev)) hw rfl hna hl.1 rfl (lv_room hrest) hdg ⟨hmc, hms⟩) (fun _ S' h => kk S' h)
theorem x_callIN {Post : Unit → HSt → Prop} (C : Cx p s m c cc nL args own G) (As : List Value) (M : MeR y b n none na) (hy1 : y.name = "<init>") (hin : Cond.instanceMethod y ∈ TBL) (hlk : (own, index, y, host) ∈ nstL) (hM : Mx l y b n none lev mc ms G vV (.ref a :: As) S Post) (hna : As.length = na) (hrest : (rest.map fun v => v.category).sum ≤ 8) (hdg : decode cc pc = .ok (.invokespecial index, 3)) (hlev : lev + 1 ≤ lev0) (hmc : cells + mc ≤ mc0) (hms : slots + ms ≤ ms0)
    (kk : ∀ (S' : HSt), Post () S' → Wx p l e (rmL lev0 mc0 ms0) s m args below meth c Q G nL (cells + mc) (slots + ms) S' (pc + 3) lv rest) : Wx p l e (rmL lev0 mc0 ms0) s m args below meth c Q G nL cells slots S pc lv (As.reverse ++ .ref a :: rest) := by
  intro H locs ls hH hS hl
  obtain ⟨hcode, hini, hd1, hd2, hd3, hn⟩ := M
  have hw := Wd.of (As := .ref a :: As) C hH hS
  have hG : GoodIn TBL (Cond.code y b n none :: TBL) := TBL_GL hcode
  exact x_after hS hl (va_runIN (As := As) (rest := rest) (nL := nL) (Ts := TBL) ⟨C.1, C.2.1, C.2.2.1, C.2.2.2.1, C.2.2.2.2.1⟩ hM ⟨va_cnB na C.2.2.2.2.1 hG rfl rfl rfl (C.2.2.2.2.2.2.2.2.2.2.2.2.2.1 _ hlk) (C.2.2.2.2.1 _ hini) ⟨hd1, hd2, hd3⟩ (rm_ok hn hlev), hy1, C.2.2.2.2.1 _ hin⟩ hw rfl hna hl.1 rfl (lv_room hrest) hdg ⟨hmc, hms⟩) (fun _ S' h => kk S' h)
end XCALL
theorem x_objInit (C : Cx p s m c cc nL args own G) {idx a : Nat} (hlk : Cond.methodLink own idx Lib.objectInit ∈ TBL) (hin : Cond.instanceMethod Lib.objectInit ∈ TBL) (hco : Cond.code Lib.objectInit ⟨#[0xb1]⟩ 1 none ∈ TBL) (hdg : decode cc pc = .ok (.invokespecial idx, 3)) (h1 : 1 ≤ R.frames) (h2 : (rest.map fun v => v.category).sum + 12 ≤ R.locals) (kk : Wx p l e R s m args below meth c Q G nL cells slots S (pc + 3) lv rest) : Wx p l e R s m args below meth c Q G nL cells slots S pc lv (.ref a :: rest) := fun H locs ls hH hS hl =>
  W.objInit C.1 C.2.1 C.2.2.2.1 (C.2.2.2.2.1 _ hlk) (C.2.2.2.2.1 _ hin) (C.2.2.2.2.1 _ hco) rfl (by rw [C.2.2.1]; exact hl.1) rfl hdg h1 (by show 2 * 0 + _ + 12 ≤ _; omega) (kk H locs ls hH hS hl)
theorem x_max (C : Cx p s m c cc nL args own G) {index : Nat} {x y : Int32} (hlk : Cond.methodLink own index Lib.Math.max.name ∈ TBL) (hst : Cond.static Lib.Math.max.name ∈ TBL) (hini : Cond.initialized "java/lang/Math" ∈ TBL) (hco : Cond.code Lib.Math.max.name Lib.Math.max.code 2 (some .int) ∈ TBL) (hdg : decode cc pc = .ok (.invokestatic index, 3)) (h1 : 1 ≤ R.frames) (h2 : (rest.map fun v => v.category).sum + 13 ≤ R.locals) (h3 : cells ≤ R.cells) (h4 : slots ≤ R.slots) (kk : Wx p l e R s m args below meth c Q G nL cells slots S (pc + 3) lv (.int (if x < y then y else x) :: rest)) : Wx p l e R s m args below meth c Q G nL cells slots S pc lv (.int y :: .int x :: rest) := fun H locs ls hH hS hl =>
  va_mmax C.1 C.2.1 (by rw [C.2.2.1]; exact hl.1.symm) C.2.2.2.1 (C.2.2.2.2.1 _ hlk) (C.2.2.2.2.1 _ hst) (C.2.2.2.2.1 _ hini) (C.2.2.2.2.1 _ hco) h1 h2 h3 h4 hdg (kk H locs ls hH hS hl)

end XR
