/-! THE POOL: cells by their numbers. A shape says how many cells there are, of which kind each is (0 .. 12 an object of that place in vwCl, 13 an array of ints, 14 .. 16 an array of references), to which number a reference leads, how long an array is, at which address a number lies; the numbers' contents are a function of number and place. -/
abbrev Vt : Type := Nat → Nat → Int32
abbrev Sh : Type := Nat × (Nat → Nat) × (Nat → Nat → Option Nat) × (Nat → Nat) × (Nat → Nat)
def sgl : List (List Bool) := [[false, false, true], [true, false, false, false], [false, false, false, true, true], [false, false], [false, false, true, true, true, true, true], [false, true, true, true], [false, false], [false, false, true], [false, false], [false, false, false, false, true, true, true, true], [false], [true, true, true, true, true, true, true, true, false, false], [false, false, true, true, true, false, false, false, true, true, true, true, true, true, true, false, false, false, false, true, true, false, true, true, true, false, false, true, true, false, false, true, true, true, false, true, true, true]]
def sg (c : Nat) : List Bool := sgl.getD c []
def fl (V : Nat → Int32) (G : Nat → Option Nat) : Nat → List Bool → List Value
  | _, [] => []
  | i, b :: bs => (bif b then va_rf (G i) else .int (V i)) :: fl V G (i + 1) bs
theorem fl_get (V : Nat → Int32) (G : Nat → Option Nat) : ∀ (bs : List Bool) (i j : Nat), (fl V G i bs)[j]? = (bs[j]?).map (fun b => bif b then va_rf (G (i + j)) else .int (V (i + j)))
  | [], i, j => by simp [fl]
  | b :: bs, i, 0 => by simp [fl]
  | b :: bs, i, j + 1 => by
    rw [show i + (j + 1) = (i + 1) + j by omega]
    simpa [fl] using fl_get V G bs (i + 1) j
theorem fl_len (V : Nat → Int32) (G : Nat → Option Nat) : ∀ (bs : List Bool) (i : Nat), (fl V G i bs).length = bs.length
  | [], i => rfl
  | b :: bs, i => by simp [fl, fl_len V G bs (i + 1)]
theorem fl_set (V V2 : Nat → Int32) (G : Nat → Option Nat) (bs : List Bool) (j : Nat) (h : bs[j]? = some false) (ho : ∀ n, n ≠ j → V2 n = V n) : (fl V G 0 bs).set j (.int (V2 j)) = fl V2 G 0 bs := by
  have hj : j < bs.length := (List.getElem?_eq_some_iff.mp h).1
  apply List.ext_getElem?
  intro n
  by_cases hn : n = j
  · subst hn
    rw [List.getElem?_set_self (by rw [fl_len]; exact hj), fl_get, h]
    simp
  · rw [List.getElem?_set_ne (Ne.symm hn), fl_get, fl_get]
    cases bs[n]? with
    | none => rfl
    | some b => cases b <;> simp [ho n hn]
def gE (cy : Nat → ClassId) (σ : Sh) (V : Vt) (k : Nat) : va_E :=
  if σ.2.1 k < 13 then .inr (σ.2.1 k, fl (V k) (fun i => (σ.2.2.1 k i).map σ.2.2.2.2) 0 (sg (σ.2.1 k)))
  else if σ.2.1 k = 13 then .inl (cy 13, σ.2.2.2.1 k, .inl (V k))
  else .inl (cy (σ.2.1 k), σ.2.2.2.1 k, .inr (.inr (.inr (.inr (fun i => (σ.2.2.1 k i).map σ.2.2.2.2)))))
def gW (cy : Nat → ClassId) (σ : Sh) (V : Vt) : va_W := (List.range σ.1).map fun k => (σ.2.2.2.2 k, gE cy σ V k)
theorem gW_get {cy : Nat → ClassId} {σ : Sh} {V : Vt} {k : Nat} (h : k < σ.1) : (gW cy σ V)[k]? = some (σ.2.2.2.2 k, gE cy σ V k) := by
  unfold gW
  rw [List.getElem?_map, List.getElem?_range h]
  rfl
theorem gW_out {cy : Nat → ClassId} {σ : Sh} {V : Vt} {k : Nat} (h : ¬ k < σ.1) : (gW cy σ V)[k]? = none := by
  rw [List.getElem?_eq_none_iff]
  unfold gW
  simp
  omega
theorem gE_row {cy : Nat → ClassId} {σ : Sh} {V V2 : Vt} {k : Nat} (h : V2 k = V k) : gE cy σ V2 k = gE cy σ V k := by
  unfold gE
  rw [h]
theorem gW_set {cy : Nat → ClassId} {σ : Sh} {V V2 : Vt} {k : Nat} {e : va_E} (h : k < σ.1) (he : gE cy σ V2 k = e) (ho : ∀ j, j ≠ k → V2 j = V j) : (gW cy σ V).set k (σ.2.2.2.2 k, e) = gW cy σ V2 := by
  apply List.ext_getElem?
  intro n
  by_cases hn : n = k
  · subst hn
    rw [List.getElem?_set_self (by unfold gW; simpa using h), gW_get h, he]
  · rw [List.getElem?_set_ne (Ne.symm hn)]
    by_cases hl : n < σ.1
    · rw [gW_get hl, gW_get hl, gE_row (ho n hn)]
    · rw [gW_out hl, gW_out hl]
def up2 (V : Vt) (k i : Nat) (x : Int32) : Vt := fun a j => if a = k ∧ j = i then x else V a j
theorem up2_s (V : Vt) (k i : Nat) (x : Int32) : up2 V k i x k i = x := by simp [up2]
theorem up2_k (V : Vt) {k i a : Nat} (x : Int32) (h : a ≠ k) : up2 V k i x a = V a := by funext j; simp [up2, h]
theorem up2_i (V : Vt) {k i a j : Nat} (x : Int32) (h : j ≠ i) : up2 V k i x a j = V a j := by simp [up2, h]
theorem gE_obj {cy : Nat → ClassId} {σ : Sh} {V : Vt} {k ci : Nat} (h : σ.2.1 k = ci) (hc : ci < 13) : gE cy σ V k = .inr (ci, fl (V k) (fun i => (σ.2.2.1 k i).map σ.2.2.2.2) 0 (sg ci)) := by
  subst h
  unfold gE
  rw [if_pos hc]
theorem gE_ints {cy : Nat → ClassId} {σ : Sh} {V : Vt} {k : Nat} (h : σ.2.1 k = 13) : gE cy σ V k = .inl (cy 13, σ.2.2.2.1 k, .inl (V k)) := by
  unfold gE
  rw [h]
  rfl
theorem gE_refs {cy : Nat → ClassId} {σ : Sh} {V : Vt} {k ci : Nat} (h : σ.2.1 k = ci) (hc : 13 < ci) : gE cy σ V k = .inl (cy ci, σ.2.2.2.1 k, .inr (.inr (.inr (.inr (fun i => (σ.2.2.1 k i).map σ.2.2.2.2))))) := by
  subst h
  unfold gE
  rw [if_neg (by omega), if_neg (by omega)]
/-! THE JUDGEMENT: from every heap that holds the pool, at this frame, the machine comes to Q -/
def J (p : Program) (l : Launch) (e : Env) (R : Room) (s : State) (m : MethodId) (args : Array Value) (below : List Frame) (meth : Method) (c : Code) (A : Nat → Prop) (D : va_G) (cy : Nat → ClassId) (cells slots : Nat) (Q : State → Prop) (σ : Sh) (V : Vt) (g : JFrame) : Prop :=
  ∀ (H : Heap) (locs : List Loc), va_P D vwCl (gW cy σ V) H → va_D A (gW cy σ V) → va_S A s.heap H locs → W p l e R s m args below meth c H locs cells slots Q g
def NWn : List Cond := NWL.filter (fun w => match w with | .methodLinkNest _ _ _ _ => true | _ => false)
/-- what isn't a good word: the nest's links, the arrays of references, the kinds of throwers -/
def NW (U : State) : Prop := (∀ w ∈ NWn, va_Nw w U) ∧ (va_AO RX2 U ∧ va_AO RX6 U ∧ va_AO RX7 U) ∧ (va_Nw (.castable RX8 RX3) U ∧ va_Nw (.castable RX3 RX6) U ∧ va_Nw (.castable RX8 RX6) U) ∧ (va_Nc RX6 RX3 U ∧ va_Nc RX6 RX8 U ∧ va_Nc RX3 RX8 U)
theorem NWn_warm {s U : State} (hW : s.WarmedH U.vm) : ∀ w ∈ NWn, va_Nw w s → va_Nw w U := by
  intro w hw h1
  have h2 := (List.mem_filter.mp hw).2
  cases w with
  | methodLinkNest a i x h => exact va_Nw.warmM hW h1
  | _ => cases h2
theorem NW.warm {s U : State} (hW : s.WarmedH U.vm) (h : NW s) : NW U := ⟨fun w hw => NWn_warm hW w hw (h.1 w hw), ⟨h.2.1.1.moved hW.alike, h.2.1.2.1.moved hW.alike, h.2.1.2.2.moved hW.alike⟩, ⟨va_Nw.warmC hW h.2.2.1.1, va_Nw.warmC hW h.2.2.1.2.1, va_Nw.warmC hW h.2.2.1.2.2⟩, h.2.2.2.1.moved hW.alike, h.2.2.2.2.1.moved hW.alike, h.2.2.2.2.2.moved hW.alike⟩
theorem NWn_tab : ∀ w ∈ NWn, w.onTables = true := by
  intro w hw
  have h2 := (List.mem_filter.mp hw).2
  cases w with
  | methodLinkNest a i x h => rfl
  | _ => cases h2
theorem NW.same {s U : State} (hv : s.vm = U.vm) (h : NW s) : NW U := by
  have ha : s.vm.Alike U.vm := by rw [hv]; exact Vm.Alike.refl U.vm
  exact ⟨fun w hw => va_Nw.same (NWn_tab w hw) hv (h.1 w hw), ⟨h.2.1.1.moved ha, h.2.1.2.1.moved ha, h.2.1.2.2.moved ha⟩, ⟨va_Nw.same rfl hv h.2.2.1.1, va_Nw.same rfl hv h.2.2.1.2.1, va_Nw.same rfl hv h.2.2.1.2.2⟩, h.2.2.2.1.moved ha, h.2.2.2.2.1.moved ha, h.2.2.2.2.2.moved ha⟩
def tysL (cy : Nat → ClassId) : List (ClassId × FieldType) := [(cy 13, .int), (cy 14, .object RX2), (cy 15, .object RX6), (cy 16, .object RX7)]
/-- what stands fast in a method: the machine, the code, the tables' words, the nest's words -/
def Cx (p : Program) (s : State) (m : MethodId) (args : Array Value) (meth : Method) (c : Code) (A : Nat → Prop) (D : va_G) (cy : Nat → ClassId) (own : String) (cc : ByteArray) (nL : Nat) (ret : Option FieldType) : Prop :=
  p.tables.exec = Jvm.exec ∧ c.code = cc ∧ c.maxLocals = nL ∧ s.vm.findClass own = some m.cls ∧ (∀ w ∈ WALL, w.before args s = true) ∧ va_K D vwCl (tysL cy) s ∧ NW s ∧ meth.locks = false ∧ meth.sig.returnType = ret ∧ (∀ q, s.heap.size ≤ q → A q)
section JL
variable {p : Program} {l : Launch} {e : Env} {R : Room} {s : State} {m : MethodId} {args : Array Value} {below : List Frame} {meth : Method} {c : Code} {A : Nat → Prop} {D : va_G} {cy : Nat → ClassId} {cells slots : Nat} {Q : State → Prop} {σ : Sh} {V : Vt} {own : String} {cc : ByteArray} {nL : Nat} {ret : Option FieldType} {pc : Nat} {ls : Array Slot} {rest : List Value}
theorem j_iconst (C : Cx p s m args meth c A D cy own cc nL ret) {n : Int} {v : Int32} (d : decode cc pc = .ok (.iconst n, 1)) (hv : Int32.ofInt n = v) (k : J p l e R s m args below meth c A D cy cells slots Q σ V (F0 m (pc + 1) ls (.int v :: rest))) : J p l e R s m args below meth c A D cy cells slots Q σ V (F0 m pc ls rest) := fun H locs hP hD hS => lv_iconst C.1 C.2.1 d hv (k H locs hP hD hS)
theorem j_bipush (C : Cx p s m args meth c A D cy own cc nL ret) {n : Int} {v : Int32} (d : decode cc pc = .ok (.bipush n, 2)) (hv : (Int8.ofInt n).toInt32 = v) (k : J p l e R s m args below meth c A D cy cells slots Q σ V (F0 m (pc + 2) ls (.int v :: rest))) : J p l e R s m args below meth c A D cy cells slots Q σ V (F0 m pc ls rest) := fun H locs hP hD hS => lv_bipush C.1 C.2.1 d hv (k H locs hP hD hS)
theorem j_sipush (C : Cx p s m args meth c A D cy own cc nL ret) {n : Int} {v : Int32} (d : decode cc pc = .ok (.sipush n, 3)) (hv : (Int16.ofInt n).toInt32 = v) (k : J p l e R s m args below meth c A D cy cells slots Q σ V (F0 m (pc + 3) ls (.int v :: rest))) : J p l e R s m args below meth c A D cy cells slots Q σ V (F0 m pc ls rest) := fun H locs hP hD hS => lv_sipush C.1 C.2.1 d hv (k H locs hP hD hS)
theorem j_lconst (C : Cx p s m args meth c A D cy own cc nL ret) {n : Fin 2} {v : Int64} (d : decode cc pc = .ok (.lconst n, 1)) (hv : Int64.ofNat (n : Nat) = v) (k : J p l e R s m args below meth c A D cy cells slots Q σ V (F0 m (pc + 1) ls (.long v :: rest))) : J p l e R s m args below meth c A D cy cells slots Q σ V (F0 m pc ls rest) := fun H locs hP hD hS => lv_lconst C.1 C.2.1 d hv (k H locs hP hD hS)
theorem j_iload_n (C : Cx p s m args meth c A D cy own cc nL ret) {q : Fin 4} {i : Nat} {x : Int32} (d : decode cc pc = .ok (.iload_n q, 1)) (hi : (q : Nat) = i) (hl : ls[i]? = some (.val (.int x))) (k : J p l e R s m args below meth c A D cy cells slots Q σ V (F0 m (pc + 1) ls (.int x :: rest))) : J p l e R s m args below meth c A D cy cells slots Q σ V (F0 m pc ls rest) := fun H locs hP hD hS => lv_iload_n C.1 C.2.1 d hi hl (k H locs hP hD hS)
theorem j_iload (C : Cx p s m args meth c A D cy own cc nL ret) {i : Nat} {x : Int32} (d : decode cc pc = .ok (.iload i, 2)) (hl : ls[i]? = some (.val (.int x))) (k : J p l e R s m args below meth c A D cy cells slots Q σ V (F0 m (pc + 2) ls (.int x :: rest))) : J p l e R s m args below meth c A D cy cells slots Q σ V (F0 m pc ls rest) := fun H locs hP hD hS => lv_iload C.1 C.2.1 d hl (k H locs hP hD hS)
theorem j_lload_n (C : Cx p s m args meth c A D cy own cc nL ret) {q : Fin 4} {i : Nat} {x : Int64} (d : decode cc pc = .ok (.lload_n q, 1)) (hi : (q : Nat) = i) (hl : ls[i]? = some (.val (.long x))) (k : J p l e R s m args below meth c A D cy cells slots Q σ V (F0 m (pc + 1) ls (.long x :: rest))) : J p l e R s m args below meth c A D cy cells slots Q σ V (F0 m pc ls rest) := fun H locs hP hD hS => lv_lload_n C.1 C.2.1 d hi hl (k H locs hP hD hS)
theorem j_lload (C : Cx p s m args meth c A D cy own cc nL ret) {i : Nat} {x : Int64} (d : decode cc pc = .ok (.lload i, 2)) (hl : ls[i]? = some (.val (.long x))) (k : J p l e R s m args below meth c A D cy cells slots Q σ V (F0 m (pc + 2) ls (.long x :: rest))) : J p l e R s m args below meth c A D cy cells slots Q σ V (F0 m pc ls rest) := fun H locs hP hD hS => lv_lload C.1 C.2.1 d hl (k H locs hP hD hS)
theorem j_aload_n (C : Cx p s m args meth c A D cy own cc nL ret) {q : Fin 4} {i : Nat} {x : Nat} (d : decode cc pc = .ok (.aload_n q, 1)) (hi : (q : Nat) = i) (hl : ls[i]? = some (.val (.ref x))) (k : J p l e R s m args below meth c A D cy cells slots Q σ V (F0 m (pc + 1) ls (.ref x :: rest))) : J p l e R s m args below meth c A D cy cells slots Q σ V (F0 m pc ls rest) := fun H locs hP hD hS => lv_aload_n C.1 C.2.1 d hi hl (k H locs hP hD hS)
theorem j_aload (C : Cx p s m args meth c A D cy own cc nL ret) {i : Nat} {x : Nat} (d : decode cc pc = .ok (.aload i, 2)) (hl : ls[i]? = some (.val (.ref x))) (k : J p l e R s m args below meth c A D cy cells slots Q σ V (F0 m (pc + 2) ls (.ref x :: rest))) : J p l e R s m args below meth c A D cy cells slots Q σ V (F0 m pc ls rest) := fun H locs hP hD hS => lv_aload C.1 C.2.1 d hl (k H locs hP hD hS)
theorem j_aload_nN (C : Cx p s m args meth c A D cy own cc nL ret) {q : Fin 4} {i : Nat} (d : decode cc pc = .ok (.aload_n q, 1)) (hi : (q : Nat) = i) (hl : ls[i]? = some (.val .null)) (k : J p l e R s m args below meth c A D cy cells slots Q σ V (F0 m (pc + 1) ls (.null :: rest))) : J p l e R s m args below meth c A D cy cells slots Q σ V (F0 m pc ls rest) := fun H locs hP hD hS => lv_aload_nN C.1 C.2.1 d hi hl (k H locs hP hD hS)
theorem j_aloadN (C : Cx p s m args meth c A D cy own cc nL ret) {i : Nat} (d : decode cc pc = .ok (.aload i, 2)) (hl : ls[i]? = some (.val .null)) (k : J p l e R s m args below meth c A D cy cells slots Q σ V (F0 m (pc + 2) ls (.null :: rest))) : J p l e R s m args below meth c A D cy cells slots Q σ V (F0 m pc ls rest) := fun H locs hP hD hS => lv_aloadN C.1 C.2.1 d hl (k H locs hP hD hS)
theorem j_istore_n (C : Cx p s m args meth c A D cy own cc nL ret) {q : Fin 4} {i : Nat} {x : Int32} {lv lv2 : List (Nat × Value)} (d : decode cc pc = .ok (.istore_n q, 1)) (hi : (q : Nat) = i) (h : lv_has ls nL lv) (hn : i < nL) (hl : (i, Value.int x) :: lv.filter (fun q => !(q.1 == i) && !(q.1 + 1 == i && q.2.category == 2)) = lv2) (k : ∀ ls2 : Array Slot, lv_has ls2 nL lv2 → J p l e R s m args below meth c A D cy cells slots Q σ V (F0 m (pc + 1) ls2 rest)) : J p l e R s m args below meth c A D cy cells slots Q σ V (F0 m pc ls (.int x :: rest)) := fun H locs hP hD hS => lv_istore_n C.1 C.2.1 d hi h hn hl (fun ls2 h2 => k ls2 h2 H locs hP hD hS)
theorem j_istore (C : Cx p s m args meth c A D cy own cc nL ret) {i : Nat} {x : Int32} {lv lv2 : List (Nat × Value)} (d : decode cc pc = .ok (.istore i, 2)) (h : lv_has ls nL lv) (hn : i < nL) (hl : (i, Value.int x) :: lv.filter (fun q => !(q.1 == i) && !(q.1 + 1 == i && q.2.category == 2)) = lv2) (k : ∀ ls2 : Array Slot, lv_has ls2 nL lv2 → J p l e R s m args below meth c A D cy cells slots Q σ V (F0 m (pc + 2) ls2 rest)) : J p l e R s m args below meth c A D cy cells slots Q σ V (F0 m pc ls (.int x :: rest)) := fun H locs hP hD hS => lv_istore C.1 C.2.1 d h hn hl (fun ls2 h2 => k ls2 h2 H locs hP hD hS)
theorem j_astore_n (C : Cx p s m args meth c A D cy own cc nL ret) {q : Fin 4} {i : Nat} {x : Nat} {lv lv2 : List (Nat × Value)} (d : decode cc pc = .ok (.astore_n q, 1)) (hi : (q : Nat) = i) (h : lv_has ls nL lv) (hn : i < nL) (hl : (i, Value.ref x) :: lv.filter (fun q => !(q.1 == i) && !(q.1 + 1 == i && q.2.category == 2)) = lv2) (k : ∀ ls2 : Array Slot, lv_has ls2 nL lv2 → J p l e R s m args below meth c A D cy cells slots Q σ V (F0 m (pc + 1) ls2 rest)) : J p l e R s m args below meth c A D cy cells slots Q σ V (F0 m pc ls (.ref x :: rest)) := fun H locs hP hD hS => lv_astore_n C.1 C.2.1 d hi h hn hl (fun ls2 h2 => k ls2 h2 H locs hP hD hS)
theorem j_astore (C : Cx p s m args meth c A D cy own cc nL ret) {i : Nat} {x : Nat} {lv lv2 : List (Nat × Value)} (d : decode cc pc = .ok (.astore i, 2)) (h : lv_has ls nL lv) (hn : i < nL) (hl : (i, Value.ref x) :: lv.filter (fun q => !(q.1 == i) && !(q.1 + 1 == i && q.2.category == 2)) = lv2) (k : ∀ ls2 : Array Slot, lv_has ls2 nL lv2 → J p l e R s m args below meth c A D cy cells slots Q σ V (F0 m (pc + 2) ls2 rest)) : J p l e R s m args below meth c A D cy cells slots Q σ V (F0 m pc ls (.ref x :: rest)) := fun H locs hP hD hS => lv_astore C.1 C.2.1 d h hn hl (fun ls2 h2 => k ls2 h2 H locs hP hD hS)
theorem j_astore_nN (C : Cx p s m args meth c A D cy own cc nL ret) {q : Fin 4} {i : Nat} {lv lv2 : List (Nat × Value)} (d : decode cc pc = .ok (.astore_n q, 1)) (hi : (q : Nat) = i) (h : lv_has ls nL lv) (hn : i < nL) (hl : (i, Value.null) :: lv.filter (fun q => !(q.1 == i) && !(q.1 + 1 == i && q.2.category == 2)) = lv2) (k : ∀ ls2 : Array Slot, lv_has ls2 nL lv2 → J p l e R s m args below meth c A D cy cells slots Q σ V (F0 m (pc + 1) ls2 rest)) : J p l e R s m args below meth c A D cy cells slots Q σ V (F0 m pc ls (.null :: rest)) := fun H locs hP hD hS => lv_astore_nN C.1 C.2.1 d hi h hn hl (fun ls2 h2 => k ls2 h2 H locs hP hD hS)
theorem j_astoreN (C : Cx p s m args meth c A D cy own cc nL ret) {i : Nat} {lv lv2 : List (Nat × Value)} (d : decode cc pc = .ok (.astore i, 2)) (h : lv_has ls nL lv) (hn : i < nL) (hl : (i, Value.null) :: lv.filter (fun q => !(q.1 == i) && !(q.1 + 1 == i && q.2.category == 2)) = lv2) (k : ∀ ls2 : Array Slot, lv_has ls2 nL lv2 → J p l e R s m args below meth c A D cy cells slots Q σ V (F0 m (pc + 2) ls2 rest)) : J p l e R s m args below meth c A D cy cells slots Q σ V (F0 m pc ls (.null :: rest)) := fun H locs hP hD hS => lv_astoreN C.1 C.2.1 d h hn hl (fun ls2 h2 => k ls2 h2 H locs hP hD hS)
theorem j_lstore_n (C : Cx p s m args meth c A D cy own cc nL ret) {q : Fin 4} {i : Nat} {x : Int64} {lv lv2 : List (Nat × Value)} (d : decode cc pc = .ok (.lstore_n q, 1)) (hi : (q : Nat) = i) (h : lv_has ls nL lv) (hn : i + 1 < nL) (hl : (i, Value.long x) :: lv.filter (fun q => !(q.1 == i) && (!(q.1 == i + 1) && !(q.1 + 1 == i && q.2.category == 2))) = lv2) (k : ∀ ls2 : Array Slot, lv_has ls2 nL lv2 → J p l e R s m args below meth c A D cy cells slots Q σ V (F0 m (pc + 1) ls2 rest)) : J p l e R s m args below meth c A D cy cells slots Q σ V (F0 m pc ls (.long x :: rest)) := fun H locs hP hD hS => lv_lstore_n C.1 C.2.1 d hi h hn hl (fun ls2 h2 => k ls2 h2 H locs hP hD hS)
theorem j_lstore (C : Cx p s m args meth c A D cy own cc nL ret) {i : Nat} {x : Int64} {lv lv2 : List (Nat × Value)} (d : decode cc pc = .ok (.lstore i, 2)) (h : lv_has ls nL lv) (hn : i + 1 < nL) (hl : (i, Value.long x) :: lv.filter (fun q => !(q.1 == i) && (!(q.1 == i + 1) && !(q.1 + 1 == i && q.2.category == 2))) = lv2) (k : ∀ ls2 : Array Slot, lv_has ls2 nL lv2 → J p l e R s m args below meth c A D cy cells slots Q σ V (F0 m (pc + 2) ls2 rest)) : J p l e R s m args below meth c A D cy cells slots Q σ V (F0 m pc ls (.long x :: rest)) := fun H locs hP hD hS => lv_lstore C.1 C.2.1 d h hn hl (fun ls2 h2 => k ls2 h2 H locs hP hD hS)
theorem j_iinc (C : Cx p s m args meth c A D cy own cc nL ret) {i k0 : Nat} {n : Int} {x v : Int32} {lv lv2 : List (Nat × Value)} (d : decode cc pc = .ok (.iinc i n, 3)) (h : lv_has ls nL lv) (hk : lv[k0]? = some (i, .int x)) (hv : x + Int32.ofInt n = v) (hn : i < nL) (hl : (i, Value.int v) :: lv.filter (fun q => !(q.1 == i) && !(q.1 + 1 == i && q.2.category == 2)) = lv2) (k : ∀ ls2 : Array Slot, lv_has ls2 nL lv2 → J p l e R s m args below meth c A D cy cells slots Q σ V (F0 m (pc + 3) ls2 rest)) : J p l e R s m args below meth c A D cy cells slots Q σ V (F0 m pc ls rest) := fun H locs hP hD hS => lv_iinc C.1 C.2.1 d h hk hv hn hl (fun ls2 h2 => k ls2 h2 H locs hP hD hS)
theorem j_iadd (C : Cx p s m args meth c A D cy own cc nL ret) {x y : Int32} (d : decode cc pc = .ok (.iadd, 1)) (k : J p l e R s m args below meth c A D cy cells slots Q σ V (F0 m (pc + 1) ls (.int (x + y) :: rest))) : J p l e R s m args below meth c A D cy cells slots Q σ V (F0 m pc ls (.int y :: .int x :: rest)) := fun H locs hP hD hS => lv_iadd C.1 C.2.1 d (k H locs hP hD hS)
theorem j_isub (C : Cx p s m args meth c A D cy own cc nL ret) {x y : Int32} (d : decode cc pc = .ok (.isub, 1)) (k : J p l e R s m args below meth c A D cy cells slots Q σ V (F0 m (pc + 1) ls (.int (x - y) :: rest))) : J p l e R s m args below meth c A D cy cells slots Q σ V (F0 m pc ls (.int y :: .int x :: rest)) := fun H locs hP hD hS => lv_isub C.1 C.2.1 d (k H locs hP hD hS)
theorem j_imul (C : Cx p s m args meth c A D cy own cc nL ret) {x y : Int32} (d : decode cc pc = .ok (.imul, 1)) (k : J p l e R s m args below meth c A D cy cells slots Q σ V (F0 m (pc + 1) ls (.int (x * y) :: rest))) : J p l e R s m args below meth c A D cy cells slots Q σ V (F0 m pc ls (.int y :: .int x :: rest)) := fun H locs hP hD hS => lv_imul C.1 C.2.1 d (k H locs hP hD hS)
theorem j_iand (C : Cx p s m args meth c A D cy own cc nL ret) {x y : Int32} (d : decode cc pc = .ok (.iand, 1)) (k : J p l e R s m args below meth c A D cy cells slots Q σ V (F0 m (pc + 1) ls (.int (x &&& y) :: rest))) : J p l e R s m args below meth c A D cy cells slots Q σ V (F0 m pc ls (.int y :: .int x :: rest)) := fun H locs hP hD hS => lv_iand C.1 C.2.1 d (k H locs hP hD hS)
theorem j_ior (C : Cx p s m args meth c A D cy own cc nL ret) {x y : Int32} (d : decode cc pc = .ok (.ior, 1)) (k : J p l e R s m args below meth c A D cy cells slots Q σ V (F0 m (pc + 1) ls (.int (x ||| y) :: rest))) : J p l e R s m args below meth c A D cy cells slots Q σ V (F0 m pc ls (.int y :: .int x :: rest)) := fun H locs hP hD hS => lv_ior C.1 C.2.1 d (k H locs hP hD hS)
theorem j_ixor (C : Cx p s m args meth c A D cy own cc nL ret) {x y : Int32} (d : decode cc pc = .ok (.ixor, 1)) (k : J p l e R s m args below meth c A D cy cells slots Q σ V (F0 m (pc + 1) ls (.int (x ^^^ y) :: rest))) : J p l e R s m args below meth c A D cy cells slots Q σ V (F0 m pc ls (.int y :: .int x :: rest)) := fun H locs hP hD hS => lv_ixor C.1 C.2.1 d (k H locs hP hD hS)
theorem j_ishl (C : Cx p s m args meth c A D cy own cc nL ret) {x y : Int32} (d : decode cc pc = .ok (.ishl, 1)) (k : J p l e R s m args below meth c A D cy cells slots Q σ V (F0 m (pc + 1) ls (.int (x <<< (y &&& 31)) :: rest))) : J p l e R s m args below meth c A D cy cells slots Q σ V (F0 m pc ls (.int y :: .int x :: rest)) := fun H locs hP hD hS => lv_ishl C.1 C.2.1 d (k H locs hP hD hS)
theorem j_ishr (C : Cx p s m args meth c A D cy own cc nL ret) {x y : Int32} (d : decode cc pc = .ok (.ishr, 1)) (k : J p l e R s m args below meth c A D cy cells slots Q σ V (F0 m (pc + 1) ls (.int (x >>> (y &&& 31)) :: rest))) : J p l e R s m args below meth c A D cy cells slots Q σ V (F0 m pc ls (.int y :: .int x :: rest)) := fun H locs hP hD hS => lv_ishr C.1 C.2.1 d (k H locs hP hD hS)
theorem j_idiv (C : Cx p s m args meth c A D cy own cc nL ret) {x y : Int32} (d : decode cc pc = .ok (.idiv, 1)) (hne : ¬ y = 0) (k : J p l e R s m args below meth c A D cy cells slots Q σ V (F0 m (pc + 1) ls (.int (x / y) :: rest))) : J p l e R s m args below meth c A D cy cells slots Q σ V (F0 m pc ls (.int y :: .int x :: rest)) := fun H locs hP hD hS => lv_idiv C.1 C.2.1 d hne (k H locs hP hD hS)
theorem j_irem (C : Cx p s m args meth c A D cy own cc nL ret) {x y : Int32} (d : decode cc pc = .ok (.irem, 1)) (hne : ¬ y = 0) (k : J p l e R s m args below meth c A D cy cells slots Q σ V (F0 m (pc + 1) ls (.int (x - x / y * y) :: rest))) : J p l e R s m args below meth c A D cy cells slots Q σ V (F0 m pc ls (.int y :: .int x :: rest)) := fun H locs hP hD hS => lv_irem C.1 C.2.1 d hne (k H locs hP hD hS)
theorem j_ldiv (C : Cx p s m args meth c A D cy own cc nL ret) {x y : Int64} (d : decode cc pc = .ok (.ldiv, 1)) (hne : ¬ y = 0) (k : J p l e R s m args below meth c A D cy cells slots Q σ V (F0 m (pc + 1) ls (.long (x / y) :: rest))) : J p l e R s m args below meth c A D cy cells slots Q σ V (F0 m pc ls (.long y :: .long x :: rest)) := fun H locs hP hD hS => lv_ldiv C.1 C.2.1 d hne (k H locs hP hD hS)
theorem j_lrem (C : Cx p s m args meth c A D cy own cc nL ret) {x y : Int64} (d : decode cc pc = .ok (.lrem, 1)) (hne : ¬ y = 0) (k : J p l e R s m args below meth c A D cy cells slots Q σ V (F0 m (pc + 1) ls (.long (x - x / y * y) :: rest))) : J p l e R s m args below meth c A D cy cells slots Q σ V (F0 m pc ls (.long y :: .long x :: rest)) := fun H locs hP hD hS => lv_lrem C.1 C.2.1 d hne (k H locs hP hD hS)
theorem j_i2l (C : Cx p s m args meth c A D cy own cc nL ret) {x : Int32} {v : Int64} (d : decode cc pc = .ok (.i2l, 1)) (hv : x.toInt64 = v) (k : J p l e R s m args below meth c A D cy cells slots Q σ V (F0 m (pc + 1) ls (.long v :: rest))) : J p l e R s m args below meth c A D cy cells slots Q σ V (F0 m pc ls (.int x :: rest)) := fun H locs hP hD hS => lv_i2l C.1 C.2.1 d hv (k H locs hP hD hS)
theorem j_i2b (C : Cx p s m args meth c A D cy own cc nL ret) {x v : Int32} (d : decode cc pc = .ok (.i2b, 1)) (hv : x.toInt8.toInt32 = v) (k : J p l e R s m args below meth c A D cy cells slots Q σ V (F0 m (pc + 1) ls (.int v :: rest))) : J p l e R s m args below meth c A D cy cells slots Q σ V (F0 m pc ls (.int x :: rest)) := fun H locs hP hD hS => lv_i2b C.1 C.2.1 d hv (k H locs hP hD hS)
theorem j_i2s (C : Cx p s m args meth c A D cy own cc nL ret) {x v : Int32} (d : decode cc pc = .ok (.i2s, 1)) (hv : x.toInt16.toInt32 = v) (k : J p l e R s m args below meth c A D cy cells slots Q σ V (F0 m (pc + 1) ls (.int v :: rest))) : J p l e R s m args below meth c A D cy cells slots Q σ V (F0 m pc ls (.int x :: rest)) := fun H locs hP hD hS => lv_i2s C.1 C.2.1 d hv (k H locs hP hD hS)
theorem j_dup (C : Cx p s m args meth c A D cy own cc nL ret) {va : Value} (d : decode cc pc = .ok (.dup, 1)) (hva : va.category = 1) (k : J p l e R s m args below meth c A D cy cells slots Q σ V (F0 m (pc + 1) ls (va :: va :: rest))) : J p l e R s m args below meth c A D cy cells slots Q σ V (F0 m pc ls (va :: rest)) := fun H locs hP hD hS => lv_dup C.1 C.2.1 d hva (k H locs hP hD hS)
theorem j_pop (C : Cx p s m args meth c A D cy own cc nL ret) {va : Value} (d : decode cc pc = .ok (.pop, 1)) (hva : va.category = 1) (k : J p l e R s m args below meth c A D cy cells slots Q σ V (F0 m (pc + 1) ls rest)) : J p l e R s m args below meth c A D cy cells slots Q σ V (F0 m pc ls (va :: rest)) := fun H locs hP hD hS => lv_pop C.1 C.2.1 d hva (k H locs hP hD hS)
theorem j_dup2 (C : Cx p s m args meth c A D cy own cc nL ret) {va vb : Value} (d : decode cc pc = .ok (.dup2, 1)) (hva : va.category = 1) (hvb : vb.category = 1) (k : J p l e R s m args below meth c A D cy cells slots Q σ V (F0 m (pc + 1) ls (va :: vb :: va :: vb :: rest))) : J p l e R s m args below meth c A D cy cells slots Q σ V (F0 m pc ls (va :: vb :: rest)) := fun H locs hP hD hS => lv_dup2_11 C.1 C.2.1 d hva hvb (k H locs hP hD hS)
theorem j_null (C : Cx p s m args meth c A D cy own cc nL ret) (d : decode cc pc = .ok (.aconst_null, 1)) (k : J p l e R s m args below meth c A D cy cells slots Q σ V (F0 m (pc + 1) ls (.null :: rest))) : J p l e R s m args below meth c A D cy cells slots Q σ V (F0 m pc ls rest) := fun H locs hP hD hS => lv_null C.1 C.2.1 d (k H locs hP hD hS)
theorem j_if_eq (C : Cx p s m args meth c A D cy own cc nL ret) {x : Int32} {off : Int} {tgt : Nat} (d : decode cc pc = .ok (.ifCond .eq off, 3)) (ht : (pc : Int) + off = (tgt : Int)) (kt : x = 0 → J p l e R s m args below meth c A D cy cells slots Q σ V (F0 m tgt ls rest)) (kf : ¬ x = 0 → J p l e R s m args below meth c A D cy cells slots Q σ V (F0 m (pc + 3) ls rest)) : J p l e R s m args below meth c A D cy cells slots Q σ V (F0 m pc ls (.int x :: rest)) := fun H locs hP hD hS => lv_if_eq C.1 C.2.1 d ht (fun q => kt q H locs hP hD hS) (fun q => kf q H locs hP hD hS)
theorem j_icmp_eq (C : Cx p s m args meth c A D cy own cc nL ret) {x y : Int32} {off : Int} {tgt : Nat} (d : decode cc pc = .ok (.if_icmp .eq off, 3)) (ht : (pc : Int) + off = (tgt : Int)) (kt : x = y → J p l e R s m args below meth c A D cy cells slots Q σ V (F0 m tgt ls rest)) (kf : ¬ x = y → J p l e R s m args below meth c A D cy cells slots Q σ V (F0 m (pc + 3) ls rest)) : J p l e R s m args below meth c A D cy cells slots Q σ V (F0 m pc ls (.int y :: .int x :: rest)) := fun H locs hP hD hS => lv_icmp_eq C.1 C.2.1 d ht (fun q => kt q H locs hP hD hS) (fun q => kf q H locs hP hD hS)
theorem j_if_ne (C : Cx p s m args meth c A D cy own cc nL ret) {x : Int32} {off : Int} {tgt : Nat} (d : decode cc pc = .ok (.ifCond .ne off, 3)) (ht : (pc : Int) + off = (tgt : Int)) (kt : ¬ x = 0 → J p l e R s m args below meth c A D cy cells slots Q σ V (F0 m tgt ls rest)) (kf : x = 0 → J p l e R s m args below meth c A D cy cells slots Q σ V (F0 m (pc + 3) ls rest)) : J p l e R s m args below meth c A D cy cells slots Q σ V (F0 m pc ls (.int x :: rest)) := fun H locs hP hD hS => lv_if_ne C.1 C.2.1 d ht (fun q => kt q H locs hP hD hS) (fun q => kf q H locs hP hD hS)
theorem j_icmp_ne (C : Cx p s m args meth c A D cy own cc nL ret) {x y : Int32} {off : Int} {tgt : Nat} (d : decode cc pc = .ok (.if_icmp .ne off, 3)) (ht : (pc : Int) + off = (tgt : Int)) (kt : ¬ x = y → J p l e R s m args below meth c A D cy cells slots Q σ V (F0 m tgt ls rest)) (kf : x = y → J p l e R s m args below meth c A D cy cells slots Q σ V (F0 m (pc + 3) ls rest)) : J p l e R s m args below meth c A D cy cells slots Q σ V (F0 m pc ls (.int y :: .int x :: rest)) := fun H locs hP hD hS => lv_icmp_ne C.1 C.2.1 d ht (fun q => kt q H locs hP hD hS) (fun q => kf q H locs hP hD hS)
theorem j_if_lt (C : Cx p s m args meth c A D cy own cc nL ret) {x : Int32} {off : Int} {tgt : Nat} (d : decode cc pc = .ok (.ifCond .lt off, 3)) (ht : (pc : Int) + off = (tgt : Int)) (kt : x < 0 → J p l e R s m args below meth c A D cy cells slots Q σ V (F0 m tgt ls rest)) (kf : ¬ x < 0 → J p l e R s m args below meth c A D cy cells slots Q σ V (F0 m (pc + 3) ls rest)) : J p l e R s m args below meth c A D cy cells slots Q σ V (F0 m pc ls (.int x :: rest)) := fun H locs hP hD hS => lv_if_lt C.1 C.2.1 d ht (fun q => kt q H locs hP hD hS) (fun q => kf q H locs hP hD hS)
theorem j_icmp_lt (C : Cx p s m args meth c A D cy own cc nL ret) {x y : Int32} {off : Int} {tgt : Nat} (d : decode cc pc = .ok (.if_icmp .lt off, 3)) (ht : (pc : Int) + off = (tgt : Int)) (kt : x < y → J p l e R s m args below meth c A D cy cells slots Q σ V (F0 m tgt ls rest)) (kf : ¬ x < y → J p l e R s m args below meth c A D cy cells slots Q σ V (F0 m (pc + 3) ls rest)) : J p l e R s m args below meth c A D cy cells slots Q σ V (F0 m pc ls (.int y :: .int x :: rest)) := fun H locs hP hD hS => lv_icmp_lt C.1 C.2.1 d ht (fun q => kt q H locs hP hD hS) (fun q => kf q H locs hP hD hS)
theorem j_if_ge (C : Cx p s m args meth c A D cy own cc nL ret) {x : Int32} {off : Int} {tgt : Nat} (d : decode cc pc = .ok (.ifCond .ge off, 3)) (ht : (pc : Int) + off = (tgt : Int)) (kt : 0 ≤ x → J p l e R s m args below meth c A D cy cells slots Q σ V (F0 m tgt ls rest)) (kf : ¬ 0 ≤ x → J p l e R s m args below meth c A D cy cells slots Q σ V (F0 m (pc + 3) ls rest)) : J p l e R s m args below meth c A D cy cells slots Q σ V (F0 m pc ls (.int x :: rest)) := fun H locs hP hD hS => lv_if_ge C.1 C.2.1 d ht (fun q => kt q H locs hP hD hS) (fun q => kf q H locs hP hD hS)
theorem j_icmp_ge (C : Cx p s m args meth c A D cy own cc nL ret) {x y : Int32} {off : Int} {tgt : Nat} (d : decode cc pc = .ok (.if_icmp .ge off, 3)) (ht : (pc : Int) + off = (tgt : Int)) (kt : y ≤ x → J p l e R s m args below meth c A D cy cells slots Q σ V (F0 m tgt ls rest)) (kf : ¬ y ≤ x → J p l e R s m args below meth c A D cy cells slots Q σ V (F0 m (pc + 3) ls rest)) : J p l e R s m args below meth c A D cy cells slots Q σ V (F0 m pc ls (.int y :: .int x :: rest)) := fun H locs hP hD hS => lv_icmp_ge C.1 C.2.1 d ht (fun q => kt q H locs hP hD hS) (fun q => kf q H locs hP hD hS)
theorem j_if_gt (C : Cx p s m args meth c A D cy own cc nL ret) {x : Int32} {off : Int} {tgt : Nat} (d : decode cc pc = .ok (.ifCond .gt off, 3)) (ht : (pc : Int) + off = (tgt : Int)) (kt : 0 < x → J p l e R s m args below meth c A D cy cells slots Q σ V (F0 m tgt ls rest)) (kf : ¬ 0 < x → J p l e R s m args below meth c A D cy cells slots Q σ V (F0 m (pc + 3) ls rest)) : J p l e R s m args below meth c A D cy cells slots Q σ V (F0 m pc ls (.int x :: rest)) := fun H locs hP hD hS => lv_if_gt C.1 C.2.1 d ht (fun q => kt q H locs hP hD hS) (fun q => kf q H locs hP hD hS)
theorem j_icmp_gt (C : Cx p s m args meth c A D cy own cc nL ret) {x y : Int32} {off : Int} {tgt : Nat} (d : decode cc pc = .ok (.if_icmp .gt off, 3)) (ht : (pc : Int) + off = (tgt : Int)) (kt : y < x → J p l e R s m args below meth c A D cy cells slots Q σ V (F0 m tgt ls rest)) (kf : ¬ y < x → J p l e R s m args below meth c A D cy cells slots Q σ V (F0 m (pc + 3) ls rest)) : J p l e R s m args below meth c A D cy cells slots Q σ V (F0 m pc ls (.int y :: .int x :: rest)) := fun H locs hP hD hS => lv_icmp_gt C.1 C.2.1 d ht (fun q => kt q H locs hP hD hS) (fun q => kf q H locs hP hD hS)
theorem j_if_le (C : Cx p s m args meth c A D cy own cc nL ret) {x : Int32} {off : Int} {tgt : Nat} (d : decode cc pc = .ok (.ifCond .le off, 3)) (ht : (pc : Int) + off = (tgt : Int)) (kt : x ≤ 0 → J p l e R s m args below meth c A D cy cells slots Q σ V (F0 m tgt ls rest)) (kf : ¬ x ≤ 0 → J p l e R s m args below meth c A D cy cells slots Q σ V (F0 m (pc + 3) ls rest)) : J p l e R s m args below meth c A D cy cells slots Q σ V (F0 m pc ls (.int x :: rest)) := fun H locs hP hD hS => lv_if_le C.1 C.2.1 d ht (fun q => kt q H locs hP hD hS) (fun q => kf q H locs hP hD hS)
theorem j_icmp_le (C : Cx p s m args meth c A D cy own cc nL ret) {x y : Int32} {off : Int} {tgt : Nat} (d : decode cc pc = .ok (.if_icmp .le off, 3)) (ht : (pc : Int) + off = (tgt : Int)) (kt : x ≤ y → J p l e R s m args below meth c A D cy cells slots Q σ V (F0 m tgt ls rest)) (kf : ¬ x ≤ y → J p l e R s m args below meth c A D cy cells slots Q σ V (F0 m (pc + 3) ls rest)) : J p l e R s m args below meth c A D cy cells slots Q σ V (F0 m pc ls (.int y :: .int x :: rest)) := fun H locs hP hD hS => lv_icmp_le C.1 C.2.1 d ht (fun q => kt q H locs hP hD hS) (fun q => kf q H locs hP hD hS)
theorem j_goto (C : Cx p s m args meth c A D cy own cc nL ret) {off : Int} {tgt : Nat} (d : decode cc pc = .ok (.goto off, 3)) (ht : (pc : Int) + off = (tgt : Int)) (k : J p l e R s m args below meth c A D cy cells slots Q σ V (F0 m tgt ls rest)) : J p l e R s m args below meth c A D cy cells slots Q σ V (F0 m pc ls rest) := fun H locs hP hD hS => lv_goto C.1 C.2.1 d ht (k H locs hP hD hS)
theorem j_ifnullN (C : Cx p s m args meth c A D cy own cc nL ret) {off : Int} {tgt : Nat} (d : decode cc pc = .ok (.ifnull off, 3)) (ht : (pc : Int) + off = (tgt : Int)) (k : J p l e R s m args below meth c A D cy cells slots Q σ V (F0 m tgt ls rest)) : J p l e R s m args below meth c A D cy cells slots Q σ V (F0 m pc ls (.null :: rest)) := fun H locs hP hD hS => lv_ifnullN C.1 C.2.1 d ht (k H locs hP hD hS)
theorem j_ifnonnull (C : Cx p s m args meth c A D cy own cc nL ret) {x : Nat} {off : Int} {tgt : Nat} (d : decode cc pc = .ok (.ifnonnull off, 3)) (ht : (pc : Int) + off = (tgt : Int)) (k : J p l e R s m args below meth c A D cy cells slots Q σ V (F0 m tgt ls rest)) : J p l e R s m args below meth c A D cy cells slots Q σ V (F0 m pc ls (.ref x :: rest)) := fun H locs hP hD hS => lv_ifnonnull C.1 C.2.1 d ht (k H locs hP hD hS)
theorem j_ifnull (C : Cx p s m args meth c A D cy own cc nL ret) {x : Nat} {off : Int} (d : decode cc pc = .ok (.ifnull off, 3)) (k : J p l e R s m args below meth c A D cy cells slots Q σ V (F0 m (pc + 3) ls rest)) : J p l e R s m args below meth c A D cy cells slots Q σ V (F0 m pc ls (.ref x :: rest)) := fun H locs hP hD hS => lv_ifnull C.1 C.2.1 d (k H locs hP hD hS)
theorem j_ifnonnullN (C : Cx p s m args meth c A D cy own cc nL ret) {off : Int} (d : decode cc pc = .ok (.ifnonnull off, 3)) (k : J p l e R s m args below meth c A D cy cells slots Q σ V (F0 m (pc + 3) ls rest)) : J p l e R s m args below meth c A D cy cells slots Q σ V (F0 m pc ls (.null :: rest)) := fun H locs hP hD hS => lv_ifnonnullN C.1 C.2.1 d (k H locs hP hD hS)
theorem j_ldc2 (C : Cx p s m args meth c A D cy own cc nL ret) {index : Nat} {v : Int64} (hw : Cond.constantLong own index v ∈ WALL) (d : decode cc pc = .ok (.ldc2_w index, 3)) (k : J p l e R s m args below meth c A D cy cells slots Q σ V (F0 m (pc + 3) ls (.long v :: rest))) : J p l e R s m args below meth c A D cy cells slots Q σ V (F0 m pc ls rest) := fun H locs hP hD hS => lv_ldc2 C.1 C.2.1 C.2.2.2.1 (C.2.2.2.2.1 _ hw) d (k H locs hP hD hS)
theorem j_lookup (C : Cx p s m args meth c A D cy own cc nL ret) {dflt : Int} {ps : Array (Int × Int)} {len : Nat} {x : Int32} {off : Int} {tgt : Nat} (d : decode cc pc = .ok (.lookupswitch dflt ps, len)) (hp : (ps.toList.zip (ps.toList.drop 1)).all (fun (a, next) => a.1 < next.1) = true) (ho : Op.lookupswitch.offset ps.toList dflt x.toInt = off) (ht : (pc : Int) + off = (tgt : Int)) (k : J p l e R s m args below meth c A D cy cells slots Q σ V (F0 m tgt ls rest)) : J p l e R s m args below meth c A D cy cells slots Q σ V (F0 m pc ls (.int x :: rest)) := fun H locs hP hD hS => lv_lookup C.1 C.2.1 d hp ho ht (k H locs hP hD hS)
theorem j_tableOut (C : Cx p s m args meth c A D cy own cc nL ret) {dflt lo hi : Int} {offs : Array Int} {len : Nat} {x : Int32} {tgt : Nat} (d : decode cc pc = .ok (.tableswitch dflt lo hi offs, len)) (h : x.toInt < lo ∨ hi < x.toInt) (ht : (pc : Int) + dflt = (tgt : Int)) (k : J p l e R s m args below meth c A D cy cells slots Q σ V (F0 m tgt ls rest)) : J p l e R s m args below meth c A D cy cells slots Q σ V (F0 m pc ls (.int x :: rest)) := fun H locs hP hD hS => lv_tableOut C.1 C.2.1 d h ht (k H locs hP hD hS)
theorem j_tableIn (C : Cx p s m args meth c A D cy own cc nL ret) {dflt lo hi : Int} {offs : Array Int} {len : Nat} {x : Int32} {off : Int} {tgt : Nat} (d : decode cc pc = .ok (.tableswitch dflt lo hi offs, len)) (h1 : ¬ x.toInt < lo) (h2 : ¬ hi < x.toInt) (ho : offs[(x.toInt - lo).toNat]? = some off) (ht : (pc : Int) + off = (tgt : Int)) (k : J p l e R s m args below meth c A D cy cells slots Q σ V (F0 m tgt ls rest)) : J p l e R s m args below meth c A D cy cells slots Q σ V (F0 m pc ls (.int x :: rest)) := fun H locs hP hD hS => lv_tableIn C.1 C.2.1 d h1 h2 ho ht (k H locs hP hD hS)
/-- field i of the class ci, as own's pool entry idx names it -/
def Fld (own : String) (idx ci i : Nat) (b : Bool) : Prop := ∃ q : vw_C, vwCl[ci]? = some q ∧ i < q.2.2 ∧ (sg ci)[i]? = some b ∧ (∀ w ∈ u_ws q.1 q.2.1 q.2.2, w ∈ WALL) ∧ Cond.fieldLink own idx (q.2.1 i).1 (q.2.1 i).2.1 (q.2.1 i).2.2.1 ∈ WALL
/-- .. and that it may be written -/
def Fpt (ci i : Nat) : Prop := ∃ (q : vw_C) (ty : Nat → FieldType), vwCl[ci]? = some q ∧ (∀ k, k < q.2.2 → parseFieldDescriptor (q.2.1 k).2.2.1 = some (ty k)) ∧ (∀ a, a < q.2.2 → ∀ b, b < q.2.2 → a ≠ b → (q.2.1 a).2.1 ≠ (q.2.1 b).2.1) ∧ (q.2.1 i).2.2.2 = false ∧ parseFieldDescriptor (q.2.1 i).2.2.1 = some .int
theorem vwCl_lt {ci : Nat} {q : vw_C} (h : vwCl[ci]? = some q) : ci < 13 := (List.getElem?_eq_some_iff.mp h).1
theorem j_getI (C : Cx p s m args meth c A D cy own cc nL ret) {k i idx ci : Nat} (F : Fld own idx ci i false) (hk : k < σ.1) (hK : σ.2.1 k = ci) (d : decode cc pc = .ok (.getfield idx, 3)) (kk : J p l e R s m args below meth c A D cy cells slots Q σ V (F0 m (pc + 3) ls (.int (V k i) :: rest))) : J p l e R s m args below meth c A D cy cells slots Q σ V (F0 m pc ls (.ref (σ.2.2.2.2 k) :: rest)) := by
  intro H locs hP hD hS
  obtain ⟨q, hq, hi, hsg, hin, hlink⟩ := F
  have hc := vwCl_lt hq
  have hw := gW_get (cy := cy) (V := V) hk
  rw [gE_obj hK hc] at hw
  exact va_get C.1 C.2.1 C.2.2.2.2.1 hin C.2.2.2.1 C.2.2.2.2.2.1 hP k hw hq i hi (C.2.2.2.2.1 _ hlink) (fun _ h => h) (v := .int (V k i)) (by rw [fl_get, hsg]; simp) d (kk H locs hP hD hS)
theorem j_getR (C : Cx p s m args meth c A D cy own cc nL ret) {k i idx ci k2 : Nat} (F : Fld own idx ci i true) (hk : k < σ.1) (hK : σ.2.1 k = ci) (hg : σ.2.2.1 k i = some k2) (d : decode cc pc = .ok (.getfield idx, 3)) (kk : J p l e R s m args below meth c A D cy cells slots Q σ V (F0 m (pc + 3) ls (.ref (σ.2.2.2.2 k2) :: rest))) : J p l e R s m args below meth c A D cy cells slots Q σ V (F0 m pc ls (.ref (σ.2.2.2.2 k) :: rest)) := by
  intro H locs hP hD hS
  obtain ⟨q, hq, hi, hsg, hin, hlink⟩ := F
  have hc := vwCl_lt hq
  have hw := gW_get (cy := cy) (V := V) hk
  rw [gE_obj hK hc] at hw
  exact va_get C.1 C.2.1 C.2.2.2.2.1 hin C.2.2.2.1 C.2.2.2.2.2.1 hP k hw hq i hi (C.2.2.2.2.1 _ hlink) (fun _ h => h) (v := .ref (σ.2.2.2.2 k2)) (by rw [fl_get, hsg]; simp [hg, va_rf]) d (kk H locs hP hD hS)
theorem j_putI (C : Cx p s m args meth c A D cy own cc nL ret) {k i idx ci : Nat} {x : Int32} (F : Fld own idx ci i false) (P : Fpt ci i) (hk : k < σ.1) (hK : σ.2.1 k = ci) (d : decode cc pc = .ok (.putfield idx, 3)) (kk : ∀ V2 : Vt, V2 = up2 V k i x → J p l e R s m args below meth c A D cy cells slots Q σ V2 (F0 m (pc + 3) ls rest)) : J p l e R s m args below meth c A D cy cells slots Q σ V (F0 m pc ls (.int x :: .ref (σ.2.2.2.2 k) :: rest)) := by
  intro H locs hP hD hS
  obtain ⟨q, hq, hi, hsg, hin, hlink⟩ := F
  obtain ⟨q', ty, hq', hty, hnm, hfin, hint⟩ := P
  obtain rfl : q' = q := Option.some.inj (hq'.symm.trans hq)
  have hc := vwCl_lt hq
  have hw := gW_get (cy := cy) (V := V) hk
  rw [gE_obj hK hc] at hw
  have hz : (gW cy σ V).set k (σ.2.2.2.2 k, .inr (ci, (fl (V k) (fun i => (σ.2.2.1 k i).map σ.2.2.2.2) 0 (sg ci)).set i (.int x))) = gW cy σ (up2 V k i x) := by
    refine gW_set hk ?_ (fun j hj => up2_k V x hj)
    rw [gE_obj hK hc]
    have h2 := fl_set (V k) (up2 V k i x k) (fun i => (σ.2.2.1 k i).map σ.2.2.2.2) (sg ci) i hsg (fun n hn => up2_i V x hn)
    rw [up2_s] at h2
    rw [h2]
  refine va_put C.1 C.2.1 C.2.2.2.2.1 hin ty hty hnm C.2.2.2.1 C.2.2.2.2.2.1 hP hD hS k hw hq i hi (C.2.2.2.2.1 _ hlink) (fun _ h => h) hfin (v := .int x) hint rfl rfl (by rw [fl_len]; exact (List.getElem?_eq_some_iff.mp hsg).1) d (fun H1 locs1 hP1 hD1 hS1 => ?_)
  rw [hz] at hP1 hD1
  exact kk _ rfl H1 locs1 hP1 hD1 hS1
theorem j_iald (C : Cx p s m args meth c A D cy own cc nL ret) {k : Nat} {i : Int32} (hk : k < σ.1) (hK : σ.2.1 k = 13) {n : Nat} (hn : σ.2.2.2.1 k = n) (hin : vp_in i n) (d : decode cc pc = .ok (.iaload, 1)) (kk : J p l e R s m args below meth c A D cy cells slots Q σ V (F0 m (pc + 1) ls (.int (V k i.toNatClampNeg) :: rest))) : J p l e R s m args below meth c A D cy cells slots Q σ V (F0 m pc ls (.int i :: .ref (σ.2.2.2.2 k) :: rest)) := by
  intro H locs hP hD hS
  have hw := gW_get (cy := cy) (V := V) hk
  rw [gE_ints hK, hn] at hw
  exact va_iald C.1 C.2.1 C.2.2.2.2.2.1 hP k 0 hw rfl hin d (kk H locs hP hD hS)
theorem j_iast (C : Cx p s m args meth c A D cy own cc nL ret) {k : Nat} {i x : Int32} (hk : k < σ.1) (hK : σ.2.1 k = 13) {n : Nat} (hn : σ.2.2.2.1 k = n) (hin : vp_in i n) (d : decode cc pc = .ok (.iastore, 1)) (kk : ∀ V2 : Vt, V2 = up2 V k i.toNatClampNeg x → J p l e R s m args below meth c A D cy cells slots Q σ V2 (F0 m (pc + 1) ls rest)) : J p l e R s m args below meth c A D cy cells slots Q σ V (F0 m pc ls (.int x :: .int i :: .ref (σ.2.2.2.2 k) :: rest)) := by
  intro H locs hP hD hS
  have hw := gW_get (cy := cy) (V := V) hk
  rw [gE_ints hK, hn] at hw
  have hz : (gW cy σ V).set k (σ.2.2.2.2 k, .inl (cy 13, n, .inl (upd (V k) i.toNatClampNeg x))) = gW cy σ (up2 V k i.toNatClampNeg x) := by
    refine gW_set hk ?_ (fun j hj => up2_k V x hj)
    rw [gE_ints hK, hn]
    have h2 : up2 V k i.toNatClampNeg x k = upd (V k) i.toNatClampNeg x := by
      funext j
      simp [up2, upd]
    rw [h2]
  refine va_iast C.1 C.2.1 C.2.2.2.2.2.1 hP hD hS k 0 hw rfl hin d (fun H1 locs1 hP1 hD1 hS1 => ?_)
  rw [hz] at hP1 hD1
  exact kk _ rfl H1 locs1 hP1 hD1 hS1
theorem j_alen (C : Cx p s m args meth c A D cy own cc nL ret) {k : Nat} (hk : k < σ.1) (hK : σ.2.1 k = 13 ∨ σ.2.1 k = 14 ∨ σ.2.1 k = 15 ∨ σ.2.1 k = 16) {n : Nat} (hn : σ.2.2.2.1 k = n) (d : decode cc pc = .ok (.arraylength, 1)) (kk : J p l e R s m args below meth c A D cy cells slots Q σ V (F0 m (pc + 1) ls (.int (nI n) :: rest))) : J p l e R s m args below meth c A D cy cells slots Q σ V (F0 m pc ls (.ref (σ.2.2.2.2 k) :: rest)) := by
  intro H locs hP hD hS
  have hw := gW_get (cy := cy) (V := V) hk
  rcases hK with hK | hK | hK | hK
  · rw [gE_ints hK, hn] at hw
    exact va_alen C.1 C.2.1 C.2.2.2.2.2.1 hP k 0 hw (ty := .int) rfl rfl d (kk H locs hP hD hS)
  · rw [gE_refs hK (by decide), hn] at hw
    exact va_alen C.1 C.2.1 C.2.2.2.2.2.1 hP k 1 hw (ty := .object RX2) rfl rfl d (kk H locs hP hD hS)
  · rw [gE_refs hK (by decide), hn] at hw
    exact va_alen C.1 C.2.1 C.2.2.2.2.2.1 hP k 2 hw (ty := .object RX6) rfl rfl d (kk H locs hP hD hS)
  · rw [gE_refs hK (by decide), hn] at hw
    exact va_alen C.1 C.2.1 C.2.2.2.2.2.1 hP k 3 hw (ty := .object RX7) rfl rfl d (kk H locs hP hD hS)
theorem j_aald (C : Cx p s m args meth c A D cy own cc nL ret) {k : Nat} {i : Int32} (hk : k < σ.1) (hK : σ.2.1 k = 14 ∨ σ.2.1 k = 15 ∨ σ.2.1 k = 16) {n : Nat} (hn : σ.2.2.2.1 k = n) (hin : vp_in i n) {v : Value} (hv : va_rf ((σ.2.2.1 k i.toNatClampNeg).map σ.2.2.2.2) = v) (d : decode cc pc = .ok (.aaload, 1)) (kk : J p l e R s m args below meth c A D cy cells slots Q σ V (F0 m (pc + 1) ls (v :: rest))) : J p l e R s m args below meth c A D cy cells slots Q σ V (F0 m pc ls (.int i :: .ref (σ.2.2.2.2 k) :: rest)) := by
  intro H locs hP hD hS
  subst hv
  have hw := gW_get (cy := cy) (V := V) hk
  rcases hK with hK | hK | hK
  · rw [gE_refs hK (by decide), hn] at hw
    exact va_aldq C.1 C.2.1 C.2.2.2.2.2.1 hP k 1 hw (C := RX2) rfl hin d (kk H locs hP hD hS)
  · rw [gE_refs hK (by decide), hn] at hw
    exact va_aldq C.1 C.2.1 C.2.2.2.2.2.1 hP k 2 hw (C := RX6) rfl hin d (kk H locs hP hD hS)
  · rw [gE_refs hK (by decide), hn] at hw
    exact va_aldq C.1 C.2.1 C.2.2.2.2.2.1 hP k 3 hw (C := RX7) rfl hin d (kk H locs hP hD hS)
end JL
/-! CONTRACTS -/
/-- a method's start: the pool, the classes, the nest's words -/
def gPre (D : va_G) (cy : Nat → ClassId) (σ : Sh) (V : Vt) (sz : Nat) (U : State) : Prop := U.heap.size = sz ∧ va_P D vwCl (gW cy σ V) U.heap ∧ va_K D vwCl (tysL cy) U ∧ va_D (fun _ => True) (gW cy σ V) ∧ NW U
/-- its end: what it returns, the new pool -/
def gPost (D : va_G) (cy : Nat → ClassId) (A : Nat → Prop) (post : Option Value → Sh → Vt → Prop) : Array Value → State → Outcome → State → Prop := fun _ st oc t => (∃ (r : Option Value) (σ2 : Sh) (V2 : Vt), oc = .returned r ∧ post r σ2 V2 ∧ va_P D vwCl (gW cy σ2 V2) t.heap ∧ va_K D vwCl (tysL cy) t ∧ va_D A (gW cy σ2 V2)) ∧ va_F A st t
/-- the contract of a method: from the pool (σ, V) and the arguments av it returns, and 'post' holds of what it returns and the pool behind it -/
def CtG (l : Launch) (y : MethodName) (bytes : ByteArray) (maxL : Nat) (ret : Option FieldType) (rm : Room) (mc ms : Nat) (σ : Sh) (V : Vt) (av : List Value) (post : Option Value → Sh → Vt → Prop) : Prop :=
  ∀ (D : va_G) (cy : Nat → ClassId) (sz : Nat), Met l y (.code y bytes maxL ret :: WALL) rm (va_Pc av (gPre D cy σ V sz)) (gPost D cy (va_A (gW cy σ V) sz) post) mc ms (va_A (gW cy σ V) sz)
/-- .. of one that leaves the shape as it is -/
def Ct (l : Launch) (y : MethodName) (bytes : ByteArray) (maxL : Nat) (ret : Option FieldType) (rm : Room) (σ : Sh) (V : Vt) (av : List Value) (post : Option Value → Vt → Prop) : Prop :=
  CtG l y bytes maxL ret rm 0 0 σ V av (fun r σ2 V2 => σ2 = σ ∧ post r V2)
theorem WALL_good : ∀ w ∈ WALL, (w.onTables && w.keeps) = true ∨ ∃ ty, w = .arrayClass ty := fun w h => good_of_word (List.mem_filter.mp h).2
theorem good_all {w0 w1 : Cond} (h : w1 ∈ WALL) : GoodIn (w0 :: WALL) (w1 :: WALL) := by
  intro w hw
  rcases List.mem_cons.mp hw with rfl | hw
  · exact ⟨List.mem_cons_of_mem _ h, WALL_good _ h⟩
  · exact ⟨List.mem_cons_of_mem _ hw, WALL_good _ hw⟩

