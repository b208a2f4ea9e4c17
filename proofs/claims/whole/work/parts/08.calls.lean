abbrev rI (post : Int32 → Vt → Prop) : Option Value → Vt → Prop := fun r V2 => ∃ x : Int32, r = some (.int x) ∧ post x V2
abbrev rL (post : Int64 → Vt → Prop) : Option Value → Vt → Prop := fun r V2 => ∃ x : Int64, r = some (.long x) ∧ post x V2
abbrev rU (post : Vt → Prop) : Option Value → Vt → Prop := fun r V2 => r = none ∧ post V2
abbrev rA (post : Value → Vt → Prop) : Option Value → Vt → Prop := fun r V2 => ∃ v : Value, r = some v ∧ post v V2
theorem gPre_blind {D : va_G} {cy : Nat → ClassId} {σ : Sh} {V : Vt} {sz : Nat} {av : List Value} : FrameBlind (va_Pc av (gPre D cy σ V sz)) := by
  intro a U g mk q
  obtain ⟨q0, q1, qP, qK, qD, qN⟩ := q
  exact ⟨q0, q1, qP, va_K.moved (u := U) (U := U.calling g mk a) (Vm.Alike.refl U.vm) qK, qD, NW.same (s := U) (U := U.calling g mk a) rfl qN⟩
theorem gPre_of {D : va_G} {cy : Nat → ClassId} {σ : Sh} {V : Vt} {s U : State} {A : Nat → Prop} (hP : va_P D vwCl (gW cy σ V) U.heap) (hD : va_D A (gW cy σ V)) (hK : va_K D vwCl (tysL cy) s) (hN : NW s) (hW : s.WarmedH U.vm) : gPre D cy σ V U.heap.size U := ⟨rfl, hP, va_K.moved hW.alike hK, hD.weaken (fun _ _ _ _ => trivial), NW.warm hW hN⟩
set_option maxHeartbeats 4000000 in
theorem CtG_of {l : Launch} {y : MethodName} {bytes : ByteArray} {maxL : Nat} {ret : Option FieldType} {rm : Room} {mc ms : Nat} {σ : Sh} {V : Vt} {av : List Value} {post : Option Value → Sh → Vt → Prop} (hy : plainName y.cls = true) (hn : (lg_sl av).length ≤ maxL)
    (body : ∀ (p : Program) (e : Env) (s : State) (m : MethodId) (below : List Frame) (meth : Method) (c : Code) (A : Nat → Prop) (D : va_G) (cy : Nat → ClassId) (ls : Array Slot), Cx p s m av.toArray meth c A D cy y.cls bytes maxL ret → lv_has ls maxL (lv_args 0 av) → J p l e rm s m av.toArray below meth c A D cy 0 0 (MQ below (gPost D cy A post) av.toArray s mc ms A) σ V (F0 m 0 ls [])) : CtG l y bytes maxL ret rm mc ms σ V av post := by
  intro D cy sz
  refine Met.ofW (cc := bytes) (maxL := maxL) (ret := ret) hy rfl ?_
  intro p e s m args below meth c s₁ B hml hv
  obtain ⟨rfl, hsz, hP, hK, hD0, hN⟩ := hv
  subst hsz
  have hts := atoms_spec (ws := .code y bytes maxL ret :: WALL) B.pre
  have hD := hD0.self (sz := s.heap.size)
  rw [lg_entry_eq]
  exact body p e s m below meth c (va_A (gW cy σ V) s.heap.size) D cy _ ⟨B.exec, B.bytes, hml, findClass_of_methodNamed B.named, fun w h => hts w (List.mem_cons_of_mem _ h), hK, hN, B.notSynchronized, B.returns, fun q h => Or.inr h⟩ (lv_entry av hn) s.heap [] hP hD va_S.rf
theorem Ct_of {l : Launch} {y : MethodName} {bytes : ByteArray} {maxL : Nat} {ret : Option FieldType} {rm : Room} {σ : Sh} {V : Vt} {av : List Value} {post : Option Value → Vt → Prop} (hy : plainName y.cls = true) (hn : (lg_sl av).length ≤ maxL)
    (body : ∀ (p : Program) (e : Env) (s : State) (m : MethodId) (below : List Frame) (meth : Method) (c : Code) (A : Nat → Prop) (D : va_G) (cy : Nat → ClassId) (ls : Array Slot), Cx p s m av.toArray meth c A D cy y.cls bytes maxL ret → lv_has ls maxL (lv_args 0 av) → J p l e rm s m av.toArray below meth c A D cy 0 0 (MQ below (gPost D cy A (fun r σ2 V2 => σ2 = σ ∧ post r V2)) av.toArray s 0 0 A) σ V (F0 m 0 ls [])) : Ct l y bytes maxL ret rm σ V av post := CtG_of hy hn body
section JC
variable {p : Program} {l : Launch} {e : Env} {R : Room} {s : State} {m : MethodId} {args : Array Value} {below : List Frame} {meth : Method} {c : Code} {A : Nat → Prop} {D : va_G} {cy : Nat → ClassId} {cells slots : Nat} {Q : State → Prop} {σ : Sh} {V : Vt} {own : String} {cc : ByteArray} {nL : Nat} {ret : Option FieldType} {pc : Nat} {ls : Array Slot} {rest st0 : List Value} {post : Option Value → Sh → Vt → Prop}
theorem j_iret (C : Cx p s m args meth c A D cy own cc nL (some .int)) {v : Int32} (h : post (some (.int v)) σ V) (d : decode cc pc = .ok (.ireturn, 1)) : J p l e R s m args below meth c A D cy cells slots (MQ below (gPost D cy A post) args s cells slots A) σ V (F0 m pc ls [(.int v)]) := fun H locs hP hD hS =>
  W.iret (v := v) C.1 C.2.1 C.2.2.2.2.2.2.2.2.1 (fun t ht hW => ⟨⟨_, σ, V, rfl, h, by rw [ht]; exact hP, va_K.moved hW.alike C.2.2.2.2.2.1, hD⟩, hS.F ht⟩) hS.2.2 d (hlocks := C.2.2.2.2.2.2.2.1)
theorem j_zret (C : Cx p s m args meth c A D cy own cc nL (some .boolean)) {v : Int32} (hn : narrow .boolean (.int v) = .int v) (h : post (some (.int v)) σ V) (d : decode cc pc = .ok (.ireturn, 1)) : J p l e R s m args below meth c A D cy cells slots (MQ below (gPost D cy A post) args s cells slots A) σ V (F0 m pc ls [(.int v)]) := fun H locs hP hD hS =>
  W.zret (v := v) C.1 C.2.1 C.2.2.2.2.2.2.2.2.1 hn (fun t ht hW => ⟨⟨_, σ, V, rfl, h, by rw [ht]; exact hP, va_K.moved hW.alike C.2.2.2.2.2.1, hD⟩, hS.F ht⟩) hS.2.2 d (hlocks := C.2.2.2.2.2.2.2.1)
theorem j_lret (C : Cx p s m args meth c A D cy own cc nL (some .long)) {v : Int64} (h : post (some (.long v)) σ V) (d : decode cc pc = .ok (.lreturn, 1)) : J p l e R s m args below meth c A D cy cells slots (MQ below (gPost D cy A post) args s cells slots A) σ V (F0 m pc ls [(.long v)]) := fun H locs hP hD hS =>
  W.lret (v := v) C.1 C.2.1 C.2.2.2.2.2.2.2.2.1 (fun t ht hW => ⟨⟨_, σ, V, rfl, h, by rw [ht]; exact hP, va_K.moved hW.alike C.2.2.2.2.2.1, hD⟩, hS.F ht⟩) hS.2.2 d (hlocks := C.2.2.2.2.2.2.2.1)
theorem j_aret {nm : String} (C : Cx p s m args meth c A D cy own cc nL (some (.object nm))) {v : Value} (hv : v = .null ∨ ∃ a, v = .ref a) (h : post (some (v)) σ V) (d : decode cc pc = .ok (.areturn, 1)) : J p l e R s m args below meth c A D cy cells slots (MQ below (gPost D cy A post) args s cells slots A) σ V (F0 m pc ls [(v)]) := fun H locs hP hD hS =>
  W.aret (v := v) C.1 C.2.1 C.2.2.2.2.2.2.2.2.1 (Or.inl ⟨nm, rfl⟩) hv (fun t ht hW => ⟨⟨_, σ, V, rfl, h, by rw [ht]; exact hP, va_K.moved hW.alike C.2.2.2.2.2.1, hD⟩, hS.F ht⟩) hS.2.2 d (hlocks := C.2.2.2.2.2.2.2.1)
theorem j_vret (C : Cx p s m args meth c A D cy own cc nL none) (h : post none σ V) (d : decode cc pc = .ok (.return_, 1)) : J p l e R s m args below meth c A D cy cells slots (MQ below (gPost D cy A post) args s cells slots A) σ V (F0 m pc ls []) := fun H locs hP hD hS =>
  W.vret C.1 C.2.1 C.2.2.2.2.2.2.2.2.1 (fun t ht hW => ⟨⟨_, σ, V, rfl, h, by rw [ht]; exact hP, va_K.moved hW.alike C.2.2.2.2.2.1, hD⟩, hS.F ht⟩) hS.2.2 d (hlocks := C.2.2.2.2.2.2.2.1)
theorem j_free (C : Cx p s m args meth c A D cy own cc nL ret) {H : Heap} {locs : List Loc} (hD : va_D A (gW cy σ V)) (hS : va_S A s.heap H locs) : ∀ q, va_A (gW cy σ V) H.size q → A q := by
  intro q h
  rcases h with ⟨k, e, h⟩ | h
  · exact hD.2 k (q, e) h
  · exact C.2.2.2.2.2.2.2.2.2 q (Nat.le_trans hS.1 h)
/-- a call, whatever its kind: the pool goes to the callee whole, and comes back as its contract says -/
theorem j_run (C : Cx p s m args meth c A D cy own cc nL ret) {mc ms : Nat} {a : Array Value} (hr : ∀ (H : Heap) (locs : List Loc), va_P D vwCl (gW cy σ V) H → va_D A (gW cy σ V) → va_S A s.heap H locs → va_Run p l e R s m args below meth c H locs cells slots mc ms (F0 m pc ls st0) rest (gPost D cy (va_A (gW cy σ V) H.size) post a) (va_A (gW cy σ V) H.size))
    (kk : ∀ (r : Option Value) (σ2 : Sh) (V2 : Vt), post r σ2 V2 → J p l e R s m args below meth c A D cy (cells + mc) (slots + ms) Q σ2 V2 (F0 m (pc + 3) ls (r.toList ++ rest))) : J p l e R s m args below meth c A D cy cells slots Q σ V (F0 m pc ls st0) := by
  intro H locs hP hD hS T hT X
  have hF := j_free C hD hS
  obtain ⟨v, st₀, t, T', L, h0, X', hL, e1, e2, ⟨⟨r, σ2, V2, hv, hp, hP2, hK2, hD2⟩, hz, hk⟩, st⟩ := hr H locs hP hD hS T hT X
  cases hv
  rw [h0] at hz hk
  obtain ⟨t2, a1, b1⟩ := kk v σ2 V2 hp T'.heap (locs ++ L) (by rw [e1]; exact hP2) (hD2.weaken (fun _ q _ h => hF q.1 h))
    ⟨Nat.le_trans hS.1 (by rw [e1]; exact hz), fun q h1 h2 => by rw [e1, hk q (Nat.lt_of_lt_of_le h1 hS.1) (fun z => h2 (hF q z))]; exact hS.2.1 q h1 h2, fun q hq => by
      rcases List.mem_append.mp hq with h | h
      · exact hS.2.2 q h
      · exact hF _ (hL q h)⟩ T' rfl X'
  exact ⟨t2, st t2 a1, b1⟩
/-- what a call asks of the tables -/
def Vir (own : String) (index : Nat) (y : MethodName) (bytes : ByteArray) (maxL : Nat) (ret : Option FieldType) (n : Nat) : Prop := Cond.methodLink own index y ∈ WALL ∧ Cond.instanceMethod y ∈ WALL ∧ Cond.selects y.cls y y ∈ WALL ∧ Cond.initialized y.cls ∈ WALL ∧ Cond.code y bytes maxL ret ∈ WALL ∧ (y.cls ≠ "java/lang/invoke/MethodHandle" ∧ y.cls ≠ "java/lang/invoke/VarHandle" ∧ (parseMethodDescriptor y.desc).map (fun d => d.parameters.length) = some n)
def Sta (own : String) (index : Nat) (y : MethodName) (bytes : ByteArray) (maxL : Nat) (ret : Option FieldType) (n : Nat) : Prop := Cond.methodLink own index y ∈ WALL ∧ Cond.static y ∈ WALL ∧ Cond.initialized own ∈ WALL ∧ Cond.code y bytes maxL ret ∈ WALL ∧ (y.cls = own ∧ y.cls ≠ "java/lang/invoke/MethodHandle" ∧ y.cls ≠ "java/lang/invoke/VarHandle" ∧ (parseMethodDescriptor y.desc).map (fun d => d.parameters.length) = some n)
def StN (own : String) (index : Nat) (y : MethodName) (host : String) (bytes : ByteArray) (maxL : Nat) (ret : Option FieldType) (n : Nat) : Prop := Cond.methodLinkNest own index y host ∈ NWn ∧ Cond.static y ∈ WALL ∧ Cond.initialized y.cls ∈ WALL ∧ Cond.code y bytes maxL ret ∈ WALL ∧ (y.cls ≠ "java/lang/invoke/MethodHandle" ∧ y.cls ≠ "java/lang/invoke/VarHandle" ∧ (parseMethodDescriptor y.desc).map (fun d => d.parameters.length) = some n)
theorem good_one {w : Cond} (h : w ∈ WALL) : w ∈ WALL ∧ ((w.onTables && w.keeps) = true ∨ ∃ ty, w = .arrayClass ty) := ⟨h, WALL_good _ h⟩
theorem good_code {w : Cond} (h : w ∈ WALL) : GoodIn WALL (w :: WALL) := by
  intro x hx
  rcases List.mem_cons.mp hx with rfl | hx
  · exact good_one h
  · exact good_one hx
set_option maxHeartbeats 4000000 in
theorem j_callV (C : Cx p s m args meth c A D cy own cc nL ret) {y : MethodName} {bytes : ByteArray} {maxL index n k ci : Nat} {ret2 : Option FieldType} {rm : Room} {mc ms : Nat} (As : List Value) (rest : List Value) (hM : CtG l y bytes maxL ret2 rm mc ms σ V (.ref (σ.2.2.2.2 k) :: As) post) (w : Vir own index y bytes maxL ret2 n) (hk : k < σ.1) (hK : σ.2.1 k = ci) (hq : (vwCl[ci]?).map (fun q => q.1) = some y.cls) (hR : rm.cells = mc ∧ rm.slots = ms ∧ rm.frames + 1 ≤ R.frames ∧ 8 + (maxL + 11) + rm.locals ≤ R.locals) (hn : As.length = n) (hsz : ls.size = nL) (hst : st0 = As.reverse ++ .ref (σ.2.2.2.2 k) :: rest) (hrm : (rest.map fun v => v.category).sum ≤ 8) (hf : cells + mc ≤ R.cells ∧ slots + ms ≤ R.slots) (d : decode cc pc = .ok (.invokevirtual index, 3))
    (kk : ∀ (r : Option Value) (σ2 : Sh) (V2 : Vt), post r σ2 V2 → J p l e R s m args below meth c A D cy (cells + mc) (slots + ms) Q σ2 V2 (F0 m (pc + 3) ls (r.toList ++ rest))) : J p l e R s m args below meth c A D cy cells slots Q σ V (F0 m pc ls st0) := by
  obtain ⟨w1, w2, w3, w4, w5, w6⟩ := w
  refine j_run C (a := (Value.ref (σ.2.2.2.2 k) :: As).toArray) (fun H locs hP hD hS => ?_) kk
  obtain ⟨q, hq1, hq2⟩ : ∃ q, vwCl[ci]? = some q ∧ q.1 = y.cls := by
    cases h : vwCl[ci]? with
    | none => rw [h] at hq; cases hq
    | some q => rw [h] at hq; exact ⟨q, rfl, Option.some.inj hq⟩
  have hw := gW_get (cy := cy) (V := V) hk
  rw [gE_obj hK (vwCl_lt hq1)] at hw
  have hrec := va_recv C.2.2.2.2.2.1 hP hq1 hw
  rw [hq2] at hrec
  refine va_runV (C := y.cls) (As := As) (rest := rest) ⟨C.1, C.2.1, C.2.2.1, C.2.2.2.1, C.2.2.2.2.1⟩ (hM D cy H.size) (cwV n C.2.2.2.2.1 (ws' := WALL) ?_ rfl hR.1 hR.2.1 ⟨rfl, w6⟩ ⟨hR.2.2.1, hR.2.2.2⟩) ⟨gPre_blind, hrec, fun U hU hW => ⟨rfl, ?_⟩⟩ rfl hn hsz hst (lv_room hrm) d hf
  · intro x hx
    unfold wsV at hx
    rcases List.mem_append.mp hx with hx | hx
    · simp only [List.mem_cons, List.not_mem_nil, or_false] at hx
      rcases hx with rfl | rfl | rfl | rfl
      · exact good_one w1
      · exact good_one w2
      · exact good_one w3
      · exact good_one w4
    · exact good_code w5 x hx
  · subst hU
    exact gPre_of hP hD C.2.2.2.2.2.1 C.2.2.2.2.2.2.1 hW
set_option maxHeartbeats 4000000 in
theorem j_callS (C : Cx p s m args meth c A D cy own cc nL ret) {y : MethodName} {bytes : ByteArray} {maxL index n : Nat} {ret2 : Option FieldType} {rm : Room} {mc ms : Nat} (As : List Value) (rest : List Value) (hM : CtG l y bytes maxL ret2 rm mc ms σ V As post) (w : Sta own index y bytes maxL ret2 n) (hR : rm.cells = mc ∧ rm.slots = ms ∧ rm.frames + 1 ≤ R.frames ∧ 8 + (maxL + 11) + rm.locals ≤ R.locals) (hn : As.length = n) (hsz : ls.size = nL) (hst : st0 = As.reverse ++ rest) (hrm : (rest.map fun v => v.category).sum ≤ 8) (hf : cells + mc ≤ R.cells ∧ slots + ms ≤ R.slots) (d : decode cc pc = .ok (.invokestatic index, 3))
    (kk : ∀ (r : Option Value) (σ2 : Sh) (V2 : Vt), post r σ2 V2 → J p l e R s m args below meth c A D cy (cells + mc) (slots + ms) Q σ2 V2 (F0 m (pc + 3) ls (r.toList ++ rest))) : J p l e R s m args below meth c A D cy cells slots Q σ V (F0 m pc ls st0) := by
  obtain ⟨w1, w2, w3, w4, w6⟩ := w
  refine j_run C (a := As.toArray) (fun H locs hP hD hS => ?_) kk
  refine va_runS (As := As) (rest := rest) ⟨C.1, C.2.1, C.2.2.1, C.2.2.2.1, C.2.2.2.2.1⟩ (hM D cy H.size) (cwS n C.2.2.2.2.1 (ws' := WALL) ?_ rfl hR.1 hR.2.1 w6 ⟨hR.2.2.1, hR.2.2.2⟩) ⟨gPre_blind, fun U hU hW => ⟨rfl, ?_⟩⟩ rfl hn hsz hst (lv_room hrm) d hf
  · intro x hx
    unfold wsS at hx
    rcases List.mem_append.mp hx with hx | hx
    · simp only [List.mem_cons, List.not_mem_nil, or_false] at hx
      rcases hx with rfl | rfl | rfl
      · exact good_one w1
      · exact good_one w2
      · exact good_one w3
    · exact good_code w4 x hx
  · subst hU
    exact gPre_of hP hD C.2.2.2.2.2.1 C.2.2.2.2.2.2.1 hW
set_option maxHeartbeats 4000000 in
theorem j_callN (C : Cx p s m args meth c A D cy own cc nL ret) {y : MethodName} {host : String} {bytes : ByteArray} {maxL index n : Nat} {ret2 : Option FieldType} {rm : Room} {mc ms : Nat} (As : List Value) (rest : List Value) (hM : CtG l y bytes maxL ret2 rm mc ms σ V As post) (w : StN own index y host bytes maxL ret2 n) (hR : rm.cells = mc ∧ rm.slots = ms ∧ rm.frames + 1 ≤ R.frames ∧ 8 + (maxL + 11) + rm.locals ≤ R.locals) (hn : As.length = n) (hsz : ls.size = nL) (hst : st0 = As.reverse ++ rest) (hrm : (rest.map fun v => v.category).sum ≤ 8) (hf : cells + mc ≤ R.cells ∧ slots + ms ≤ R.slots) (d : decode cc pc = .ok (.invokestatic index, 3))
    (kk : ∀ (r : Option Value) (σ2 : Sh) (V2 : Vt), post r σ2 V2 → J p l e R s m args below meth c A D cy (cells + mc) (slots + ms) Q σ2 V2 (F0 m (pc + 3) ls (r.toList ++ rest))) : J p l e R s m args below meth c A D cy cells slots Q σ V (F0 m pc ls st0) := by
  obtain ⟨w1, w2, w3, w4, w6⟩ := w
  refine j_run C (a := As.toArray) (fun H locs hP hD hS => ?_) kk
  refine va_runSN (As := As) (rest := rest) ⟨C.1, C.2.1, C.2.2.1, C.2.2.2.1, C.2.2.2.2.1⟩ (hM D cy H.size) ⟨va_cnB n C.2.2.2.2.1 (ws' := WALL) (good_code w4) rfl hR.1 hR.2.1 (C.2.2.2.2.2.2.1.1 _ w1) (C.2.2.2.2.1 _ w3) w6 ⟨hR.2.2.1, hR.2.2.2⟩, C.2.2.2.2.1 _ w2, trivial⟩ ⟨gPre_blind, fun U hU hW => ⟨rfl, ?_⟩⟩ rfl hn hsz hst (lv_room hrm) d hf
  subst hU
  exact gPre_of hP hD C.2.2.2.2.2.1 C.2.2.2.2.2.2.1 hW
theorem kI {post : Int32 → Vt → Prop} (h : ∀ (x : Int32) (V2 : Vt), post x V2 → J p l e R s m args below meth c A D cy cells slots Q σ V2 (F0 m (pc + 3) ls (.int x :: rest))) : ∀ (r : Option Value) (σ2 : Sh) (V2 : Vt), (σ2 = σ ∧ rI post r V2) → J p l e R s m args below meth c A D cy (cells + 0) (slots + 0) Q σ2 V2 (F0 m (pc + 3) ls (r.toList ++ rest)) := by
  rintro r σ2 V2 ⟨rfl, x, rfl, hp⟩
  exact h x V2 hp
theorem kL {post : Int64 → Vt → Prop} (h : ∀ (x : Int64) (V2 : Vt), post x V2 → J p l e R s m args below meth c A D cy cells slots Q σ V2 (F0 m (pc + 3) ls (.long x :: rest))) : ∀ (r : Option Value) (σ2 : Sh) (V2 : Vt), (σ2 = σ ∧ rL post r V2) → J p l e R s m args below meth c A D cy (cells + 0) (slots + 0) Q σ2 V2 (F0 m (pc + 3) ls (r.toList ++ rest)) := by
  rintro r σ2 V2 ⟨rfl, x, rfl, hp⟩
  exact h x V2 hp
theorem kA {post : Value → Vt → Prop} (h : ∀ (x : Value) (V2 : Vt), post x V2 → J p l e R s m args below meth c A D cy cells slots Q σ V2 (F0 m (pc + 3) ls (x :: rest))) : ∀ (r : Option Value) (σ2 : Sh) (V2 : Vt), (σ2 = σ ∧ rA post r V2) → J p l e R s m args below meth c A D cy (cells + 0) (slots + 0) Q σ2 V2 (F0 m (pc + 3) ls (r.toList ++ rest)) := by
  rintro r σ2 V2 ⟨rfl, x, rfl, hp⟩
  exact h x V2 hp
theorem kU {post : Vt → Prop} (h : ∀ (V2 : Vt), post V2 → J p l e R s m args below meth c A D cy cells slots Q σ V2 (F0 m (pc + 3) ls rest)) : ∀ (r : Option Value) (σ2 : Sh) (V2 : Vt), (σ2 = σ ∧ rU post r V2) → J p l e R s m args below meth c A D cy (cells + 0) (slots + 0) Q σ2 V2 (F0 m (pc + 3) ls (r.toList ++ rest)) := by
  rintro r σ2 V2 ⟨rfl, rfl, hp⟩
  exact h V2 hp
end JC
