set_option maxHeartbeats 4000000 in
theorem CtI_of {l : Launch} {y : MethodName} {bytes : ByteArray} {maxL : Nat} {ret : Option FieldType} {rm : Room} {mc ms : Nat} {σ : Sh} {V : Vt} {av : List Value} {post : Option Value → Sh → Vt → Prop} (hy : plainName y.cls = true) (hn : (lg_sl av).length ≤ maxL)
    (body : ∀ (p : Program) (e : Env) (s : State) (m : MethodId) (below : List Frame) (meth : Method) (c : Code) (A : Nat → Prop) (D : va_G) (cy : Nat → ClassId) (ls : Array Slot), meth.name = y.name → Cx p s m av.toArray meth c A D cy y.cls bytes maxL ret → lv_has ls maxL (lv_args 0 av) → J p l e rm s m av.toArray below meth c A D cy 0 0 (MQ below (gPost D cy A post) av.toArray s mc ms A) σ V (F0 m 0 ls [])) : CtG l y bytes maxL ret rm mc ms σ V av post := by
  intro D cy sz
  refine Met.ofW (cc := bytes) (maxL := maxL) (ret := ret) hy rfl ?_
  intro p e s m args below meth c s₁ B hml hv
  obtain ⟨rfl, hsz, hP, hK, hD0, hN⟩ := hv
  subst hsz
  have hts := atoms_spec (ws := .code y bytes maxL ret :: WALL) B.pre
  have hD := hD0.self (sz := s.heap.size)
  rw [lg_entry_eq]
  exact body p e s m below meth c (va_A (gW cy σ V) s.heap.size) D cy _ (name_of_methodNamed B.named B.method).1 ⟨B.exec, B.bytes, hml, findClass_of_methodNamed B.named, fun w h => hts w (List.mem_cons_of_mem _ h), hK, hN, B.notSynchronized, B.returns, fun q h => Or.inr h⟩ (lv_entry av hn) s.heap [] hP hD va_S.rf
section JH
variable {p : Program} {l : Launch} {e : Env} {R : Room} {s : State} {m : MethodId} {args : Array Value} {below : List Frame} {meth : Method} {c : Code} {A : Nat → Prop} {D : va_G} {cy : Nat → ClassId} {cells slots : Nat} {Q : State → Prop} {σ : Sh} {V : Vt} {own : String} {cc : ByteArray} {nL : Nat} {ret : Option FieldType} {pc : Nat} {ls : Array Slot} {rest st0 : List Value} {post : Option Value → Sh → Vt → Prop}
def Ini (own : String) (index : Nat) (y : MethodName) (bytes : ByteArray) (maxL n : Nat) : Prop := Cond.initialized y.cls ∈ WALL ∧ Cond.methodLink own index y ∈ WALL ∧ Cond.instanceMethod y ∈ WALL ∧ Cond.code y bytes maxL none ∈ WALL ∧ y.name = "<init>" ∧ (y.cls ≠ "java/lang/invoke/MethodHandle" ∧ y.cls ≠ "java/lang/invoke/VarHandle" ∧ (parseMethodDescriptor y.desc).map (fun d => d.parameters.length) = some n)
def InN (own : String) (index : Nat) (y : MethodName) (host : String) (bytes : ByteArray) (maxL n : Nat) : Prop := Cond.initialized y.cls ∈ WALL ∧ Cond.methodLinkNest own index y host ∈ NWn ∧ Cond.instanceMethod y ∈ WALL ∧ Cond.code y bytes maxL none ∈ WALL ∧ y.name = "<init>" ∧ (y.cls ≠ "java/lang/invoke/MethodHandle" ∧ y.cls ≠ "java/lang/invoke/VarHandle" ∧ (parseMethodDescriptor y.desc).map (fun d => d.parameters.length) = some n)
set_option maxHeartbeats 4000000 in
theorem j_callI (C : Cx p s m args meth c A D cy own cc nL ret) {y : MethodName} {bytes : ByteArray} {maxL index n a : Nat} {rm : Room} {mc ms : Nat} (As : List Value) (rest : List Value) (hM : CtG l y bytes maxL none rm mc ms σ V (.ref a :: As) post) (w : Ini own index y bytes maxL n) (hR : rm.cells = mc ∧ rm.slots = ms ∧ rm.frames + 1 ≤ R.frames ∧ 8 + (maxL + 11) + rm.locals ≤ R.locals) (hn : As.length = n) (hsz : ls.size = nL) (hst : st0 = As.reverse ++ .ref a :: rest) (hrm : (rest.map fun v => v.category).sum ≤ 8) (hf : cells + mc ≤ R.cells ∧ slots + ms ≤ R.slots) (d : decode cc pc = .ok (.invokespecial index, 3))
    (kk : ∀ (r : Option Value) (σ2 : Sh) (V2 : Vt), post r σ2 V2 → J p l e R s m args below meth c A D cy (cells + mc) (slots + ms) Q σ2 V2 (F0 m (pc + 3) ls (r.toList ++ rest))) : J p l e R s m args below meth c A D cy cells slots Q σ V (F0 m pc ls st0) := by
  obtain ⟨w1, w2, w3, w4, w5, w6⟩ := w
  refine j_run C (a := (Value.ref a :: As).toArray) (fun H locs hP hD hS => ?_) kk
  refine va_runI (As := As) (rest := rest) ⟨C.1, C.2.1, C.2.2.1, C.2.2.2.1, C.2.2.2.2.1⟩ (hM D cy H.size) (cwI n C.2.2.2.2.1 (ws' := WALL) (good_code w4) rfl hR.1 hR.2.1 (C.2.2.2.2.1 _ w1) (C.2.2.2.2.1 _ w2) (C.2.2.2.2.1 _ w3) w5 w6 ⟨hR.2.2.1, hR.2.2.2⟩) ⟨gPre_blind, fun U hU hW => ⟨rfl, ?_⟩⟩ rfl hn hsz hst (lv_room hrm) d hf
  subst hU
  exact gPre_of hP hD C.2.2.2.2.2.1 C.2.2.2.2.2.2.1 hW
set_option maxHeartbeats 4000000 in
theorem j_callIN (C : Cx p s m args meth c A D cy own cc nL ret) {y : MethodName} {host : String} {bytes : ByteArray} {maxL index n a : Nat} {rm : Room} {mc ms : Nat} (As : List Value) (rest : List Value) (hM : CtG l y bytes maxL none rm mc ms σ V (.ref a :: As) post) (w : InN own index y host bytes maxL n) (hR : rm.cells = mc ∧ rm.slots = ms ∧ rm.frames + 1 ≤ R.frames ∧ 8 + (maxL + 11) + rm.locals ≤ R.locals) (hn : As.length = n) (hsz : ls.size = nL) (hst : st0 = As.reverse ++ .ref a :: rest) (hrm : (rest.map fun v => v.category).sum ≤ 8) (hf : cells + mc ≤ R.cells ∧ slots + ms ≤ R.slots) (d : decode cc pc = .ok (.invokespecial index, 3))
    (kk : ∀ (r : Option Value) (σ2 : Sh) (V2 : Vt), post r σ2 V2 → J p l e R s m args below meth c A D cy (cells + mc) (slots + ms) Q σ2 V2 (F0 m (pc + 3) ls (r.toList ++ rest))) : J p l e R s m args below meth c A D cy cells slots Q σ V (F0 m pc ls st0) := by
  obtain ⟨w1, w2, w3, w4, w5, w6⟩ := w
  refine j_run C (a := (Value.ref a :: As).toArray) (fun H locs hP hD hS => ?_) kk
  refine va_runIN (As := As) (rest := rest) ⟨C.1, C.2.1, C.2.2.1, C.2.2.2.1, C.2.2.2.2.1⟩ (hM D cy H.size) ⟨va_cnB n C.2.2.2.2.1 (ws' := WALL) (good_code w4) rfl hR.1 hR.2.1 (C.2.2.2.2.2.2.1.1 _ w2) (C.2.2.2.2.1 _ w1) w6 ⟨hR.2.2.1, hR.2.2.2⟩, w5, C.2.2.2.2.1 _ w3⟩ ⟨gPre_blind, fun U hU hW => ⟨rfl, ?_⟩⟩ rfl hn hsz hst (lv_room hrm) d hf
  subst hU
  exact gPre_of hP hD C.2.2.2.2.2.1 C.2.2.2.2.2.2.1 hW
/-- more room may be spent than is -/
theorem j_more {c_2_ s_2_ : Nat} {g : JFrame} (hc : cells ≤ c_2_) (hs : slots ≤ s_2_) (k : J p l e R s m args below meth c A D cy c_2_ s_2_ Q σ V g) : J p l e R s m args below meth c A D cy cells slots Q σ V g := fun H locs hP hD hS T hT X =>
  k H locs hP hD hS T hT { X with same := ⟨X.same.1, X.same.2.1, Nat.le_trans X.same.2.2.1 (by omega), X.same.2.2.2.1, Nat.le_trans X.same.2.2.2.2.1 (by omega), X.same.2.2.2.2.2⟩ }
/-- another pool, of the same cells, or of some of them -/
def Swp (cy : Nat → ClassId) (σ : Sh) (V : Vt) (σ2 : Sh) (V2 : Vt) : Prop := ∃ f : Nat → Nat, (∀ k, k < σ2.1 → f k < σ.1 ∧ σ.2.2.2.2 (f k) = σ2.2.2.2.2 k ∧ ∀ D H, va_at D vwCl (σ.2.2.2.2 (f k), gE cy σ V (f k)) H → va_at D vwCl (σ2.2.2.2.2 k, gE cy σ2 V2 k) H) ∧ ∀ j k, j < σ2.1 → k < σ2.1 → f j = f k → j = k
theorem Swp.pp {D : va_G} {H : Heap} {V2 : Vt} {σ2 : Sh} (h : Swp cy σ V σ2 V2) (hP : va_P D vwCl (gW cy σ V) H) : va_P D vwCl (gW cy σ2 V2) H := by
  obtain ⟨f, h_1_, -⟩ := h
  intro k q hq
  by_cases hk : k < σ2.1
  · rw [gW_get hk] at hq
    cases hq
    exact (h_1_ k hk).2.2 D H (hP (f k) _ (gW_get (h_1_ k hk).1))
  · rw [gW_out hk] at hq
    cases hq
theorem Swp.dd {V2 : Vt} {σ2 : Sh} (h : Swp cy σ V σ2 V2) (hD : va_D A (gW cy σ V)) : va_D A (gW cy σ2 V2) := by
  obtain ⟨f, h_1_, h_2_⟩ := h
  have key : ∀ k q, (gW cy σ2 V2)[k]? = some q → k < σ2.1 ∧ ∃ e, (gW cy σ V)[f k]? = some (q.1, e) := by
    intro k q hq
    by_cases hk : k < σ2.1
    · rw [gW_get hk] at hq
      cases hq
      refine ⟨hk, gE cy σ V (f k), ?_⟩
      rw [gW_get (h_1_ k hk).1, (h_1_ k hk).2.1]
    · rw [gW_out hk] at hq
      cases hq
  refine ⟨fun i j p q hi hj e => ?_, fun k q hq => ?_⟩
  · obtain ⟨a1, e1, a2⟩ := key i p hi
    obtain ⟨b1, e2, b2⟩ := key j q hj
    exact h_2_ i j a1 b1 (hD.1 _ _ _ _ a2 b2 e)
  · obtain ⟨a1, e1, a2⟩ := key k q hq
    exact hD.2 _ (q.1, e1) a2
theorem j_swap {σ2 : Sh} {V2 : Vt} {g : JFrame} (h : Swp cy σ V σ2 V2) (k : J p l e R s m args below meth c A D cy cells slots Q σ2 V2 g) : J p l e R s m args below meth c A D cy cells slots Q σ V g := fun H locs hP hD hS => k H locs (h.pp hP) (h.dd hD) hS
theorem arrV_cong {cA : ClassId} {n : Nat} {f g : Nat → Value} (h : ∀ i, i < n → f i = g i) : arrV cA n f = arrV cA n g := by
  unfold arrV
  congr 1
  apply Array.ext
  · simp
  · intro i h_1_ h_2_
    simp at h_1_ ⊢
    exact h i h_1_
theorem fl_cong {V V2 : Nat → Int32} {G G2 : Nat → Option Nat} : ∀ (bs : List Bool) (i : Nat), (∀ j, i ≤ j → j < i + bs.length → V j = V2 j ∧ G j = G2 j) → fl V G i bs = fl V2 G2 i bs
  | [], _, _ => rfl
  | b :: bs, i, h => by
    have h_0_ := h i (Nat.le_refl i) (by simp)
    rw [fl, fl, h_0_.1, h_0_.2, fl_cong bs (i + 1) (fun j h_1_ h_2_ => h j (by omega) (by simp only [List.length_cons] at *; omega))]
/-- cells of the same kind, length and contents -/
theorem Swp.of {σ2 : Sh} {V2 : Vt} (f : Nat → Nat) (h : ∀ k, k < σ2.1 → f k < σ.1 ∧ σ.2.2.2.2 (f k) = σ2.2.2.2.2 k ∧ σ.2.1 (f k) = σ2.2.1 k ∧ σ.2.2.2.1 (f k) = σ2.2.2.2.1 k ∧ V (f k) = V2 k ∧ (σ2.2.1 k ≠ 13 → ∀ i, i < 40 → (σ.2.2.1 (f k) i).map σ.2.2.2.2 = (σ2.2.2.1 k i).map σ2.2.2.2.2) ∧ σ2.2.2.2.1 k ≤ 40 ∨ (f k < σ.1 ∧ σ.2.2.2.2 (f k) = σ2.2.2.2.2 k ∧ σ.2.1 (f k) = 13 ∧ σ2.2.1 k = 13 ∧ σ.2.2.2.1 (f k) = σ2.2.2.2.1 k ∧ V (f k) = V2 k)) (hi : ∀ j k, j < σ2.1 → k < σ2.1 → f j = f k → j = k) : Swp cy σ V σ2 V2 := by
  refine ⟨f, fun k hk => ?_, hi⟩
  rcases h k hk with ⟨a1, a2, a3, a4, a5, a6, a7⟩ | ⟨a1, a2, a3, a4, a5, a6⟩
  · refine ⟨a1, a2, fun D H q => ?_⟩
    rw [a2] at q
    by_cases c_1_ : σ2.2.1 k < 13
    · rw [gE_obj a3 c_1_] at q
      rw [gE_obj rfl c_1_]
      have hl : (sg (σ2.2.1 k)).length ≤ 40 := by
        have : ∀ c, c < 13 → (sg c).length ≤ 40 := by decide +kernel
        exact this _ c_1_
      rw [fl_cong (V := V (f k)) (V2 := V2 k) (G := fun i => (σ.2.2.1 (f k) i).map σ.2.2.2.2) (G2 := fun i => (σ2.2.2.1 k i).map σ2.2.2.2.2) (sg (σ2.2.1 k)) 0 (fun j _ hj => ⟨by rw [a5], a6 (by omega) j (by omega)⟩)] at q
      exact q
    · by_cases c_2_ : σ2.2.1 k = 13
      · rw [gE_ints (a3.trans c_2_), a4, a5] at q
        rw [gE_ints c_2_]
        exact q
      · rw [gE_refs a3 (by omega), a4] at q
        rw [gE_refs rfl (by omega)]
        have e : vp_cell (cy (σ2.2.1 k)) (σ2.2.2.2.1 k, .inr (.inr (.inr (.inr (fun i => (σ.2.2.1 (f k) i).map σ.2.2.2.2))))) = vp_cell (cy (σ2.2.1 k)) (σ2.2.2.2.1 k, .inr (.inr (.inr (.inr (fun i => (σ2.2.2.1 k i).map σ2.2.2.2.2))))) := by
          rw [vp_cell_q, vp_cell_q]
          exact arrV_cong (fun i hi => by rw [a6 c_2_ i (by omega)])
        show H[_]? = some (vp_cell _ _)
        rw [← e]
        exact q
  · refine ⟨a1, a2, fun D H q => ?_⟩
    rw [a2, gE_ints a3, a5, a6] at q
    rw [gE_ints a4]
    exact q
end JH
