/-! THE LAW: the system's pool and the reference's, side by side -/
def Z2 (D : va_G) (cy : Nat → ClassId) (A : Nat → Prop) (σ : Sh) (V : Vt) (τ : Sh) (M : Vt) (H : Heap) : Prop := va_P D vwCl (gW cy σ V) H ∧ va_D A (gW cy σ V) ∧ va_P D vwCl (gW cy τ M) H ∧ va_D A (gW cy τ M) ∧ ∀ (i j : Nat) (a b : Nat × va_E), (gW cy σ V)[i]? = some a → (gW cy τ M)[j]? = some b → a.1 ≠ b.1
def J2 (p : Program) (l : Launch) (e : Env) (R : Room) (s : State) (m : MethodId) (args : Array Value) (below : List Frame) (meth : Method) (c : Code) (A : Nat → Prop) (D : va_G) (cy : Nat → ClassId) (cells slots : Nat) (Q : State → Prop) (σ : Sh) (V : Vt) (τ : Sh) (M : Vt) (g : JFrame) : Prop :=
  ∀ (H : Heap) (locs : List Loc), Z2 D cy A σ V τ M H → va_S A s.heap H locs → W p l e R s m args below meth c H locs cells slots Q g
theorem Z2.symm {D : va_G} {cy : Nat → ClassId} {A : Nat → Prop} {σ τ : Sh} {V M : Vt} {H : Heap} (h : Z2 D cy A σ V τ M H) : Z2 D cy A τ M σ V H := ⟨h.2.2.1, h.2.2.2.1, h.1, h.2.1, fun i j a b ha hb => (h.2.2.2.2 j i b a hb ha).symm⟩
section JTwo
variable {p : Program} {l : Launch} {e : Env} {R : Room} {s : State} {m : MethodId} {args : Array Value} {below : List Frame} {meth : Method} {c : Code} {A : Nat → Prop} {D : va_G} {cy : Nat → ClassId} {cells slots : Nat} {Q : State → Prop} {σ τ : Sh} {V M : Vt} {own : String} {cc : ByteArray} {nL : Nat} {ret : Option FieldType} {pc : Nat} {ls : Array Slot} {rest st0 : List Value} {post : Option Value → Sh → Vt → Prop}
theorem g_sym {g : JFrame} (k : J2 p l e R s m args below meth c A D cy cells slots Q τ M σ V g) : J2 p l e R s m args below meth c A D cy cells slots Q σ V τ M g := fun H locs hZ hS => k H locs hZ.symm hS
theorem g_more {kc ks : Nat} {g : JFrame} (hc : cells ≤ kc) (hs : slots ≤ ks) (k : J2 p l e R s m args below meth c A D cy kc ks Q σ V τ M g) : J2 p l e R s m args below meth c A D cy cells slots Q σ V τ M g := fun H locs hZ hS => W.widen hc hs (k H locs hZ hS)
theorem g_iconst (C : Cx p s m args meth c A D cy own cc nL ret) {n : Int} {v : Int32} (d : decode cc pc = .ok (.iconst n, 1)) (hv : Int32.ofInt n = v) (k : J2 p l e R s m args below meth c A D cy cells slots Q σ V τ M (F0 m (pc + 1) ls (.int v :: rest))) : J2 p l e R s m args below meth c A D cy cells slots Q σ V τ M (F0 m pc ls rest) := fun H locs hZ hS => lv_iconst C.1 C.2.1 d hv (k H locs hZ hS)
theorem g_bipush (C : Cx p s m args meth c A D cy own cc nL ret) {n : Int} {v : Int32} (d : decode cc pc = .ok (.bipush n, 2)) (hv : (Int8.ofInt n).toInt32 = v) (k : J2 p l e R s m args below meth c A D cy cells slots Q σ V τ M (F0 m (pc + 2) ls (.int v :: rest))) : J2 p l e R s m args below meth c A D cy cells slots Q σ V τ M (F0 m pc ls rest) := fun H locs hZ hS => lv_bipush C.1 C.2.1 d hv (k H locs hZ hS)
theorem g_iload_n (C : Cx p s m args meth c A D cy own cc nL ret) {q : Fin 4} {i : Nat} {x : Int32} (d : decode cc pc = .ok (.iload_n q, 1)) (hi : (q : Nat) = i) (hl : ls[i]? = some (.val (.int x))) (k : J2 p l e R s m args below meth c A D cy cells slots Q σ V τ M (F0 m (pc + 1) ls (.int x :: rest))) : J2 p l e R s m args below meth c A D cy cells slots Q σ V τ M (F0 m pc ls rest) := fun H locs hZ hS => lv_iload_n C.1 C.2.1 d hi hl (k H locs hZ hS)
theorem g_aload_n (C : Cx p s m args meth c A D cy own cc nL ret) {q : Fin 4} {i : Nat} {x : Nat} (d : decode cc pc = .ok (.aload_n q, 1)) (hi : (q : Nat) = i) (hl : ls[i]? = some (.val (.ref x))) (k : J2 p l e R s m args below meth c A D cy cells slots Q σ V τ M (F0 m (pc + 1) ls (.ref x :: rest))) : J2 p l e R s m args below meth c A D cy cells slots Q σ V τ M (F0 m pc ls rest) := fun H locs hZ hS => lv_aload_n C.1 C.2.1 d hi hl (k H locs hZ hS)
theorem g_istore_n (C : Cx p s m args meth c A D cy own cc nL ret) {q : Fin 4} {i : Nat} {x : Int32} {lv lv2 : List (Nat × Value)} (d : decode cc pc = .ok (.istore_n q, 1)) (hi : (q : Nat) = i) (h : lv_has ls nL lv) (hn : i < nL) (hl : (i, Value.int x) :: lv.filter (fun q => !(q.1 == i) && !(q.1 + 1 == i && q.2.category == 2)) = lv2) (k : ∀ ls2 : Array Slot, lv_has ls2 nL lv2 → J2 p l e R s m args below meth c A D cy cells slots Q σ V τ M (F0 m (pc + 1) ls2 rest)) : J2 p l e R s m args below meth c A D cy cells slots Q σ V τ M (F0 m pc ls (.int x :: rest)) := fun H locs hZ hS => lv_istore_n C.1 C.2.1 d hi h hn hl (fun ls2 h_2_ => k ls2 h_2_ H locs hZ hS)
theorem g_iadd (C : Cx p s m args meth c A D cy own cc nL ret) {x y : Int32} (d : decode cc pc = .ok (.iadd, 1)) (k : J2 p l e R s m args below meth c A D cy cells slots Q σ V τ M (F0 m (pc + 1) ls (.int (x + y) :: rest))) : J2 p l e R s m args below meth c A D cy cells slots Q σ V τ M (F0 m pc ls (.int y :: .int x :: rest)) := fun H locs hZ hS => lv_iadd C.1 C.2.1 d (k H locs hZ hS)
theorem g_isub (C : Cx p s m args meth c A D cy own cc nL ret) {x y : Int32} (d : decode cc pc = .ok (.isub, 1)) (k : J2 p l e R s m args below meth c A D cy cells slots Q σ V τ M (F0 m (pc + 1) ls (.int (x - y) :: rest))) : J2 p l e R s m args below meth c A D cy cells slots Q σ V τ M (F0 m pc ls (.int y :: .int x :: rest)) := fun H locs hZ hS => lv_isub C.1 C.2.1 d (k H locs hZ hS)
theorem g_iand (C : Cx p s m args meth c A D cy own cc nL ret) {x y : Int32} (d : decode cc pc = .ok (.iand, 1)) (k : J2 p l e R s m args below meth c A D cy cells slots Q σ V τ M (F0 m (pc + 1) ls (.int (x &&& y) :: rest))) : J2 p l e R s m args below meth c A D cy cells slots Q σ V τ M (F0 m pc ls (.int y :: .int x :: rest)) := fun H locs hZ hS => lv_iand C.1 C.2.1 d (k H locs hZ hS)
theorem g_icmp_gt (C : Cx p s m args meth c A D cy own cc nL ret) {x y : Int32} {off : Int} {tgt : Nat} (d : decode cc pc = .ok (.if_icmp .gt off, 3)) (ht : (pc : Int) + off = (tgt : Int)) (kt : y < x → J2 p l e R s m args below meth c A D cy cells slots Q σ V τ M (F0 m tgt ls rest)) (kf : ¬ y < x → J2 p l e R s m args below meth c A D cy cells slots Q σ V τ M (F0 m (pc + 3) ls rest)) : J2 p l e R s m args below meth c A D cy cells slots Q σ V τ M (F0 m pc ls (.int y :: .int x :: rest)) := fun H locs hZ hS => lv_icmp_gt C.1 C.2.1 d ht (fun q => kt q H locs hZ hS) (fun q => kf q H locs hZ hS)
theorem g_icmp_eq (C : Cx p s m args meth c A D cy own cc nL ret) {x y : Int32} {off : Int} {tgt : Nat} (d : decode cc pc = .ok (.if_icmp .eq off, 3)) (ht : (pc : Int) + off = (tgt : Int)) (kt : x = y → J2 p l e R s m args below meth c A D cy cells slots Q σ V τ M (F0 m tgt ls rest)) (kf : ¬ x = y → J2 p l e R s m args below meth c A D cy cells slots Q σ V τ M (F0 m (pc + 3) ls rest)) : J2 p l e R s m args below meth c A D cy cells slots Q σ V τ M (F0 m pc ls (.int y :: .int x :: rest)) := fun H locs hZ hS => lv_icmp_eq C.1 C.2.1 d ht (fun q => kt q H locs hZ hS) (fun q => kf q H locs hZ hS)
theorem g_if_eq (C : Cx p s m args meth c A D cy own cc nL ret) {x : Int32} {off : Int} {tgt : Nat} (d : decode cc pc = .ok (.ifCond .eq off, 3)) (ht : (pc : Int) + off = (tgt : Int)) (kt : x = 0 → J2 p l e R s m args below meth c A D cy cells slots Q σ V τ M (F0 m tgt ls rest)) (kf : ¬ x = 0 → J2 p l e R s m args below meth c A D cy cells slots Q σ V τ M (F0 m (pc + 3) ls rest)) : J2 p l e R s m args below meth c A D cy cells slots Q σ V τ M (F0 m pc ls (.int x :: rest)) := fun H locs hZ hS => lv_if_eq C.1 C.2.1 d ht (fun q => kt q H locs hZ hS) (fun q => kf q H locs hZ hS)
theorem g_goto (C : Cx p s m args meth c A D cy own cc nL ret) {off : Int} {tgt : Nat} (d : decode cc pc = .ok (.goto off, 3)) (ht : (pc : Int) + off = (tgt : Int)) (k : J2 p l e R s m args below meth c A D cy cells slots Q σ V τ M (F0 m tgt ls rest)) : J2 p l e R s m args below meth c A D cy cells slots Q σ V τ M (F0 m pc ls rest) := fun H locs hZ hS => lv_goto C.1 C.2.1 d ht (k H locs hZ hS)
theorem g_iinc (C : Cx p s m args meth c A D cy own cc nL ret) {i k0 : Nat} {n : Int} {x v : Int32} {lv lv2 : List (Nat × Value)} (d : decode cc pc = .ok (.iinc i n, 3)) (h : lv_has ls nL lv) (hk : lv[k0]? = some (i, .int x)) (hv : x + Int32.ofInt n = v) (hn : i < nL) (hl : (i, Value.int v) :: lv.filter (fun q => !(q.1 == i) && !(q.1 + 1 == i && q.2.category == 2)) = lv2) (k : ∀ ls2 : Array Slot, lv_has ls2 nL lv2 → J2 p l e R s m args below meth c A D cy cells slots Q σ V τ M (F0 m (pc + 3) ls2 rest)) : J2 p l e R s m args below meth c A D cy cells slots Q σ V τ M (F0 m pc ls rest) := fun H locs hZ hS => lv_iinc C.1 C.2.1 d h hk hv hn hl (fun ls2 h_2_ => k ls2 h_2_ H locs hZ hS)
theorem g_tableIn (C : Cx p s m args meth c A D cy own cc nL ret) {dflt lo hi : Int} {offs : Array Int} {len : Nat} {x : Int32} {off : Int} {tgt : Nat} (d : decode cc pc = .ok (.tableswitch dflt lo hi offs, len)) (h_1_ : ¬ x.toInt < lo) (h_2_ : ¬ hi < x.toInt) (ho : offs[(x.toInt - lo).toNat]? = some off) (ht : (pc : Int) + off = (tgt : Int)) (k : J2 p l e R s m args below meth c A D cy cells slots Q σ V τ M (F0 m tgt ls rest)) : J2 p l e R s m args below meth c A D cy cells slots Q σ V τ M (F0 m pc ls (.int x :: rest)) := fun H locs hZ hS => lv_tableIn C.1 C.2.1 d h_1_ h_2_ ho ht (k H locs hZ hS)
theorem g_tableOut (C : Cx p s m args meth c A D cy own cc nL ret) {dflt lo hi : Int} {offs : Array Int} {len : Nat} {x : Int32} {tgt : Nat} (d : decode cc pc = .ok (.tableswitch dflt lo hi offs, len)) (h : x.toInt < lo ∨ hi < x.toInt) (ht : (pc : Int) + dflt = (tgt : Int)) (k : J2 p l e R s m args below meth c A D cy cells slots Q σ V τ M (F0 m tgt ls rest)) : J2 p l e R s m args below meth c A D cy cells slots Q σ V τ M (F0 m pc ls (.int x :: rest)) := fun H locs hZ hS => lv_tableOut C.1 C.2.1 d h ht (k H locs hZ hS)
theorem g_lcmp (C : Cx p s m args meth c A D cy own cc nL ret) {x y : Int64} (d : decode cc pc = .ok (.lcmp, 1)) (k : J2 p l e R s m args below meth c A D cy cells slots Q σ V τ M (F0 m (pc + 1) ls (.int (lg_cmp x y) :: rest))) : J2 p l e R s m args below meth c A D cy cells slots Q σ V τ M (F0 m pc ls (.long y :: .long x :: rest)) := fun H locs hZ hS => W.lcmp C.1 C.2.1 d (k H locs hZ hS)
/-- a call on the first pool: the second stays -/
theorem g_run (C : Cx p s m args meth c A D cy own cc nL ret) {mc ms : Nat} {a : Array Value} (hr : ∀ (H : Heap) (locs : List Loc), va_P D vwCl (gW cy σ V) H → va_D A (gW cy σ V) → va_S A s.heap H locs → va_Run p l e R s m args below meth c H locs cells slots mc ms (F0 m pc ls st0) rest (gPost D cy (va_A (gW cy σ V) H.size) post a) (va_A (gW cy σ V) H.size))
    (kk : ∀ (r : Option Value) (σ2 : Sh) (V2 : Vt), post r σ2 V2 → J2 p l e R s m args below meth c A D cy (cells + mc) (slots + ms) Q σ2 V2 τ M (F0 m (pc + 3) ls (r.toList ++ rest))) : J2 p l e R s m args below meth c A D cy cells slots Q σ V τ M (F0 m pc ls st0) := by
  intro H locs hZ hS T hT X
  obtain ⟨hP, hD, hPm, hDm, hx⟩ := hZ
  have hF := j_free C hD hS
  obtain ⟨v, st₀, t, T', L, h_0_, X', hL, e1, e2, ⟨⟨r, σ2, V2, hv, hp, hP2, hK2, hD2⟩, hz, hk⟩, st⟩ := hr H locs hP hD hS T hT X
  cases hv
  rw [h_0_] at hz hk
  have out : ∀ (k : Nat) (q : Nat × va_E), (gW cy τ M)[k]? = some q → q.1 < H.size ∧ ¬ va_A (gW cy σ V) H.size q.1 := by
    intro k q hq
    have hl := (hPm k q hq).lt
    refine ⟨hl, ?_⟩
    rintro (⟨k2, w, h⟩ | h)
    · exact hx k2 k (q.1, w) q h hq rfl
    · omega
  obtain ⟨t2, a1, b1⟩ := kk v σ2 V2 hp T'.heap (locs ++ L) ⟨by rw [e1]; exact hP2, hD2.weaken (fun _ q _ h => hF q.1 h), fun k q hq => (hPm k q hq).kept (by rw [e1]; exact hk q.1 (out k q hq).1 (out k q hq).2), hDm, fun i j x y hi hj => by
      intro w
      exact (out j y hj).2 (w ▸ hD2.2 i x hi)⟩
    ⟨Nat.le_trans hS.1 (by rw [e1]; exact hz), fun q h_1_ h_2_ => by rw [e1, hk q (Nat.lt_of_lt_of_le h_1_ hS.1) (fun z => h_2_ (hF q z))]; exact hS.2.1 q h_1_ h_2_, fun q hq => by
      rcases List.mem_append.mp hq with h | h
      · exact hS.2.2 q h
      · exact hF _ (hL q h)⟩ T' rfl X'
  exact ⟨t2, st t2 a1, b1⟩
set_option maxHeartbeats 4000000 in
theorem g_callX (C : Cx p s m args meth c A D cy own cc nL ret) {y : MethodName} {bytes : ByteArray} {maxL index n k ci : Nat} {ret2 : Option FieldType} {rm : Room} {mc ms : Nat} (As : List Value) (rest : List Value) (hM : CtG l y bytes maxL ret2 rm mc ms σ V (.ref (σ.2.2.2.2 k) :: As) post) (w : Vir own index y bytes maxL ret2 n) (hk : k < σ.1) (hK : σ.2.1 k = ci) (hq : (vwCl[ci]?).map (fun q => q.1) = some y.cls) (hR : rm.cells = mc ∧ rm.slots = ms ∧ rm.frames + 1 ≤ R.frames ∧ 8 + (maxL + 11) + rm.locals ≤ R.locals) (hn : As.length = n) (hsz : ls.size = nL) (hst : st0 = As.reverse ++ .ref (σ.2.2.2.2 k) :: rest) (hrm : (rest.map fun v => v.category).sum ≤ 8) (hf : cells + mc ≤ R.cells ∧ slots + ms ≤ R.slots) (d : decode cc pc = .ok (.invokevirtual index, 3))
    (kk : ∀ (r : Option Value) (σ2 : Sh) (V2 : Vt), post r σ2 V2 → J2 p l e R s m args below meth c A D cy (cells + mc) (slots + ms) Q σ2 V2 τ M (F0 m (pc + 3) ls (r.toList ++ rest))) : J2 p l e R s m args below meth c A D cy cells slots Q σ V τ M (F0 m pc ls st0) := by
  obtain ⟨w1, w2, w3, w4, w5, w6⟩ := w
  refine g_run C (a := (Value.ref (σ.2.2.2.2 k) :: As).toArray) (fun H locs hP hD hS => ?_) kk
  obtain ⟨q, hq1, hq2⟩ : ∃ q, vwCl[ci]? = some q ∧ q.1 = y.cls := by
    cases h : vwCl[ci]? with
    | none => rw [h] at hq; cases hq
    | some q => rw [h] at hq; exact ⟨q, rfl, Option.some.inj hq⟩
  have hw := gW_get (cy := cy) (V := V) hk
  rw [gE_obj hK (vwCl_lt hq1)] at hw
  have hrec := va_recv C.2.2.2.2.2.1 hP hq1 hw
  rw [hq2] at hrec
  refine va_runV (C := y.cls) (As := As) (rest := rest) ⟨C.1, C.2.1, C.2.2.1, C.2.2.2.1, C.2.2.2.2.1⟩ (hM D cy H.size) (cwV n C.2.2.2.2.1 (ws' := WALL) ?_ rfl hR.1 hR.2.1 ⟨rfl, w6⟩ ⟨hR.2.2.1, hR.2.2.2⟩) ⟨gPre_blind, hrec, fun U hU hW => ⟨rfl, ?_⟩⟩ rfl hn hsz hst (lv_room hrm) d hf
  · intro x hx
    unfold wsV at hx
    rcases List.mem_append.mp hx with hx | hx
    · simp only [List.mem_cons, List.not_mem_nil, or_false] at hx
      rcases hx with rfl | rfl | rfl | rfl
      · exact good_one w1
      · exact good_one w2
      · exact good_one w3
      · exact good_one w4
    · exact good_code w5 x hx
  · subst hU
    exact gPre_of hP hD C.2.2.2.2.2.1 C.2.2.2.2.2.2.1 hW
theorem g_callM (C : Cx p s m args meth c A D cy own cc nL ret) {y : MethodName} {bytes : ByteArray} {maxL index n k ci : Nat} {ret2 : Option FieldType} {rm : Room} {mc ms : Nat} (As : List Value) (rest : List Value) (hM : CtG l y bytes maxL ret2 rm mc ms τ M (.ref (τ.2.2.2.2 k) :: As) post) (w : Vir own index y bytes maxL ret2 n) (hk : k < τ.1) (hK : τ.2.1 k = ci) (hq : (vwCl[ci]?).map (fun q => q.1) = some y.cls) (hR : rm.cells = mc ∧ rm.slots = ms ∧ rm.frames + 1 ≤ R.frames ∧ 8 + (maxL + 11) + rm.locals ≤ R.locals) (hn : As.length = n) (hsz : ls.size = nL) (hst : st0 = As.reverse ++ .ref (τ.2.2.2.2 k) :: rest) (hrm : (rest.map fun v => v.category).sum ≤ 8) (hf : cells + mc ≤ R.cells ∧ slots + ms ≤ R.slots) (d : decode cc pc = .ok (.invokevirtual index, 3))
    (kk : ∀ (r : Option Value) (τ2 : Sh) (M2 : Vt), post r τ2 M2 → J2 p l e R s m args below meth c A D cy (cells + mc) (slots + ms) Q σ V τ2 M2 (F0 m (pc + 3) ls (r.toList ++ rest))) : J2 p l e R s m args below meth c A D cy cells slots Q σ V τ M (F0 m pc ls st0) := g_sym (g_callX C As rest hM w hk hK hq hR hn hsz hst hrm hf d (fun r τ2 M2 hp => g_sym (kk r τ2 M2 hp)))
/-- what the law has of its script -/
def LX (A : Nat → Prop) (b L : Nat) (xs : Nat → Int32) (s : State) : Prop := va_X b L xs s s.heap ∧ b < s.heap.size ∧ ¬ A b ∧ L ≤ 384
theorem g_sld (C : Cx p s m args meth c A D cy own cc nL ret) {b L i : Nat} {xs : Nat → Int32} (X : LX A b L xs s) {z : Int32} (hz : z = nI i) (hi : i < L) (d : decode cc pc = .ok (.iaload, 1)) (kk : J2 p l e R s m args below meth c A D cy cells slots Q σ V τ M (F0 m (pc + 1) ls (.int (xs i) :: rest))) : J2 p l e R s m args below meth c A D cy cells slots Q σ V τ M (F0 m pc ls (.int z :: .ref b :: rest)) := fun H locs hZ hS => by
  have h_4_ := X.2.2.2
  subst hz
  refine va_sld C.1 C.2.1 X.1 X.2.1 X.2.2.1 hS (vp_in_nI hi (by omega)) d ?_
  rw [nI_clamp (by omega)]
  exact kk H locs hZ hS
theorem g_slen (C : Cx p s m args meth c A D cy own cc nL ret) {b L : Nat} {xs : Nat → Int32} (X : LX A b L xs s) (d : decode cc pc = .ok (.arraylength, 1)) (kk : J2 p l e R s m args below meth c A D cy cells slots Q σ V τ M (F0 m (pc + 1) ls (.int (nI L) :: rest))) : J2 p l e R s m args below meth c A D cy cells slots Q σ V τ M (F0 m pc ls (.ref b :: rest)) := fun H locs hZ hS => va_slen C.1 C.2.1 X.1 X.2.1 X.2.2.1 hS d (kk H locs hZ hS)
abbrev lwl (b a1 a2 i : Nat) : List (Nat × Value) := [(0, .ref b), (1, .ref a1), (2, .ref a2), (3, .int (nI i))]
/-- one int of the script: five steps -/
theorem g_arg (C : Cx p s m args meth c A D cy own cc 4 ret) {b L i a1 a2 : Nat} {xs : Nat → Int32} (X : LX A b L xs s) (hl : lv_has ls 4 (lwl b a1 a2 i)) (k : Nat) {kz : Int} (hk : Int32.ofInt kz = nI k) (hi : i + k < L) (d0 : decode cc pc = .ok (.aload_n 0, 1)) (d1 : decode cc (pc + 1) = .ok (.iload_n 3, 1)) (d2 : decode cc (pc + 2) = .ok (.iconst kz, 1)) (d3 : decode cc (pc + 3) = .ok (.iadd, 1)) (d4 : decode cc (pc + 4) = .ok (.iaload, 1)) (kk : J2 p l e R s m args below meth c A D cy cells slots Q σ V τ M (F0 m (pc + 5) ls (.int (xs (i + k)) :: rest))) : J2 p l e R s m args below meth c A D cy cells slots Q σ V τ M (F0 m pc ls rest) :=
  g_aload_n C d0 rfl (lv_at hl 0 rfl) (g_iload_n C d1 rfl (lv_at hl 3 rfl) (g_iconst C d2 hk (g_iadd C d3 (g_sld C X (nI_add i k) hi d4 kk))))
end JTwo
