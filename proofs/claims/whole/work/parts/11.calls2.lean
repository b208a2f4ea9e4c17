section JD
variable {p : Program} {l : Launch} {e : Env} {R : Room} {s : State} {m : MethodId} {args : Array Value} {below : List Frame} {meth : Method} {c : Code} {A : Nat → Prop} {D : va_G} {cy : Nat → ClassId} {cells slots : Nat} {Q : State → Prop} {σ : Sh} {V : Vt} {own : String} {cc : ByteArray} {nL : Nat} {ret : Option FieldType} {pc : Nat} {ls : Array Slot} {rest st0 : List Value} {post : Option Value → Sh → Vt → Prop}
/-- a call that another class's method may answer -/
def Ovr (own : String) (index : Nat) (Cc owner : String) (x y : MethodName) (bytes : ByteArray) (maxL : Nat) (ret : Option FieldType) (n : Nat) : Prop := Cond.methodLink own index x ∈ WALL ∧ Cond.sameMethod x.cls owner x.name x.desc ∈ WALL ∧ Cond.instanceMethod ⟨owner, x.name, x.desc⟩ ∈ WALL ∧ Cond.selects Cc x y ∈ WALL ∧ Cond.instanceMethod y ∈ WALL ∧ Cond.initialized y.cls ∈ WALL ∧ Cond.code y bytes maxL ret ∈ WALL ∧ (∃ b0 m0 r0, Cond.code ⟨owner, x.name, x.desc⟩ b0 m0 r0 ∈ WALL) ∧ (owner ≠ "java/lang/invoke/MethodHandle" ∧ owner ≠ "java/lang/invoke/VarHandle" ∧ (parseMethodDescriptor x.desc).map (fun d => d.parameters.length) = some n)
def Sup (own : String) (index : Nat) (y : MethodName) (bytes : ByteArray) (maxL : Nat) (ret : Option FieldType) (n : Nat) : Prop := Cond.methodLink own index y ∈ WALL ∧ Cond.sameMethod y.cls y.cls y.name y.desc ∈ WALL ∧ Cond.superclass own y.cls ∈ WALL ∧ Cond.instanceMethod y ∈ WALL ∧ Cond.initialized y.cls ∈ WALL ∧ Cond.code y bytes maxL ret ∈ WALL ∧ (y.name ≠ "<init>" ∧ (parseMethodDescriptor y.desc).map (fun d => d.parameters.length) = some n)
set_option maxHeartbeats 4000000 in
theorem j_callO (C : Cx p s m args meth c A D cy own cc nL ret) {x y : MethodName} {Cc owner : String} {bytes : ByteArray} {maxL index n k ci : Nat} {ret2 : Option FieldType} {rm : Room} {mc ms : Nat} (As : List Value) (rest : List Value) (hM : CtG l y bytes maxL ret2 rm mc ms σ V (.ref (σ.2.2.2.2 k) :: As) post) (w : Ovr own index Cc owner x y bytes maxL ret2 n) (hk : k < σ.1) (hK : σ.2.1 k = ci) (hq : (vwCl[ci]?).map (fun q => q.1) = some Cc) (hR : rm.cells = mc ∧ rm.slots = ms ∧ rm.frames + 1 ≤ R.frames ∧ 8 + (maxL + 11) + rm.locals ≤ R.locals) (hn : As.length = n) (hsz : ls.size = nL) (hst : st0 = As.reverse ++ .ref (σ.2.2.2.2 k) :: rest) (hrm : (rest.map fun v => v.category).sum ≤ 8) (hf : cells + mc ≤ R.cells ∧ slots + ms ≤ R.slots) (d : decode cc pc = .ok (.invokevirtual index, 3))
    (kk : ∀ (r : Option Value) (σ2 : Sh) (V2 : Vt), post r σ2 V2 → J p l e R s m args below meth c A D cy (cells + mc) (slots + ms) Q σ2 V2 (F0 m (pc + 3) ls (r.toList ++ rest))) : J p l e R s m args below meth c A D cy cells slots Q σ V (F0 m pc ls st0) := by
  obtain ⟨w1, w2, w3, w4, w5, w6, w7, ⟨b0, m0, r0, w8⟩, w9⟩ := w
  refine j_run C (a := (Value.ref (σ.2.2.2.2 k) :: As).toArray) (fun H locs hP hD hS => ?_) kk
  obtain ⟨q, hq1, hq2⟩ : ∃ q, vwCl[ci]? = some q ∧ q.1 = Cc := by
    cases h : vwCl[ci]? with
    | none => rw [h] at hq; cases hq
    | some q => rw [h] at hq; exact ⟨q, rfl, Option.some.inj hq⟩
  have hw := gW_get (cy := cy) (V := V) hk
  rw [gE_obj hK (vwCl_lt hq1)] at hw
  have hrec := va_recv C.2.2.2.2.2.1 hP hq1 hw
  rw [hq2] at hrec
  refine va_runU (C := Cc) (owner := owner) (x := x) (As := As) (rest := rest) ⟨C.1, C.2.1, C.2.2.1, C.2.2.2.1, C.2.2.2.2.1⟩ (hM D cy H.size) (va_cwO n C.2.2.2.2.1 (ws' := WALL) ?_ rfl hR.1 hR.2.1 w8 w9 ⟨hR.2.2.1, hR.2.2.2⟩) ⟨gPre_blind, hrec, fun U hU hW => ⟨rfl, ?_⟩⟩ rfl hn hsz hst (lv_room hrm) d hf
  · intro z hz
    unfold va_wsO at hz
    rcases List.mem_append.mp hz with hz | hz
    · simp only [List.mem_cons, List.not_mem_nil, or_false] at hz
      rcases hz with rfl | rfl | rfl | rfl | rfl | rfl
      · exact good_one w1
      · exact good_one w2
      · exact good_one w3
      · exact good_one w4
      · exact good_one w5
      · exact good_one w6
    · exact good_code w7 z hz
  · subst hU
    exact gPre_of hP hD C.2.2.2.2.2.1 C.2.2.2.2.2.2.1 hW
set_option maxHeartbeats 4000000 in
theorem j_callZ (C : Cx p s m args meth c A D cy own cc nL ret) {y : MethodName} {bytes : ByteArray} {maxL index n k ci : Nat} {ret2 : Option FieldType} {rm : Room} {mc ms : Nat} (As : List Value) (rest : List Value) (hM : CtG l y bytes maxL ret2 rm mc ms σ V (.ref (σ.2.2.2.2 k) :: As) post) (w : Sup own index y bytes maxL ret2 n) (hk : k < σ.1) (hK : σ.2.1 k = ci) (hc : ci < 13) (hR : rm.cells = mc ∧ rm.slots = ms ∧ rm.frames + 1 ≤ R.frames ∧ 8 + (maxL + 11) + rm.locals ≤ R.locals) (hn : As.length = n) (hsz : ls.size = nL) (hst : st0 = As.reverse ++ .ref (σ.2.2.2.2 k) :: rest) (hrm : (rest.map fun v => v.category).sum ≤ 8) (hf : cells + mc ≤ R.cells ∧ slots + ms ≤ R.slots) (d : decode cc pc = .ok (.invokespecial index, 3))
    (kk : ∀ (r : Option Value) (σ2 : Sh) (V2 : Vt), post r σ2 V2 → J p l e R s m args below meth c A D cy (cells + mc) (slots + ms) Q σ2 V2 (F0 m (pc + 3) ls (r.toList ++ rest))) : J p l e R s m args below meth c A D cy cells slots Q σ V (F0 m pc ls st0) := by
  obtain ⟨w1, w2, w3, w4, w5, w6, w7⟩ := w
  refine j_run C (a := (Value.ref (σ.2.2.2.2 k) :: As).toArray) (fun H locs hP hD hS => ?_) kk
  obtain ⟨q, hq1⟩ : ∃ q, vwCl[ci]? = some q := ⟨_, List.getElem?_eq_getElem hc⟩
  have hw := gW_get (cy := cy) (V := V) hk
  rw [gE_obj hK hc] at hw
  have hrec := va_recv C.2.2.2.2.2.1 hP hq1 hw
  refine va_runSU (C := q.1) (As := As) (rest := rest) (C.2.2.2.2.2.1.1 ci q hq1).2 ⟨C.1, C.2.1, C.2.2.1, C.2.2.2.1, C.2.2.2.2.1⟩ (hM D cy H.size) (va_cwSU n C.2.2.2.2.1 (ws' := WALL) ?_ rfl hR.1 hR.2.1 w7 ⟨hR.2.2.1, hR.2.2.2⟩) ⟨gPre_blind, hrec, fun U hU hW => ⟨rfl, ?_⟩⟩ rfl hn hsz hst (lv_room hrm) d hf
  · intro z hz
    unfold va_wsSU at hz
    rcases List.mem_append.mp hz with hz | hz
    · simp only [List.mem_cons, List.not_mem_nil, or_false] at hz
      rcases hz with rfl | rfl | rfl | rfl | rfl
      · exact good_one w1
      · exact good_one w2
      · exact good_one w3
      · exact good_one w4
      · exact good_one w5
    · exact good_code w6 z hz
  · subst hU
    exact gPre_of hP hD C.2.2.2.2.2.1 C.2.2.2.2.2.2.1 hW
/-- a field of a thrower, of whatever kind -/
def isT (z : Nat) : Prop := z = 6 ∨ z = 3 ∨ z = 8
theorem j_getT (C : Cx p s m args meth c A D cy own cc nL ret) {k i idx : Nat} (F6 : Fld own idx 6 i false) (F3 : Fld own idx 3 i false) (F8 : Fld own idx 8 i false) (hk : k < σ.1) (hK : isT (σ.2.1 k)) (d : decode cc pc = .ok (.getfield idx, 3)) (kk : J p l e R s m args below meth c A D cy cells slots Q σ V (F0 m (pc + 3) ls (.int (V k i) :: rest))) : J p l e R s m args below meth c A D cy cells slots Q σ V (F0 m pc ls (.ref (σ.2.2.2.2 k) :: rest)) := by
  rcases hK with h | h | h
  · exact j_getI C F6 hk h d kk
  · exact j_getI C F3 hk h d kk
  · exact j_getI C F8 hk h d kk
theorem j_putT (C : Cx p s m args meth c A D cy own cc nL ret) {k i idx : Nat} {x : Int32} (F6 : Fld own idx 6 i false) (F3 : Fld own idx 3 i false) (F8 : Fld own idx 8 i false) (P6 : Fpt 6 i) (P3 : Fpt 3 i) (P8 : Fpt 8 i) (hk : k < σ.1) (hK : isT (σ.2.1 k)) (d : decode cc pc = .ok (.putfield idx, 3)) (kk : ∀ V2 : Vt, V2 = up2 V k i x → J p l e R s m args below meth c A D cy cells slots Q σ V2 (F0 m (pc + 3) ls rest)) : J p l e R s m args below meth c A D cy cells slots Q σ V (F0 m pc ls (.int x :: .ref (σ.2.2.2.2 k) :: rest)) := by
  rcases hK with h | h | h
  · exact j_putI C F6 P6 hk h d kk
  · exact j_putI C F3 P3 hk h d kk
  · exact j_putI C F8 P8 hk h d kk
/-- a call of a thrower's method that no kind overrides -/
theorem j_callT (C : Cx p s m args meth c A D cy own cc nL ret) {y : MethodName} {bytes : ByteArray} {maxL index n k : Nat} {ret2 : Option FieldType} {rm : Room} {mc ms : Nat} (As : List Value) (rest : List Value) (hM : CtG l y bytes maxL ret2 rm mc ms σ V (.ref (σ.2.2.2.2 k) :: As) post) (w6 : Vir own index y bytes maxL ret2 n) (w3 : Ovr own index RX3 RX6 y y bytes maxL ret2 n) (w8 : Ovr own index RX8 RX6 y y bytes maxL ret2 n) (hy : y.cls = RX6) (hk : k < σ.1) (hK : isT (σ.2.1 k)) (hR : rm.cells = mc ∧ rm.slots = ms ∧ rm.frames + 1 ≤ R.frames ∧ 8 + (maxL + 11) + rm.locals ≤ R.locals) (hn : As.length = n) (hsz : ls.size = nL) (hst : st0 = As.reverse ++ .ref (σ.2.2.2.2 k) :: rest) (hrm : (rest.map fun v => v.category).sum ≤ 8) (hf : cells + mc ≤ R.cells ∧ slots + ms ≤ R.slots) (d : decode cc pc = .ok (.invokevirtual index, 3))
    (kk : ∀ (r : Option Value) (σ2 : Sh) (V2 : Vt), post r σ2 V2 → J p l e R s m args below meth c A D cy (cells + mc) (slots + ms) Q σ2 V2 (F0 m (pc + 3) ls (r.toList ++ rest))) : J p l e R s m args below meth c A D cy cells slots Q σ V (F0 m pc ls st0) := by
  rcases hK with h | h | h
  · exact j_callV C As rest hM w6 hk h (by rw [hy]; rfl) hR hn hsz hst hrm hf d kk
  · exact j_callO C As rest hM w3 hk h rfl hR hn hsz hst hrm hf d kk
  · exact j_callO C As rest hM w8 hk h rfl hR hn hsz hst hrm hf d kk
end JD
theorem wu_36 : Cond.superclass RX3 RX6 ∈ WALL := List.mem_filter.mpr ⟨List.mem_append_right _ (by decide +kernel), rfl⟩
theorem wu_83 : Cond.superclass RX8 RX3 ∈ WALL := List.mem_filter.mpr ⟨List.mem_append_right _ (by decide +kernel), rfl⟩
theorem sz_RX3_15 : Sup RX3 15 yX6_telling cX6_telling 2 (some .int) 1 := ⟨wl_RX3_15, wm_RX6_RX6_telling, wu_36, wi_X6_telling, wz_RX6, wc_X6_telling, by decide +kernel⟩
theorem sz_RX8_15 : Sup RX8 15 yX3_telling cX3_telling 2 (some .int) 1 := ⟨wl_RX8_15, wm_RX3_RX3_telling, wu_83, wi_X3_telling, wz_RX3, wc_X3_telling, by decide +kernel⟩
/-- switches -/
theorem sw_in (x : Int32) (n : Nat) (hn : n < 2 ^ 31) : (∃ j : Nat, j < n ∧ x = nI j) ∨ (x.toInt < 0 ∨ (n : Int) - 1 < x.toInt) := by
  rcases pk_ix x hn with h | h | h
  · right; left
    have := (Int32.lt_iff_toInt_lt).mp h
    rw [Int32.toInt_zero] at this; exact this
  · right; right
    have := (Int32.le_iff_toInt_le).mp h
    rw [nI_toInt hn] at this; omega
  · exact Or.inl h
theorem ne_toInt {x y : Int32} (h : ¬ x = y) : ¬ y.toInt = x.toInt := fun e => h (Int32.toInt_inj.mp e.symm)
theorem o_RX1_42_3 : Ovr RX1 42 RX3 RX6 yX6_reach yX6_reach cX6_reach 1 (some .int) 0 := ⟨wl_RX1_42, wm_RX6_RX6_reach, wi_X6_reach, ws_RX3_X6_reach, wi_X6_reach, wz_RX6, wc_X6_reach, ⟨_, _, _, wc_X6_reach⟩, by decide +kernel⟩
theorem o_RX1_42_8 : Ovr RX1 42 RX8 RX6 yX6_reach yX6_reach cX6_reach 1 (some .int) 0 := ⟨wl_RX1_42, wm_RX6_RX6_reach, wi_X6_reach, ws_RX8_X6_reach, wi_X6_reach, wz_RX6, wc_X6_reach, ⟨_, _, _, wc_X6_reach⟩, by decide +kernel⟩
theorem o_RX11_128_3 : Ovr RX11 128 RX3 RX6 yX6_kind yX3_kind cX3_kind 1 (some .int) 0 := ⟨wl_RX11_128, wm_RX6_RX6_kind, wi_X6_kind, ws_RX3_X6_kind, wi_X3_kind, wz_RX3, wc_X3_kind, ⟨_, _, _, wc_X6_kind⟩, by decide +kernel⟩
theorem o_RX11_128_8 : Ovr RX11 128 RX8 RX6 yX6_kind yX8_kind cX8_kind 1 (some .int) 0 := ⟨wl_RX11_128, wm_RX6_RX6_kind, wi_X6_kind, ws_RX8_X6_kind, wi_X8_kind, wz_RX8, wc_X8_kind, ⟨_, _, _, wc_X6_kind⟩, by decide +kernel⟩
theorem o_RX11_134_3 : Ovr RX11 134 RX3 RX6 yX6_reach yX6_reach cX6_reach 1 (some .int) 0 := ⟨wl_RX11_134, wm_RX6_RX6_reach, wi_X6_reach, ws_RX3_X6_reach, wi_X6_reach, wz_RX6, wc_X6_reach, ⟨_, _, _, wc_X6_reach⟩, by decide +kernel⟩
theorem o_RX11_134_8 : Ovr RX11 134 RX8 RX6 yX6_reach yX6_reach cX6_reach 1 (some .int) 0 := ⟨wl_RX11_134, wm_RX6_RX6_reach, wi_X6_reach, ws_RX8_X6_reach, wi_X6_reach, wz_RX6, wc_X6_reach, ⟨_, _, _, wc_X6_reach⟩, by decide +kernel⟩
theorem o_RX11_252_3 : Ovr RX11 252 RX3 RX6 yX6_telling yX3_telling cX3_telling 2 (some .int) 1 := ⟨wl_RX11_252, wm_RX6_RX6_telling, wi_X6_telling, ws_RX3_X6_telling, wi_X3_telling, wz_RX3, wc_X3_telling, ⟨_, _, _, wc_X6_telling⟩, by decide +kernel⟩
theorem o_RX11_252_8 : Ovr RX11 252 RX8 RX6 yX6_telling yX8_telling cX8_telling 3 (some .int) 1 := ⟨wl_RX11_252, wm_RX6_RX6_telling, wi_X6_telling, ws_RX8_X6_telling, wi_X8_telling, wz_RX8, wc_X8_telling, ⟨_, _, _, wc_X6_telling⟩, by decide +kernel⟩
theorem o_RX11_256_3 : Ovr RX11 256 RX3 RX6 yX6_cheering yX6_cheering cX6_cheering 2 (some .int) 1 := ⟨wl_RX11_256, wm_RX6_RX6_cheering, wi_X6_cheering, ws_RX3_X6_cheering, wi_X6_cheering, wz_RX6, wc_X6_cheering, ⟨_, _, _, wc_X6_cheering⟩, by decide +kernel⟩
theorem o_RX11_256_8 : Ovr RX11 256 RX8 RX6 yX6_cheering yX8_cheering cX8_cheering 2 (some .int) 1 := ⟨wl_RX11_256, wm_RX6_RX6_cheering, wi_X6_cheering, ws_RX8_X6_cheering, wi_X8_cheering, wz_RX8, wc_X8_cheering, ⟨_, _, _, wc_X6_cheering⟩, by decide +kernel⟩
theorem o_RX6_18_3 : Ovr RX6 18 RX3 RX6 yX6_kind yX3_kind cX3_kind 1 (some .int) 0 := ⟨wl_RX6_18, wm_RX6_RX6_kind, wi_X6_kind, ws_RX3_X6_kind, wi_X3_kind, wz_RX3, wc_X3_kind, ⟨_, _, _, wc_X6_kind⟩, by decide +kernel⟩
theorem o_RX6_18_8 : Ovr RX6 18 RX8 RX6 yX6_kind yX8_kind cX8_kind 1 (some .int) 0 := ⟨wl_RX6_18, wm_RX6_RX6_kind, wi_X6_kind, ws_RX8_X6_kind, wi_X8_kind, wz_RX8, wc_X8_kind, ⟨_, _, _, wc_X6_kind⟩, by decide +kernel⟩
theorem o_RX6_26_3 : Ovr RX6 26 RX3 RX6 yX6_plainTelling yX6_plainTelling cX6_plainTelling 2 (some .int) 1 := ⟨wl_RX6_26, wm_RX6_RX6_plainTelling, wi_X6_plainTelling, ws_RX3_X6_plainTelling, wi_X6_plainTelling, wz_RX6, wc_X6_plainTelling, ⟨_, _, _, wc_X6_plainTelling⟩, by decide +kernel⟩
theorem o_RX6_26_8 : Ovr RX6 26 RX8 RX6 yX6_plainTelling yX6_plainTelling cX6_plainTelling 2 (some .int) 1 := ⟨wl_RX6_26, wm_RX6_RX6_plainTelling, wi_X6_plainTelling, ws_RX8_X6_plainTelling, wi_X6_plainTelling, wz_RX6, wc_X6_plainTelling, ⟨_, _, _, wc_X6_plainTelling⟩, by decide +kernel⟩
theorem o_RX8_19_8 : Ovr RX8 19 RX8 RX6 ⟨"QuoitFeast$Stranger", "plainTelling", "(LQuoitFeast$Trace;)I"⟩ yX6_plainTelling cX6_plainTelling 2 (some .int) 1 := ⟨wl_RX8_19, wm_RX8_RX6_plainTelling, wi_X6_plainTelling, ws_RX8_RX8_plainTelling_LQuoitFeastTraceI, wi_X6_plainTelling, wz_RX6, wc_X6_plainTelling, ⟨_, _, _, wc_X6_plainTelling⟩, by decide +kernel⟩
