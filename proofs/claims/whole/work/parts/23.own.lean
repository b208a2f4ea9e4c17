section JI
variable {p : Program} {l : Launch} {e : Env} {R : Room} {s : State} {m : MethodId} {args : Array Value} {below : List Frame} {meth : Method} {c : Code} {A : Nat → Prop} {D : va_G} {cy : Nat → ClassId} {cells slots : Nat} {Q : State → Prop} {σ : Sh} {V : Vt} {own : String} {cc : ByteArray} {nL : Nat} {ret : Option FieldType} {pc : Nat} {ls : Array Slot} {rest st0 : List Value} {post : Option Value → Sh → Vt → Prop}
theorem j_instNo (C : Cx p s m args meth c A D cy own cc nL ret) {k ci idx : Nat} {nm : String} {q : vw_C} (hk : k < σ.1) (hK : σ.2.1 k = ci) (hq : vwCl[ci]? = some q) (hl : Cond.classLink own idx nm ∈ WALL) (hc : va_Nc q.1 nm s) (d : decode cc pc = .ok (.instanceof idx, 3)) (kk : J p l e R s m args below meth c A D cy cells slots Q σ V (F0 m (pc + 3) ls (.int 0 :: rest))) : J p l e R s m args below meth c A D cy cells slots Q σ V (F0 m pc ls (.ref (σ.2.2.2.2 k) :: rest)) := by
  intro H locs hP hD hS
  have hw := gW_get (cy := cy) (V := V) hk
  rw [gE_obj hK (vwCl_lt hq)] at hw
  have hr := va_recv C.2.2.2.2.2.1 hP hq hw
  exact va_instNo C.1 C.2.1 C.2.2.2.1 (C.2.2.2.2.1 _ hl) hc hr d (kk H locs hP hD hS)
theorem j_instY (C : Cx p s m args meth c A D cy own cc nL ret) {k ci idx : Nat} {nm : String} {q : vw_C} (hk : k < σ.1) (hK : σ.2.1 k = ci) (hq : vwCl[ci]? = some q) (hl : Cond.classLink own idx nm ∈ WALL) (hc : va_Nw (.castable q.1 nm) s) (d : decode cc pc = .ok (.instanceof idx, 3)) (kk : J p l e R s m args below meth c A D cy cells slots Q σ V (F0 m (pc + 3) ls (.int 1 :: rest))) : J p l e R s m args below meth c A D cy cells slots Q σ V (F0 m pc ls (.ref (σ.2.2.2.2 k) :: rest)) := by
  intro H locs hP hD hS
  have hw := gW_get (cy := cy) (V := V) hk
  rw [gE_obj hK (vwCl_lt hq)] at hw
  have hr := va_recv C.2.2.2.2.2.1 hP hq hw
  exact va_instY C.1 C.2.1 C.2.2.2.1 (C.2.2.2.2.1 _ hl) hc hr d (kk H locs hP hD hS)
theorem j_instS (C : Cx p s m args meth c A D cy own cc nL ret) {k ci idx : Nat} {q : vw_C} (hk : k < σ.1) (hK : σ.2.1 k = ci) (hq : vwCl[ci]? = some q) (hl : Cond.classLink own idx q.1 ∈ WALL) (d : decode cc pc = .ok (.instanceof idx, 3)) (kk : J p l e R s m args below meth c A D cy cells slots Q σ V (F0 m (pc + 3) ls (.int 1 :: rest))) : J p l e R s m args below meth c A D cy cells slots Q σ V (F0 m pc ls (.ref (σ.2.2.2.2 k) :: rest)) := by
  intro H locs hP hD hS
  have hw := gW_get (cy := cy) (V := V) hk
  rw [gE_obj hK (vwCl_lt hq)] at hw
  have hr := va_recv C.2.2.2.2.2.1 hP hq hw
  exact va_instS C.1 C.2.1 C.2.2.2.1 (C.2.2.2.2.1 _ hl) (C.2.2.2.2.2.1.1 ci q hq).2 hr d (kk H locs hP hD hS)
theorem j_inst3 (C : Cx p s m args meth c A D cy RX11 cc nL ret) {k : Nat} (hk : k < σ.1) (hK : isT (σ.2.1 k)) (d : decode cc pc = .ok (.instanceof 288, 3)) (kk : J p l e R s m args below meth c A D cy cells slots Q σ V (F0 m (pc + 3) ls (.int (bI (σ.2.1 k = 3 ∨ σ.2.1 k = 8)) :: rest))) : J p l e R s m args below meth c A D cy cells slots Q σ V (F0 m pc ls (.ref (σ.2.2.2.2 k) :: rest)) := by
  have hn := C.2.2.2.2.2.2.1
  rcases hK with h | h | h
  · rw [bI_f (by rw [h]; decide)] at kk
    exact j_instNo C hk h rfl wl_RX11_288_c hn.2.2.2.1 d kk
  · rw [bI_t (Or.inl h)] at kk
    exact j_instS C hk h rfl wl_RX11_288_c d kk
  · rw [bI_t (Or.inr h)] at kk
    exact j_instY C hk h rfl wl_RX11_288_c hn.2.2.1.1 d kk
theorem j_inst8 (C : Cx p s m args meth c A D cy RX11 cc nL ret) {k : Nat} (hk : k < σ.1) (hK : isT (σ.2.1 k)) (d : decode cc pc = .ok (.instanceof 292, 3)) (kk : J p l e R s m args below meth c A D cy cells slots Q σ V (F0 m (pc + 3) ls (.int (bI (σ.2.1 k = 8)) :: rest))) : J p l e R s m args below meth c A D cy cells slots Q σ V (F0 m pc ls (.ref (σ.2.2.2.2 k) :: rest)) := by
  have hn := C.2.2.2.2.2.2.1
  rcases hK with h | h | h
  · rw [bI_f (by rw [h]; decide)] at kk
    exact j_instNo C hk h rfl wl_RX11_292_c hn.2.2.2.2.1 d kk
  · rw [bI_f (by rw [h]; decide)] at kk
    exact j_instNo C hk h rfl wl_RX11_292_c hn.2.2.2.2.2 d kk
  · rw [bI_t h] at kk
    exact j_instS C hk h rfl wl_RX11_292_c d kk
end JI
abbrev rm_X11_isOfKind : Room := { frames := 0, cells := 0, slots := 0, locals := 0 }
set_option maxHeartbeats 4000000 in
set_option maxRecDepth 100000 in
theorem k_X11_isOfKind (l : Launch) (ad tk : Nat → Nat) (nt : Nat) (V : Vt) (t : Nat) (ht : t < nt) (hT : isT (tk t)) (z : Int32) : Ct l yX11_isOfKind cX11_isOfKind 2 (some .boolean) rm_X11_isOfKind (xS ad tk nt) V [.ref (ad (56 + t)), .int (z)] (rI fun x V2 => V2 = V ∧ x = bI (if z = 1 then (tk t = 3 ∨ tk t = 8) else if z = 2 then tk t = 8 else True)) := by
  refine Ct_of (by decide) (Nat.le_of_ble_eq_true rfl) ?_
  intro p e s m below meth c A D cy ls C hl
  have hl : lv_has ls 2 [(0, .ref (ad (56 + t))), (1, .int (z))] := hl
  refine j_iload_n C dX11_isOfKind_0 rfl (lv_at hl 1 rfl) ?_
  by_cases s_1_ : z = 1
  · refine j_lookup (off := 27) (tgt := 28) C dX11_isOfKind_1 (by decide) (by rw [s_1_]; rfl) (by decide) ?_
    refine j_aload_n C dX11_isOfKind_28 rfl (lv_at hl 0 rfl) ?_
    refine j_inst3 (k := 56 + t) C (xt ht) (xT hT) dX11_isOfKind_29 ?_
    refine j_zret C (bI_n) ⟨rfl, _, rfl, ?_⟩ dX11_isOfKind_32
    refine ⟨rfl, ?_⟩
    simp [bI, xk_t, s_1_]
  · skip
    by_cases s_2_ : z = 2
    · refine j_lookup (off := 32) (tgt := 33) C dX11_isOfKind_1 (by decide) (by rw [s_2_]; rfl) (by decide) ?_
      refine j_aload_n C dX11_isOfKind_33 rfl (lv_at hl 0 rfl) ?_
      refine j_inst8 (k := 56 + t) C (xt ht) (xT hT) dX11_isOfKind_34 ?_
      refine j_zret C (bI_n) ⟨rfl, _, rfl, ?_⟩ dX11_isOfKind_37
      refine ⟨rfl, ?_⟩
      simp [bI, xk_t, s_1_, s_2_]
    · skip
      refine j_lookup (off := 37) (tgt := 38) C dX11_isOfKind_1 (by decide) (by simp only []; rw [Op.lookupswitch.offset_cons, if_neg (show ¬ (1 : Int) = (z).toInt from ne_toInt s_1_), Op.lookupswitch.offset_cons, if_neg (show ¬ (2 : Int) = (z).toInt from ne_toInt s_2_), Op.lookupswitch.offset_nil]) (by decide) ?_
      refine j_iconst (v := 1) C dX11_isOfKind_38 (by decide) ?_
      refine j_zret C rfl ⟨rfl, _, rfl, ?_⟩ dX11_isOfKind_39
      refine ⟨rfl, ?_⟩
      simp [bI, xk_t, s_1_, s_2_]
theorem XI_f {tk : Nat → Nat} {nt : Nat} {V : Vt} {ng : Nat} {rr : Nat → Nat} {c_0_ : Nat} {z : Int32} (hX : XI tk nt V ng rr c_0_) : XI tk nt (up2 V 55 9 z) ng rr c_0_ := by
  obtain ⟨⟨a1, a2, a3⟩, b, c, d, e, f, g, h⟩ := hX
  refine ⟨⟨?_, a2, fun j hj => ?_⟩, ?_, c, fun t ht => ⟨(d t ht).1, ?_⟩, ?_, f, fun r hr => ?_, fun k hk => ?_⟩
  · rw [up2_k _ _ (by decide)]; exact a1
  · rw [up2_k _ _ (by omega)]; exact a3 j hj
  · rw [up2_i _ _ (by decide)]; exact b
  · rw [up2_k _ _ (by omega)]; exact (d t ht).2
  · rw [up2_k _ _ (by decide)]; exact e
  · rw [up2_k _ _ (by decide), up2_k _ _ (by decide)]; exact g r hr
  · rw [up2_k _ _ (by omega)]; exact h k hk
def kcP (k : Nat) (z : Int32) : Prop := if z = 1 then (k = 3 ∨ k = 8) else if z = 2 then k = 8 else True
def kcB (k : Nat) (z : Int32) : Bool := if z = 1 then (k == 3 || k == 8) else if z = 2 then k == 8 else true
theorem kc_iff (k : Nat) (z : Int32) : (if z = 1 then (k = 3 ∨ k = 8) else if z = 2 then k = 8 else True) ↔ kcB k z = true := by
  unfold kcB
  split
  · simp
  · split <;> simp
abbrev rm_X11_as : Room := { frames := 1, cells := 0, slots := 0, locals := 22 }
set_option maxHeartbeats 4000000 in
set_option maxRecDepth 100000 in
theorem k_X11_as (l : Launch) (ad tk : Nat → Nat) (nt : Nat) (V : Vt) (ng : Nat) (rr : Nat → Nat) (c_0_ : Nat) (hX : XI tk nt V ng rr c_0_) (z0 z1 : Int32) : Ct l yX11_as cX11_as 4 (some .int) rm_X11_as (xS ad tk nt) V [.ref (ad (55)), .int (z0), .int (z1)] (rI fun x V2 => (V2 = if ¬ z0 < 0 ∧ z0 < nI nt then (if 0 ≤ z1 ∧ z1 ≤ 2 then (if kcB (tk z0.toNatClampNeg) z1 = true then (up2 V 55 9 0) else up2 (up2 V 55 9 0) 55 9 2) else (up2 V 55 9 0)) else (up2 V 55 9 0)) ∧ x = if ¬ z0 < 0 ∧ z0 < nI nt then (if 0 ≤ z1 ∧ z1 ≤ 2 then (if kcB (tk z0.toNatClampNeg) z1 = true then 1 else -12) else -2) else -1) := by
  refine Ct_of (by decide) (Nat.le_of_ble_eq_true rfl) ?_
  intro p e s m below meth c A D cy ls C hl
  have hl : lv_has ls 4 [(0, .ref (ad (55))), (1, .int (z0)), (2, .int (z1))] := hl
  have ng4 := hX.1.2.1
  have nt5 := hX.2.2.1
  refine j_aload_n C dX11_as_0 rfl (lv_at hl 0 rfl) ?_
  refine j_iconst (v := 0) C dX11_as_1 (by decide) ?_
  refine j_putI (k := 55) C (f_RX11_66_11) p_11_9 (xl (by decide)) (rfl) dX11_as_2 (fun V1 eV1 => ?_)
  have hX1 : XI tk nt V1 ng rr c_0_ := by rw [eV1]; exact XI_f hX
  refine j_aload_n C dX11_as_5 rfl (lv_at hl 0 rfl) ?_
  refine j_iload_n C dX11_as_6 rfl (lv_at hl 1 rfl) ?_
  refine j_callV (k := 55) C [.int (z0)] [] (k_X11_throwerOf l ad tk nt V1 hX1.2.1 hX1.2.2.1 (z0)) v_RX11_124 (xl (by decide)) (rfl) rfl ⟨rfl, rfl, Nat.le_of_ble_eq_true rfl, Nat.le_of_ble_eq_true rfl⟩ rfl hl.1 rfl (Nat.le_of_ble_eq_true rfl) ⟨Nat.le_of_ble_eq_true rfl, Nat.le_of_ble_eq_true rfl⟩ dX11_as_7 (kA fun x_1_ U1 h_1_ => ?_)
  obtain ⟨eU1, h_1_⟩ := h_1_
  have eU1 := eU1.symm
  subst eU1
  rcases h_1_ with ⟨j_1_, hj1, ej1, ev1⟩ | ⟨ho1, ev1⟩
  · subst ev1
    refine j_astore_n (lv2 := [(3, .ref (ad (56 + j_1_))), (0, .ref (ad (55))), (1, .int (z0)), (2, .int (z1))]) C dX11_as_10 rfl hl (by decide) rfl (fun ls hl => ?_)
    refine j_aload_n C dX11_as_11 rfl (lv_at hl 0 rfl) ?_
    refine j_ifnonnull (tgt := 17) C dX11_as_12 (by decide) ?_
    refine j_iload_n C dX11_as_17 rfl (lv_at hl 3 rfl) ?_
    refine j_iconst (v := 0) C dX11_as_18 (by decide) ?_
    refine j_iconst (v := 2) C dX11_as_19 (by decide) ?_
    refine j_callS C [.int (z1), .int (0), .int (2)] [] (k_X11_isWithin l (xS ad tk nt) V1 (z1) (0) (2)) v_RX11_143 ⟨rfl, rfl, Nat.le_of_ble_eq_true rfl, Nat.le_of_ble_eq_true rfl⟩ rfl hl.1 rfl (Nat.le_of_ble_eq_true rfl) ⟨Nat.le_of_ble_eq_true rfl, Nat.le_of_ble_eq_true rfl⟩ dX11_as_20 (kI fun x_2_ U2 h_2_ => ?_)
    obtain ⟨eU2, h_2_⟩ := h_2_
    have eU2 := eU2.symm
    subst eU2
    refine j_if_ne (tgt := 29) C dX11_as_23 (by decide) (fun c_3_ => ?_) (fun c_3_ => ?_)
    · skip
      have b3 := Decidable.not_not.mp (mt bI_0.mpr (h_2_ ▸ c_3_))
      refine j_aload_n C dX11_as_29 rfl (lv_at hl 0 rfl) ?_
      refine j_iload_n C dX11_as_30 rfl (lv_at hl 3 rfl) ?_
      refine j_callS C [.ref (ad (56 + j_1_)), .int (z1)] [] (k_X11_isOfKind l ad tk nt V1 j_1_ hj1 (XI_T hX1 hj1) (z1)) v_RX11_259 ⟨rfl, rfl, Nat.le_of_ble_eq_true rfl, Nat.le_of_ble_eq_true rfl⟩ rfl hl.1 rfl (Nat.le_of_ble_eq_true rfl) ⟨Nat.le_of_ble_eq_true rfl, Nat.le_of_ble_eq_true rfl⟩ dX11_as_31 (kI fun x_4_ U4 h_4_ => ?_)
      obtain ⟨eU4, h_4_⟩ := h_4_
      have eU4 := eU4.symm
      subst eU4
      refine j_if_eq (tgt := 41) C dX11_as_34 (by decide) (fun c_5_ => ?_) (fun c_5_ => ?_)
      · skip
        have b5 := bI_0.mp (h_4_ ▸ c_5_)
        refine j_aload_n C dX11_as_41 rfl (lv_at hl 1 rfl) ?_
        refine j_iconst (v := 2) C dX11_as_42 (by decide) ?_
        refine j_callV (k := 55) C [.int (2)] [] (k_X11_comeTo l ad tk nt V1  (2)) v_RX11_86 (xl (by decide)) (rfl) rfl ⟨rfl, rfl, Nat.le_of_ble_eq_true rfl, Nat.le_of_ble_eq_true rfl⟩ rfl hl.1 rfl (Nat.le_of_ble_eq_true rfl) ⟨Nat.le_of_ble_eq_true rfl, Nat.le_of_ble_eq_true rfl⟩ dX11_as_43 (kI fun x_6_ U6 h_6_ => ?_)
        obtain ⟨eU6, h_6_⟩ := h_6_
        refine j_iret C ⟨rfl, _, rfl, ?_⟩ dX11_as_46
        simp only [← eV1]
        obtain ⟨hin1, hcl1⟩ := inz ej1 hj1 (by omega)
        have k8 := fun q => b5 ((kc_iff _ _).mpr q)
        refine ⟨?_, ?_⟩
        · first | (simp only [if_pos hin1, hcl1, if_pos b3, if_neg k8]; done) | (simp only [if_pos hin1, hcl1, if_pos b3, if_neg k8]; exact eV1) | (simp only [if_pos hin1, hcl1, if_pos b3, if_neg k8]; rw [eV1]; done) | (simp only [if_pos hin1, hcl1, if_pos b3, if_neg k8]; exact eU6) | (simp only [if_pos hin1, hcl1, if_pos b3, if_neg k8]; rw [eU6]; done) | (simp only [if_pos hin1, hcl1, if_pos b3, if_neg k8]; exact h_6_) | (simp only [if_pos hin1, hcl1, if_pos b3, if_neg k8]; rw [h_6_]; done) | (simp only [if_pos hin1, hcl1, if_pos b3, if_neg k8]; rfl)
        · first | (simp only [if_pos hin1, hcl1, if_pos b3, if_neg k8]; done) | (simp only [if_pos hin1, hcl1, if_pos b3, if_neg k8]; exact h_4_) | (simp only [if_pos hin1, hcl1, if_pos b3, if_neg k8]; rw [h_4_]; done) | (simp only [if_pos hin1, hcl1, if_pos b3, if_neg k8]; exact h_6_) | (simp only [if_pos hin1, hcl1, if_pos b3, if_neg k8]; rw [h_6_]; done) | (simp only [if_pos hin1, hcl1, if_pos b3, if_neg k8]; rfl)
      · skip
        have b5 := Decidable.not_not.mp (mt bI_0.mpr (h_4_ ▸ c_5_))
        refine j_iconst (v := 1) C dX11_as_37 (by decide) ?_
        refine j_goto (tgt := 46) C dX11_as_38 (by decide) ?_
        refine j_iret C ⟨rfl, _, rfl, ?_⟩ dX11_as_46
        simp only [← eV1]
        obtain ⟨hin1, hcl1⟩ := inz ej1 hj1 (by omega)
        have k8 := (kc_iff _ _).mp b5
        refine ⟨?_, ?_⟩
        · first | (simp only [if_pos hin1, hcl1, if_pos b3, if_pos k8]; done) | (simp only [if_pos hin1, hcl1, if_pos b3, if_pos k8]; exact eV1) | (simp only [if_pos hin1, hcl1, if_pos b3, if_pos k8]; rw [eV1]; done) | (simp only [if_pos hin1, hcl1, if_pos b3, if_pos k8]; exact h_4_) | (simp only [if_pos hin1, hcl1, if_pos b3, if_pos k8]; rw [h_4_]; done) | (simp only [if_pos hin1, hcl1, if_pos b3, if_pos k8]; rfl)
        · first | (simp only [if_pos hin1, hcl1, if_pos b3, if_pos k8]; done) | (simp only [if_pos hin1, hcl1, if_pos b3, if_pos k8]; exact h_2_) | (simp only [if_pos hin1, hcl1, if_pos b3, if_pos k8]; rw [h_2_]; done) | (simp only [if_pos hin1, hcl1, if_pos b3, if_pos k8]; exact h_4_) | (simp only [if_pos hin1, hcl1, if_pos b3, if_pos k8]; rw [h_4_]; done) | (simp only [if_pos hin1, hcl1, if_pos b3, if_pos k8]; rfl)
    · skip
      have b3 := bI_0.mp (h_2_ ▸ c_3_)
      refine j_bipush (v := (-2)) C dX11_as_26 (by decide) ?_
      refine j_iret C ⟨rfl, _, rfl, ?_⟩ dX11_as_28
      simp only [← eV1]
      obtain ⟨hin1, hcl1⟩ := inz ej1 hj1 (by omega)
      refine ⟨?_, ?_⟩
      · first | (simp only [if_pos hin1, hcl1, if_neg b3]; done) | (simp only [if_pos hin1, hcl1, if_neg b3]; exact eV1) | (simp only [if_pos hin1, hcl1, if_neg b3]; rw [eV1]; done) | (simp only [if_pos hin1, hcl1, if_neg b3]; exact h_2_) | (simp only [if_pos hin1, hcl1, if_neg b3]; rw [h_2_]; done) | (simp only [if_pos hin1, hcl1, if_neg b3]; rfl)
      · first | (simp only [if_pos hin1, hcl1, if_neg b3]; done) | (simp only [if_pos hin1, hcl1, if_neg b3]; exact h_2_) | (simp only [if_pos hin1, hcl1, if_neg b3]; rw [h_2_]; done) | (simp only [if_pos hin1, hcl1, if_neg b3]; rfl)
  · subst ev1
    refine j_astore_nN (lv2 := [(3, .null), (0, .ref (ad (55))), (1, .int (z0)), (2, .int (z1))]) C dX11_as_10 rfl hl (by decide) rfl (fun ls hl => ?_)
    refine j_aload_nN C dX11_as_11 rfl (lv_at hl 0 rfl) ?_
    refine j_ifnonnullN C dX11_as_12 ?_
    refine j_iconst (v := (-1)) C dX11_as_15 (by decide) ?_
    refine j_iret C ⟨rfl, _, rfl, ?_⟩ dX11_as_16
    simp only [← eV1]
    have hot1 := outR ho1
    refine ⟨?_, ?_⟩
    · first | (simp only [if_neg hot1]; done) | (simp only [if_neg hot1]; exact eV1) | (simp only [if_neg hot1]; rw [eV1]; done) | (simp only [if_neg hot1]; rfl)
    · first | (simp only [if_neg hot1]; done) | (simp only [if_neg hot1]; rfl)
abbrev rm_X11_lose : Room := { frames := 1, cells := 0, slots := 0, locals := 21 }
set_option maxHeartbeats 4000000 in
set_option maxRecDepth 100000 in
theorem k_X11_lose (l : Launch) (ad tk : Nat → Nat) (nt : Nat) (V : Vt) (ng : Nat) (rr : Nat → Nat) (c_0_ : Nat) (hX : XI tk nt V ng rr c_0_) (z0 : Int32) : Ct l yX11_lose cX11_lose 3 (some .int) rm_X11_lose (xS ad tk nt) V [.ref (ad (55)), .int (z0)] (rI fun x V2 => (V2 = if ¬ z0 < 0 ∧ z0 < nI 4 then (if V (34 + 2 * z0.toNatClampNeg) 0 = -1 then V else up2 (up2 V (34 + 2 * z0.toNatClampNeg) 0 (-1)) (34 + 2 * z0.toNatClampNeg) 1 0) else V) ∧ x = if ¬ z0 < 0 ∧ z0 < nI 4 then (if V (34 + 2 * z0.toNatClampNeg) 0 = -1 then 0 else 1) else -1) := by
  refine Ct_of (by decide) (Nat.le_of_ble_eq_true rfl) ?_
  intro p e s m below meth c A D cy ls C hl
  have hl : lv_has ls 3 [(0, .ref (ad (55))), (1, .int (z0))] := hl
  have ng4 := hX.1.2.1
  have nt5 := hX.2.2.1
  refine j_aload_n C dX11_lose_0 rfl (lv_at hl 0 rfl) ?_
  refine j_iload_n C dX11_lose_1 rfl (lv_at hl 1 rfl) ?_
  refine j_callV (k := 55) C [.int (z0)] [] (k_X11_sheetOf l ad tk nt V  (z0)) v_RX11_70 (xl (by decide)) (rfl) rfl ⟨rfl, rfl, Nat.le_of_ble_eq_true rfl, Nat.le_of_ble_eq_true rfl⟩ rfl hl.1 rfl (Nat.le_of_ble_eq_true rfl) ⟨Nat.le_of_ble_eq_true rfl, Nat.le_of_ble_eq_true rfl⟩ dX11_lose_2 (kA fun x_1_ U1 h_1_ => ?_)
  obtain ⟨eU1, h_1_⟩ := h_1_
  have eU1 := eU1.symm
  subst eU1
  rcases h_1_ with ⟨j_1_, hj1, ej1, ev1⟩ | ⟨ho1, ev1⟩
  · subst ev1
    refine j_astore_n (lv2 := [(2, .ref (ad (34 + 2 * j_1_))), (0, .ref (ad (55))), (1, .int (z0))]) C dX11_lose_5 rfl hl (by decide) rfl (fun ls hl => ?_)
    refine j_aload_n C dX11_lose_6 rfl (lv_at hl 0 rfl) ?_
    refine j_ifnonnull (tgt := 12) C dX11_lose_7 (by decide) ?_
    refine j_aload_n C dX11_lose_12 rfl (lv_at hl 0 rfl) ?_
    refine j_callV (k := 34 + 2 * j_1_) C [] [] (k_X7_hasNothing l ad tk nt V (34 + 2 * j_1_) (isH_j hj1)  ) v_RX11_230 (xl (xH (tk := tk) (nt := nt) (isH_j hj1)).1.1) ((xH (tk := tk) (nt := nt) (isH_j hj1)).2.1) rfl ⟨rfl, rfl, Nat.le_of_ble_eq_true rfl, Nat.le_of_ble_eq_true rfl⟩ rfl hl.1 rfl (Nat.le_of_ble_eq_true rfl) ⟨Nat.le_of_ble_eq_true rfl, Nat.le_of_ble_eq_true rfl⟩ dX11_lose_13 (kI fun x_2_ U2 h_2_ => ?_)
    obtain ⟨eU2, h_2_⟩ := h_2_
    have eU2 := eU2.symm
    subst eU2
    refine j_if_eq (tgt := 21) C dX11_lose_16 (by decide) (fun c_3_ => ?_) (fun c_3_ => ?_)
    · skip
      have b3 := bI_0.mp (h_2_ ▸ c_3_)
      refine j_aload_n C dX11_lose_21 rfl (lv_at hl 0 rfl) ?_
      refine j_callV (k := 34 + 2 * j_1_) C [] [] (k_X7_forget l ad tk nt V (34 + 2 * j_1_) (isH_j hj1)  ) v_RX11_233 (xl (xH (tk := tk) (nt := nt) (isH_j hj1)).1.1) ((xH (tk := tk) (nt := nt) (isH_j hj1)).2.1) rfl ⟨rfl, rfl, Nat.le_of_ble_eq_true rfl, Nat.le_of_ble_eq_true rfl⟩ rfl hl.1 rfl (Nat.le_of_ble_eq_true rfl) ⟨Nat.le_of_ble_eq_true rfl, Nat.le_of_ble_eq_true rfl⟩ dX11_lose_22 (kU fun U4 h_4_ => ?_)
      refine j_iconst (v := 1) C dX11_lose_25 (by decide) ?_
      refine j_iret C ⟨rfl, _, rfl, ?_⟩ dX11_lose_26
      obtain ⟨hin1, hcl1⟩ := inz ej1 hj1 (by omega)
      refine ⟨?_, ?_⟩
      · first | (simp only [if_pos hin1, hcl1, if_neg b3]; done) | (simp only [if_pos hin1, hcl1, if_neg b3]; exact h_4_) | (simp only [if_pos hin1, hcl1, if_neg b3]; rw [h_4_]; done) | (simp only [if_pos hin1, hcl1, if_neg b3]; rfl)
      · first | (simp only [if_pos hin1, hcl1, if_neg b3]; done) | (simp only [if_pos hin1, hcl1, if_neg b3]; exact h_2_) | (simp only [if_pos hin1, hcl1, if_neg b3]; rw [h_2_]; done) | (simp only [if_pos hin1, hcl1, if_neg b3]; exact h_4_) | (simp only [if_pos hin1, hcl1, if_neg b3]; rw [h_4_]; done) | (simp only [if_pos hin1, hcl1, if_neg b3]; rfl)
    · skip
      have b3 := Decidable.not_not.mp (mt bI_0.mpr (h_2_ ▸ c_3_))
      refine j_iconst (v := 0) C dX11_lose_19 (by decide) ?_
      refine j_iret C ⟨rfl, _, rfl, ?_⟩ dX11_lose_20
      obtain ⟨hin1, hcl1⟩ := inz ej1 hj1 (by omega)
      refine ⟨?_, ?_⟩
      · first | (simp only [if_pos hin1, hcl1, if_pos b3]; done) | (simp only [if_pos hin1, hcl1, if_pos b3]; exact h_2_) | (simp only [if_pos hin1, hcl1, if_pos b3]; rw [h_2_]; done) | (simp only [if_pos hin1, hcl1, if_pos b3]; rfl)
      · first | (simp only [if_pos hin1, hcl1, if_pos b3]; done) | (simp only [if_pos hin1, hcl1, if_pos b3]; exact h_2_) | (simp only [if_pos hin1, hcl1, if_pos b3]; rw [h_2_]; done) | (simp only [if_pos hin1, hcl1, if_pos b3]; rfl)
  · subst ev1
    refine j_astore_nN (lv2 := [(2, .null), (0, .ref (ad (55))), (1, .int (z0))]) C dX11_lose_5 rfl hl (by decide) rfl (fun ls hl => ?_)
    refine j_aload_nN C dX11_lose_6 rfl (lv_at hl 0 rfl) ?_
    refine j_ifnonnullN C dX11_lose_7 ?_
    refine j_iconst (v := (-1)) C dX11_lose_10 (by decide) ?_
    refine j_iret C ⟨rfl, _, rfl, ?_⟩ dX11_lose_11
    have hot1 := outR ho1
    refine ⟨?_, ?_⟩
    · first | (simp only [if_neg hot1]; done) | (simp only [if_neg hot1]; rfl)
    · first | (simp only [if_neg hot1]; done) | (simp only [if_neg hot1]; rfl)
abbrev rm_X11_sheet : Room := { frames := 2, cells := 0, slots := 0, locals := 42 }
set_option maxHeartbeats 4000000 in
set_option maxRecDepth 100000 in
theorem k_X11_sheet (l : Launch) (ad tk : Nat → Nat) (nt : Nat) (V : Vt) (ng : Nat) (rr : Nat → Nat) (c_0_ : Nat) (hX : XI tk nt V ng rr c_0_) (z0 z1 z2 : Int32) : Ct l yX11_sheet cX11_sheet 5 (some .int) rm_X11_sheet (xS ad tk nt) V [.ref (ad (55)), .int (z0), .int (z1), .int (z2)] (rI fun x V2 => (V2 = if ¬ z0 < 0 ∧ z0 < nI 4 then (if 0 ≤ z1 ∧ z1 ≤ 2 then (if 60 < z2 then (up2 V 55 9 0) else (if z2 < 0 then up2 (up2 V 55 9 0) 55 9 4 else rnV (up2 V 55 9 0) (34 + 2 * z0.toNatClampNeg) z1 z2 60)) else (up2 V 55 9 0)) else (up2 V 55 9 0)) ∧ x = if ¬ z0 < 0 ∧ z0 < nI 4 then (if 0 ≤ z1 ∧ z1 ≤ 2 then (if 60 < z2 then -2 else (if z2 < 0 then -14 else 1)) else -2) else -1) := by
  refine Ct_of (by decide) (Nat.le_of_ble_eq_true rfl) ?_
  intro p e s m below meth c A D cy ls C hl
  have hl : lv_has ls 5 [(0, .ref (ad (55))), (1, .int (z0)), (2, .int (z1)), (3, .int (z2))] := hl
  have ng4 := hX.1.2.1
  have nt5 := hX.2.2.1
  refine j_aload_n C dX11_sheet_0 rfl (lv_at hl 0 rfl) ?_
  refine j_iconst (v := 0) C dX11_sheet_1 (by decide) ?_
  refine j_putI (k := 55) C (f_RX11_66_11) p_11_9 (xl (by decide)) (rfl) dX11_sheet_2 (fun V1 eV1 => ?_)
  have hX1 : XI tk nt V1 ng rr c_0_ := by rw [eV1]; exact XI_f hX
  refine j_aload_n C dX11_sheet_5 rfl (lv_at hl 0 rfl) ?_
  refine j_iload_n C dX11_sheet_6 rfl (lv_at hl 1 rfl) ?_
  refine j_callV (k := 55) C [.int (z0)] [] (k_X11_sheetOf l ad tk nt V1  (z0)) v_RX11_70 (xl (by decide)) (rfl) rfl ⟨rfl, rfl, Nat.le_of_ble_eq_true rfl, Nat.le_of_ble_eq_true rfl⟩ rfl hl.1 rfl (Nat.le_of_ble_eq_true rfl) ⟨Nat.le_of_ble_eq_true rfl, Nat.le_of_ble_eq_true rfl⟩ dX11_sheet_7 (kA fun x_1_ U1 h_1_ => ?_)
  obtain ⟨eU1, h_1_⟩ := h_1_
  have eU1 := eU1.symm
  subst eU1
  rcases h_1_ with ⟨j_1_, hj1, ej1, ev1⟩ | ⟨ho1, ev1⟩
  · subst ev1
    refine j_astore (lv2 := [(4, .ref (ad (34 + 2 * j_1_))), (0, .ref (ad (55))), (1, .int (z0)), (2, .int (z1)), (3, .int (z2))]) C dX11_sheet_10 hl (by decide) rfl (fun ls hl => ?_)
    refine j_aload C dX11_sheet_12 (lv_at hl 0 rfl) ?_
    refine j_ifnonnull (tgt := 19) C dX11_sheet_14 (by decide) ?_
    refine j_iload_n C dX11_sheet_19 rfl (lv_at hl 3 rfl) ?_
    refine j_callS C [.int (z1)] [] (k_X11_isLane l (xS ad tk nt) V1 (z1)) v_RX11_74 ⟨rfl, rfl, Nat.le_of_ble_eq_true rfl, Nat.le_of_ble_eq_true rfl⟩ rfl hl.1 rfl (Nat.le_of_ble_eq_true rfl) ⟨Nat.le_of_ble_eq_true rfl, Nat.le_of_ble_eq_true rfl⟩ dX11_sheet_20 (kI fun x_2_ U2 h_2_ => ?_)
    obtain ⟨eU2, h_2_⟩ := h_2_
    have eU2 := eU2.symm
    subst eU2
    refine j_if_eq (tgt := 32) C dX11_sheet_23 (by decide) (fun c_3_ => ?_) (fun c_3_ => ?_)
    · skip
      have b3 := bI_0.mp (h_2_ ▸ c_3_)
      refine j_bipush (v := (-2)) C dX11_sheet_32 (by decide) ?_
      refine j_iret C ⟨rfl, _, rfl, ?_⟩ dX11_sheet_34
      simp only [← eV1]
      obtain ⟨hin1, hcl1⟩ := inz ej1 hj1 (by omega)
      refine ⟨?_, ?_⟩
      · first | (simp only [if_pos hin1, hcl1, if_neg b3]; done) | (simp only [if_pos hin1, hcl1, if_neg b3]; exact eV1) | (simp only [if_pos hin1, hcl1, if_neg b3]; rw [eV1]; done) | (simp only [if_pos hin1, hcl1, if_neg b3]; exact h_2_) | (simp only [if_pos hin1, hcl1, if_neg b3]; rw [h_2_]; done) | (simp only [if_pos hin1, hcl1, if_neg b3]; rfl)
      · first | (simp only [if_pos hin1, hcl1, if_neg b3]; done) | (simp only [if_pos hin1, hcl1, if_neg b3]; exact h_2_) | (simp only [if_pos hin1, hcl1, if_neg b3]; rw [h_2_]; done) | (simp only [if_pos hin1, hcl1, if_neg b3]; rfl)
    · skip
      have b3 := Decidable.not_not.mp (mt bI_0.mpr (h_2_ ▸ c_3_))
      refine j_iload_n C dX11_sheet_26 rfl (lv_at hl 4 rfl) ?_
      refine j_bipush (v := 60) C dX11_sheet_27 (by decide) ?_
      refine j_icmp_le (tgt := 35) C dX11_sheet_29 (by decide) (fun c_4_ => ?_) (fun c_4_ => ?_)
      · have n_4_ := Int32.not_lt.mpr c_4_
        refine j_iload_n C dX11_sheet_35 rfl (lv_at hl 4 rfl) ?_
        refine j_if_ge (tgt := 45) C dX11_sheet_36 (by decide) (fun c_5_ => ?_) (fun c_5_ => ?_)
        · have n_5_ := Int32.not_lt.mpr c_5_
          refine j_aload C dX11_sheet_45 (lv_at hl 0 rfl) ?_
          refine j_iload_n C dX11_sheet_47 rfl (lv_at hl 3 rfl) ?_
          refine j_iload_n C dX11_sheet_48 rfl (lv_at hl 4 rfl) ?_
          refine j_callV (k := 34 + 2 * j_1_) C [.int (z1), .int (z2)] [] (k_X7_renew l ad tk nt V1 (34 + 2 * j_1_) (isH_j hj1)  (z1) (z2)) v_RX11_227 (xl (xH (tk := tk) (nt := nt) (isH_j hj1)).1.1) ((xH (tk := tk) (nt := nt) (isH_j hj1)).2.1) rfl ⟨rfl, rfl, Nat.le_of_ble_eq_true rfl, Nat.le_of_ble_eq_true rfl⟩ rfl hl.1 rfl (Nat.le_of_ble_eq_true rfl) ⟨Nat.le_of_ble_eq_true rfl, Nat.le_of_ble_eq_true rfl⟩ dX11_sheet_49 (kU fun U6 h_6_ => ?_)
          refine j_iconst (v := 1) C dX11_sheet_52 (by decide) ?_
          refine j_iret C ⟨rfl, _, rfl, ?_⟩ dX11_sheet_53
          simp only [← eV1]
          obtain ⟨hin1, hcl1⟩ := inz ej1 hj1 (by omega)
          refine ⟨?_, ?_⟩
          · first | (simp only [if_pos hin1, hcl1, if_pos b3, if_neg (Int32.not_lt.mpr c_4_), if_neg (Int32.not_lt.mpr c_5_)]; done) | (simp only [if_pos hin1, hcl1, if_pos b3, if_neg (Int32.not_lt.mpr c_4_), if_neg (Int32.not_lt.mpr c_5_)]; exact eV1) | (simp only [if_pos hin1, hcl1, if_pos b3, if_neg (Int32.not_lt.mpr c_4_), if_neg (Int32.not_lt.mpr c_5_)]; rw [eV1]; done) | (simp only [if_pos hin1, hcl1, if_pos b3, if_neg (Int32.not_lt.mpr c_4_), if_neg (Int32.not_lt.mpr c_5_)]; exact h_6_) | (simp only [if_pos hin1, hcl1, if_pos b3, if_neg (Int32.not_lt.mpr c_4_), if_neg (Int32.not_lt.mpr c_5_)]; rw [h_6_]; done) | (simp only [if_pos hin1, hcl1, if_pos b3, if_neg (Int32.not_lt.mpr c_4_), if_neg (Int32.not_lt.mpr c_5_)]; rfl)
          · first | (simp only [if_pos hin1, hcl1, if_pos b3, if_neg (Int32.not_lt.mpr c_4_), if_neg (Int32.not_lt.mpr c_5_)]; done) | (simp only [if_pos hin1, hcl1, if_pos b3, if_neg (Int32.not_lt.mpr c_4_), if_neg (Int32.not_lt.mpr c_5_)]; exact h_2_) | (simp only [if_pos hin1, hcl1, if_pos b3, if_neg (Int32.not_lt.mpr c_4_), if_neg (Int32.not_lt.mpr c_5_)]; rw [h_2_]; done) | (simp only [if_pos hin1, hcl1, if_pos b3, if_neg (Int32.not_lt.mpr c_4_), if_neg (Int32.not_lt.mpr c_5_)]; exact h_6_) | (simp only [if_pos hin1, hcl1, if_pos b3, if_neg (Int32.not_lt.mpr c_4_), if_neg (Int32.not_lt.mpr c_5_)]; rw [h_6_]; done) | (simp only [if_pos hin1, hcl1, if_pos b3, if_neg (Int32.not_lt.mpr c_4_), if_neg (Int32.not_lt.mpr c_5_)]; rfl)
        · have n_5_ := Int32.not_le.mp c_5_
          refine j_aload_n C dX11_sheet_39 rfl (lv_at hl 1 rfl) ?_
          refine j_iconst (v := 4) C dX11_sheet_40 (by decide) ?_
          refine j_callV (k := 55) C [.int (4)] [] (k_X11_comeTo l ad tk nt V1  (4)) v_RX11_86 (xl (by decide)) (rfl) rfl ⟨rfl, rfl, Nat.le_of_ble_eq_true rfl, Nat.le_of_ble_eq_true rfl⟩ rfl hl.1 rfl (Nat.le_of_ble_eq_true rfl) ⟨Nat.le_of_ble_eq_true rfl, Nat.le_of_ble_eq_true rfl⟩ dX11_sheet_41 (kI fun x_7_ U7 h_7_ => ?_)
          obtain ⟨eU7, h_7_⟩ := h_7_
          refine j_iret C ⟨rfl, _, rfl, ?_⟩ dX11_sheet_44
          simp only [← eV1]
          obtain ⟨hin1, hcl1⟩ := inz ej1 hj1 (by omega)
          refine ⟨?_, ?_⟩
          · first | (simp only [if_pos hin1, hcl1, if_pos b3, if_neg (Int32.not_lt.mpr c_4_), if_pos (Int32.not_le.mp c_5_)]; done) | (simp only [if_pos hin1, hcl1, if_pos b3, if_neg (Int32.not_lt.mpr c_4_), if_pos (Int32.not_le.mp c_5_)]; exact eV1) | (simp only [if_pos hin1, hcl1, if_pos b3, if_neg (Int32.not_lt.mpr c_4_), if_pos (Int32.not_le.mp c_5_)]; rw [eV1]; done) | (simp only [if_pos hin1, hcl1, if_pos b3, if_neg (Int32.not_lt.mpr c_4_), if_pos (Int32.not_le.mp c_5_)]; exact eU7) | (simp only [if_pos hin1, hcl1, if_pos b3, if_neg (Int32.not_lt.mpr c_4_), if_pos (Int32.not_le.mp c_5_)]; rw [eU7]; done) | (simp only [if_pos hin1, hcl1, if_pos b3, if_neg (Int32.not_lt.mpr c_4_), if_pos (Int32.not_le.mp c_5_)]; exact h_7_) | (simp only [if_pos hin1, hcl1, if_pos b3, if_neg (Int32.not_lt.mpr c_4_), if_pos (Int32.not_le.mp c_5_)]; rw [h_7_]; done) | (simp only [if_pos hin1, hcl1, if_pos b3, if_neg (Int32.not_lt.mpr c_4_), if_pos (Int32.not_le.mp c_5_)]; rfl)
          · first | (simp only [if_pos hin1, hcl1, if_pos b3, if_neg (Int32.not_lt.mpr c_4_), if_pos (Int32.not_le.mp c_5_)]; done) | (simp only [if_pos hin1, hcl1, if_pos b3, if_neg (Int32.not_lt.mpr c_4_), if_pos (Int32.not_le.mp c_5_)]; exact h_2_) | (simp only [if_pos hin1, hcl1, if_pos b3, if_neg (Int32.not_lt.mpr c_4_), if_pos (Int32.not_le.mp c_5_)]; rw [h_2_]; done) | (simp only [if_pos hin1, hcl1, if_pos b3, if_neg (Int32.not_lt.mpr c_4_), if_pos (Int32.not_le.mp c_5_)]; exact h_7_) | (simp only [if_pos hin1, hcl1, if_pos b3, if_neg (Int32.not_lt.mpr c_4_), if_pos (Int32.not_le.mp c_5_)]; rw [h_7_]; done) | (simp only [if_pos hin1, hcl1, if_pos b3, if_neg (Int32.not_lt.mpr c_4_), if_pos (Int32.not_le.mp c_5_)]; rfl)
      · have n_4_ := Int32.not_le.mp c_4_
        refine j_bipush (v := (-2)) C dX11_sheet_32 (by decide) ?_
        refine j_iret C ⟨rfl, _, rfl, ?_⟩ dX11_sheet_34
        simp only [← eV1]
        obtain ⟨hin1, hcl1⟩ := inz ej1 hj1 (by omega)
        refine ⟨?_, ?_⟩
        · first | (simp only [if_pos hin1, hcl1, if_pos b3, if_pos (Int32.not_le.mp c_4_)]; done) | (simp only [if_pos hin1, hcl1, if_pos b3, if_pos (Int32.not_le.mp c_4_)]; exact eV1) | (simp only [if_pos hin1, hcl1, if_pos b3, if_pos (Int32.not_le.mp c_4_)]; rw [eV1]; done) | (simp only [if_pos hin1, hcl1, if_pos b3, if_pos (Int32.not_le.mp c_4_)]; exact h_2_) | (simp only [if_pos hin1, hcl1, if_pos b3, if_pos (Int32.not_le.mp c_4_)]; rw [h_2_]; done) | (simp only [if_pos hin1, hcl1, if_pos b3, if_pos (Int32.not_le.mp c_4_)]; rfl)
        · first | (simp only [if_pos hin1, hcl1, if_pos b3, if_pos (Int32.not_le.mp c_4_)]; done) | (simp only [if_pos hin1, hcl1, if_pos b3, if_pos (Int32.not_le.mp c_4_)]; exact h_2_) | (simp only [if_pos hin1, hcl1, if_pos b3, if_pos (Int32.not_le.mp c_4_)]; rw [h_2_]; done) | (simp only [if_pos hin1, hcl1, if_pos b3, if_pos (Int32.not_le.mp c_4_)]; rfl)
  · subst ev1
    refine j_astoreN (lv2 := [(4, .null), (0, .ref (ad (55))), (1, .int (z0)), (2, .int (z1)), (3, .int (z2))]) C dX11_sheet_10 hl (by decide) rfl (fun ls hl => ?_)
    refine j_aloadN C dX11_sheet_12 (lv_at hl 0 rfl) ?_
    refine j_ifnonnullN C dX11_sheet_14 ?_
    refine j_iconst (v := (-1)) C dX11_sheet_17 (by decide) ?_
    refine j_iret C ⟨rfl, _, rfl, ?_⟩ dX11_sheet_18
    simp only [← eV1]
    have hot1 := outR ho1
    refine ⟨?_, ?_⟩
    · first | (simp only [if_neg hot1]; done) | (simp only [if_neg hot1]; exact eV1) | (simp only [if_neg hot1]; rw [eV1]; done) | (simp only [if_neg hot1]; rfl)
    · first | (simp only [if_neg hot1]; done) | (simp only [if_neg hot1]; rfl)
theorem h60_n {tk : Nat → Nat} {nt : Nat} {V : Vt} {ng : Nat} {rr : Nat → Nat} {c_0_ : Nat} (hX : XI tk nt V ng rr c_0_) {j : Nat} (hj : j < 4) : ∃ n, n ≤ 60 ∧ V (34 + 2 * j) 1 = nI n := hX.2.2.2.2.2.2.2 j hj
abbrev rm_X11_put : Room := { frames := 2, cells := 0, slots := 0, locals := 43 }
set_option maxHeartbeats 4000000 in
set_option maxRecDepth 100000 in
theorem k_X11_put (l : Launch) (ad tk : Nat → Nat) (nt : Nat) (V : Vt) (ng : Nat) (rr : Nat → Nat) (c_0_ : Nat) (hX : XI tk nt V ng rr c_0_) (z0 z1 z2 : Int32) : Ct l yX11_put cX11_put 5 (some .int) rm_X11_put (xS ad tk nt) V [.ref (ad (55)), .int (z0), .int (z1), .int (z2)] (rI fun x V2 => (V2 = if ¬ z0 < 0 ∧ z0 < nI 4 then (if (up2 V 55 9 0) (34 + 2 * z0.toNatClampNeg) 0 = -1 then up2 (up2 V 55 9 0) 55 9 1 else (if 0 ≤ z1 ∧ z1 < (up2 V 55 9 0) (34 + 2 * z0.toNatClampNeg) 1 then (if 0 ≤ z1 ∧ z1 < (up2 V 55 9 0) (34 + 2 * z0.toNatClampNeg) 1 then up2 (up2 V 55 9 0) ((34 + 2 * z0.toNatClampNeg) + 1) z1.toNatClampNeg (cutI ((up2 V 55 9 0) (34 + 2 * z0.toNatClampNeg) 0) z2) else (up2 V 55 9 0)) else up2 (up2 V 55 9 0) 55 9 3)) else (up2 V 55 9 0)) ∧ x = if ¬ z0 < 0 ∧ z0 < nI 4 then (if (up2 V 55 9 0) (34 + 2 * z0.toNatClampNeg) 0 = -1 then -11 else (if 0 ≤ z1 ∧ z1 < (up2 V 55 9 0) (34 + 2 * z0.toNatClampNeg) 1 then 1 else -13)) else -1) := by
  refine Ct_of (by decide) (Nat.le_of_ble_eq_true rfl) ?_
  intro p e s m below meth c A D cy ls C hl
  have hl : lv_has ls 5 [(0, .ref (ad (55))), (1, .int (z0)), (2, .int (z1)), (3, .int (z2))] := hl
  have ng4 := hX.1.2.1
  have nt5 := hX.2.2.1
  refine j_aload_n C dX11_put_0 rfl (lv_at hl 0 rfl) ?_
  refine j_iconst (v := 0) C dX11_put_1 (by decide) ?_
  refine j_putI (k := 55) C (f_RX11_66_11) p_11_9 (xl (by decide)) (rfl) dX11_put_2 (fun V1 eV1 => ?_)
  have hX1 : XI tk nt V1 ng rr c_0_ := by rw [eV1]; exact XI_f hX
  refine j_aload_n C dX11_put_5 rfl (lv_at hl 0 rfl) ?_
  refine j_iload_n C dX11_put_6 rfl (lv_at hl 1 rfl) ?_
  refine j_callV (k := 55) C [.int (z0)] [] (k_X11_sheetOf l ad tk nt V1  (z0)) v_RX11_70 (xl (by decide)) (rfl) rfl ⟨rfl, rfl, Nat.le_of_ble_eq_true rfl, Nat.le_of_ble_eq_true rfl⟩ rfl hl.1 rfl (Nat.le_of_ble_eq_true rfl) ⟨Nat.le_of_ble_eq_true rfl, Nat.le_of_ble_eq_true rfl⟩ dX11_put_7 (kA fun x_1_ U1 h_1_ => ?_)
  obtain ⟨eU1, h_1_⟩ := h_1_
  have eU1 := eU1.symm
  subst eU1
  rcases h_1_ with ⟨j_1_, hj1, ej1, ev1⟩ | ⟨ho1, ev1⟩
  · subst ev1
    obtain ⟨n_8_, hn8, en8⟩ := h60_n hX1 hj1
    refine j_astore (lv2 := [(4, .ref (ad (34 + 2 * j_1_))), (0, .ref (ad (55))), (1, .int (z0)), (2, .int (z1)), (3, .int (z2))]) C dX11_put_10 hl (by decide) rfl (fun ls hl => ?_)
    refine j_aload C dX11_put_12 (lv_at hl 0 rfl) ?_
    refine j_ifnonnull (tgt := 19) C dX11_put_14 (by decide) ?_
    refine j_aload C dX11_put_19 (lv_at hl 0 rfl) ?_
    refine j_callV (k := 34 + 2 * j_1_) C [] [] (k_X7_hasNothing l ad tk nt V1 (34 + 2 * j_1_) (isH_j hj1)  ) v_RX11_230 (xl (xH (tk := tk) (nt := nt) (isH_j hj1)).1.1) ((xH (tk := tk) (nt := nt) (isH_j hj1)).2.1) rfl ⟨rfl, rfl, Nat.le_of_ble_eq_true rfl, Nat.le_of_ble_eq_true rfl⟩ rfl hl.1 rfl (Nat.le_of_ble_eq_true rfl) ⟨Nat.le_of_ble_eq_true rfl, Nat.le_of_ble_eq_true rfl⟩ dX11_put_21 (kI fun x_2_ U2 h_2_ => ?_)
    obtain ⟨eU2, h_2_⟩ := h_2_
    have eU2 := eU2.symm
    subst eU2
    refine j_if_eq (tgt := 33) C dX11_put_24 (by decide) (fun c_3_ => ?_) (fun c_3_ => ?_)
    · skip
      have b3 := bI_0.mp (h_2_ ▸ c_3_)
      refine j_aload C dX11_put_33 (lv_at hl 0 rfl) ?_
      refine j_iload_n C dX11_put_35 rfl (lv_at hl 3 rfl) ?_
      refine j_callV (k := 34 + 2 * j_1_) C [.int (z1)] [] (k_X7_hasCell l ad tk nt V1 (34 + 2 * j_1_) (isH_j hj1)  (z1)) v_RX11_236 (xl (xH (tk := tk) (nt := nt) (isH_j hj1)).1.1) ((xH (tk := tk) (nt := nt) (isH_j hj1)).2.1) rfl ⟨rfl, rfl, Nat.le_of_ble_eq_true rfl, Nat.le_of_ble_eq_true rfl⟩ rfl hl.1 rfl (Nat.le_of_ble_eq_true rfl) ⟨Nat.le_of_ble_eq_true rfl, Nat.le_of_ble_eq_true rfl⟩ dX11_put_36 (kI fun x_4_ U4 h_4_ => ?_)
      obtain ⟨eU4, h_4_⟩ := h_4_
      have eU4 := eU4.symm
      subst eU4
      refine j_if_ne (tgt := 48) C dX11_put_39 (by decide) (fun c_5_ => ?_) (fun c_5_ => ?_)
      · skip
        have b5 := Decidable.not_not.mp (mt bI_0.mpr (h_4_ ▸ c_5_))
        refine j_aload C dX11_put_48 (lv_at hl 0 rfl) ?_
        refine j_iload_n C dX11_put_50 rfl (lv_at hl 3 rfl) ?_
        refine j_iload_n C dX11_put_51 rfl (lv_at hl 4 rfl) ?_
        refine j_callV (k := 34 + 2 * j_1_) C [.int (z1), .int (z2)] [] (k_X7_store l ad tk nt V1 (34 + 2 * j_1_) (isH_j hj1) n_8_ en8 hn8 (z1) (z2)) v_RX11_239 (xl (xH (tk := tk) (nt := nt) (isH_j hj1)).1.1) ((xH (tk := tk) (nt := nt) (isH_j hj1)).2.1) rfl ⟨rfl, rfl, Nat.le_of_ble_eq_true rfl, Nat.le_of_ble_eq_true rfl⟩ rfl hl.1 rfl (Nat.le_of_ble_eq_true rfl) ⟨Nat.le_of_ble_eq_true rfl, Nat.le_of_ble_eq_true rfl⟩ dX11_put_52 (kU fun U6 h_6_ => ?_)
        refine j_iconst (v := 1) C dX11_put_55 (by decide) ?_
        refine j_iret C ⟨rfl, _, rfl, ?_⟩ dX11_put_56
        simp only [← eV1]
        rw [if_pos b5] at h_6_
        obtain ⟨hin1, hcl1⟩ := inz ej1 hj1 (by omega)
        refine ⟨?_, ?_⟩
        · first | (simp only [if_pos hin1, hcl1, if_neg b3, if_pos b5]; done) | (simp only [if_pos hin1, hcl1, if_neg b3, if_pos b5]; exact eV1) | (simp only [if_pos hin1, hcl1, if_neg b3, if_pos b5]; rw [eV1]; done) | (simp only [if_pos hin1, hcl1, if_neg b3, if_pos b5]; exact h_6_) | (simp only [if_pos hin1, hcl1, if_neg b3, if_pos b5]; rw [h_6_]; done) | (simp only [if_pos hin1, hcl1, if_neg b3, if_pos b5]; rfl)
        · first | (simp only [if_pos hin1, hcl1, if_neg b3, if_pos b5]; done) | (simp only [if_pos hin1, hcl1, if_neg b3, if_pos b5]; exact h_4_) | (simp only [if_pos hin1, hcl1, if_neg b3, if_pos b5]; rw [h_4_]; done) | (simp only [if_pos hin1, hcl1, if_neg b3, if_pos b5]; exact h_6_) | (simp only [if_pos hin1, hcl1, if_neg b3, if_pos b5]; rw [h_6_]; done) | (simp only [if_pos hin1, hcl1, if_neg b3, if_pos b5]; rfl)
      · skip
        have b5 := bI_0.mp (h_4_ ▸ c_5_)
        refine j_aload_n C dX11_put_42 rfl (lv_at hl 1 rfl) ?_
        refine j_iconst (v := 3) C dX11_put_43 (by decide) ?_
        refine j_callV (k := 55) C [.int (3)] [] (k_X11_comeTo l ad tk nt V1  (3)) v_RX11_86 (xl (by decide)) (rfl) rfl ⟨rfl, rfl, Nat.le_of_ble_eq_true rfl, Nat.le_of_ble_eq_true rfl⟩ rfl hl.1 rfl (Nat.le_of_ble_eq_true rfl) ⟨Nat.le_of_ble_eq_true rfl, Nat.le_of_ble_eq_true rfl⟩ dX11_put_44 (kI fun x_7_ U7 h_7_ => ?_)
        obtain ⟨eU7, h_7_⟩ := h_7_
        refine j_iret C ⟨rfl, _, rfl, ?_⟩ dX11_put_47
        simp only [← eV1]
        obtain ⟨hin1, hcl1⟩ := inz ej1 hj1 (by omega)
        refine ⟨?_, ?_⟩
        · first | (simp only [if_pos hin1, hcl1, if_neg b3, if_neg b5]; done) | (simp only [if_pos hin1, hcl1, if_neg b3, if_neg b5]; exact eV1) | (simp only [if_pos hin1, hcl1, if_neg b3, if_neg b5]; rw [eV1]; done) | (simp only [if_pos hin1, hcl1, if_neg b3, if_neg b5]; exact eU7) | (simp only [if_pos hin1, hcl1, if_neg b3, if_neg b5]; rw [eU7]; done) | (simp only [if_pos hin1, hcl1, if_neg b3, if_neg b5]; exact h_7_) | (simp only [if_pos hin1, hcl1, if_neg b3, if_neg b5]; rw [h_7_]; done) | (simp only [if_pos hin1, hcl1, if_neg b3, if_neg b5]; rfl)
        · first | (simp only [if_pos hin1, hcl1, if_neg b3, if_neg b5]; done) | (simp only [if_pos hin1, hcl1, if_neg b3, if_neg b5]; exact h_4_) | (simp only [if_pos hin1, hcl1, if_neg b3, if_neg b5]; rw [h_4_]; done) | (simp only [if_pos hin1, hcl1, if_neg b3, if_neg b5]; exact h_7_) | (simp only [if_pos hin1, hcl1, if_neg b3, if_neg b5]; rw [h_7_]; done) | (simp only [if_pos hin1, hcl1, if_neg b3, if_neg b5]; rfl)
    · skip
      have b3 := Decidable.not_not.mp (mt bI_0.mpr (h_2_ ▸ c_3_))
      refine j_aload_n C dX11_put_27 rfl (lv_at hl 1 rfl) ?_
      refine j_iconst (v := 1) C dX11_put_28 (by decide) ?_
      refine j_callV (k := 55) C [.int (1)] [] (k_X11_comeTo l ad tk nt V1  (1)) v_RX11_86 (xl (by decide)) (rfl) rfl ⟨rfl, rfl, Nat.le_of_ble_eq_true rfl, Nat.le_of_ble_eq_true rfl⟩ rfl hl.1 rfl (Nat.le_of_ble_eq_true rfl) ⟨Nat.le_of_ble_eq_true rfl, Nat.le_of_ble_eq_true rfl⟩ dX11_put_29 (kI fun x_8_ U8 h_8_ => ?_)
      obtain ⟨eU8, h_8_⟩ := h_8_
      refine j_iret C ⟨rfl, _, rfl, ?_⟩ dX11_put_32
      simp only [← eV1]
      obtain ⟨hin1, hcl1⟩ := inz ej1 hj1 (by omega)
      refine ⟨?_, ?_⟩
      · first | (simp only [if_pos hin1, hcl1, if_pos b3]; done) | (simp only [if_pos hin1, hcl1, if_pos b3]; exact eV1) | (simp only [if_pos hin1, hcl1, if_pos b3]; rw [eV1]; done) | (simp only [if_pos hin1, hcl1, if_pos b3]; exact eU8) | (simp only [if_pos hin1, hcl1, if_pos b3]; rw [eU8]; done) | (simp only [if_pos hin1, hcl1, if_pos b3]; exact h_8_) | (simp only [if_pos hin1, hcl1, if_pos b3]; rw [h_8_]; done) | (simp only [if_pos hin1, hcl1, if_pos b3]; rfl)
      · first | (simp only [if_pos hin1, hcl1, if_pos b3]; done) | (simp only [if_pos hin1, hcl1, if_pos b3]; exact h_2_) | (simp only [if_pos hin1, hcl1, if_pos b3]; rw [h_2_]; done) | (simp only [if_pos hin1, hcl1, if_pos b3]; exact h_8_) | (simp only [if_pos hin1, hcl1, if_pos b3]; rw [h_8_]; done) | (simp only [if_pos hin1, hcl1, if_pos b3]; rfl)
  · subst ev1
    refine j_astoreN (lv2 := [(4, .null), (0, .ref (ad (55))), (1, .int (z0)), (2, .int (z1)), (3, .int (z2))]) C dX11_put_10 hl (by decide) rfl (fun ls hl => ?_)
    refine j_aloadN C dX11_put_12 (lv_at hl 0 rfl) ?_
    refine j_ifnonnullN C dX11_put_14 ?_
    refine j_iconst (v := (-1)) C dX11_put_17 (by decide) ?_
    refine j_iret C ⟨rfl, _, rfl, ?_⟩ dX11_put_18
    simp only [← eV1]
    have hot1 := outR ho1
    refine ⟨?_, ?_⟩
    · first | (simp only [if_neg hot1]; done) | (simp only [if_neg hot1]; exact eV1) | (simp only [if_neg hot1]; rw [eV1]; done) | (simp only [if_neg hot1]; rfl)
    · first | (simp only [if_neg hot1]; done) | (simp only [if_neg hot1]; rfl)
abbrev rm_X11_back : Room := { frames := 1, cells := 0, slots := 0, locals := 22 }
set_option maxHeartbeats 4000000 in
set_option maxRecDepth 100000 in
theorem k_X11_back (l : Launch) (ad tk : Nat → Nat) (nt : Nat) (V : Vt) (ng : Nat) (rr : Nat → Nat) (c_0_ : Nat) (hX : XI tk nt V ng rr c_0_) (z : Int32) : Ct l yX11_back cX11_back 2 (some .int) rm_X11_back (xS ad tk nt) V [.ref (ad (55)), .int (z)] (rI fun x V2 => (V2 = if 0 ≤ z ∧ z ≤ nI c_0_ then up2 V 29 0 (nI (c_0_ - z.toNatClampNeg)) else V) ∧ x = if 0 ≤ z ∧ z ≤ nI c_0_ then nI (c_0_ - z.toNatClampNeg) else -2) := by
  refine Ct_of (by decide) (Nat.le_of_ble_eq_true rfl) ?_
  intro p e s m below meth c A D cy ls C hl
  have hl : lv_has ls 2 [(0, .ref (ad (55))), (1, .int (z))] := hl
  have ng4 := hX.1.2.1
  have nt5 := hX.2.2.1
  refine j_iload_n C dX11_back_0 rfl (lv_at hl 1 rfl) ?_
  refine j_iconst (v := 0) C dX11_back_1 (by decide) ?_
  refine j_aload_n C dX11_back_2 rfl (lv_at hl 0 rfl) ?_
  refine j_getR (k := 55) (k2 := 29) C (f_RX11_27_11) (xl (by decide)) (rfl) (rfl) dX11_back_3 ?_
  refine j_getI (k := 29) C (f_RX11_212_5) (xl (by decide)) (rfl) dX11_back_6 ?_
  refine j_callS C [.int (z), .int (0), .int (V 29 0)] [] (k_X11_isWithin l (xS ad tk nt) V (z) (0) (V 29 0)) v_RX11_143 ⟨rfl, rfl, Nat.le_of_ble_eq_true rfl, Nat.le_of_ble_eq_true rfl⟩ rfl hl.1 rfl (Nat.le_of_ble_eq_true rfl) ⟨Nat.le_of_ble_eq_true rfl, Nat.le_of_ble_eq_true rfl⟩ dX11_back_9 (kI fun x_1_ U1 h_1_ => ?_)
  obtain ⟨eU1, h_1_⟩ := h_1_
  have eU1 := eU1.symm
  subst eU1
  refine j_if_ne (tgt := 18) C dX11_back_12 (by decide) (fun c_2_ => ?_) (fun c_2_ => ?_)
  · skip
    have b2 := Decidable.not_not.mp (mt bI_0.mpr (h_1_ ▸ c_2_))
    refine j_aload_n C dX11_back_18 rfl (lv_at hl 0 rfl) ?_
    refine j_getR (k := 55) (k2 := 29) C (f_RX11_27_11) (xl (by decide)) (rfl) (rfl) dX11_back_19 ?_
    refine j_dup C dX11_back_22 rfl ?_
    refine j_getI (k := 29) C (f_RX11_212_5) (xl (by decide)) (rfl) dX11_back_23 ?_
    refine j_iload_n C dX11_back_26 rfl (lv_at hl 1 rfl) ?_
    refine j_isub C dX11_back_27 ?_
    refine j_putI (k := 29) C (f_RX11_212_5) p_5_0 (xl (by decide)) (rfl) dX11_back_28 (fun V1 eV1 => ?_)
    refine j_aload_n C dX11_back_31 rfl (lv_at hl 0 rfl) ?_
    refine j_getR (k := 55) (k2 := 29) C (f_RX11_27_11) (xl (by decide)) (rfl) (rfl) dX11_back_32 ?_
    refine j_getI (k := 29) C (f_RX11_212_5) (xl (by decide)) (rfl) dX11_back_35 ?_
    refine j_iret C ⟨rfl, _, rfl, ?_⟩ dX11_back_38
    rw [hX.2.2.2.2.1] at b2 eV1
    have hc8 := hX.2.2.2.2.2.1
    obtain ⟨m8, hm8, em8⟩ := nI_of2 (nI_toInt (n := c_0_) (by omega)) (Int32.not_lt.mpr b2.1) b2.2
    have e7 : nI c_0_ - z = nI (c_0_ - z.toNatClampNeg) := by rw [em8, nI_clamp (by omega), pk_sub hm8]
    rw [e7] at eV1
    refine ⟨?_, ?_⟩
    · rw [if_pos b2]; exact eV1
    · rw [if_pos b2, eV1, up2_s]
  · skip
    have b2 := bI_0.mp (h_1_ ▸ c_2_)
    refine j_bipush (v := (-2)) C dX11_back_15 (by decide) ?_
    refine j_iret C ⟨rfl, _, rfl, ?_⟩ dX11_back_17
    rw [hX.2.2.2.2.1] at b2
    refine ⟨?_, ?_⟩ <;> rw [if_neg b2]
abbrev rm_X11_many : Room := { frames := 2, cells := 0, slots := 0, locals := 44 }
set_option maxHeartbeats 4000000 in
set_option maxRecDepth 100000 in
theorem k_X11_many (l : Launch) (ad tk : Nat → Nat) (nt : Nat) (V : Vt) (ng : Nat) (rr : Nat → Nat) (c_0_ : Nat) (hX : XI tk nt V ng rr c_0_) (z : Int32) : Ct l yX11_many cX11_many 2 (some .int) rm_X11_many (xS ad tk nt) V [.ref (ad (55)), .int (z)] (rI fun x V2 => V2 = V ∧ x = if z = 0 then V 0 1 else if z = 1 then V 55 8 else if z = 2 then V 0 0 else if z = 3 then nI (sumN rr ng) else if z = 4 then V 29 0 else -2) := by
  refine Ct_of (by decide) (Nat.le_of_ble_eq_true rfl) ?_
  intro p e s m below meth c A D cy ls C hl
  have hl : lv_has ls 2 [(0, .ref (ad (55))), (1, .int (z))] := hl
  have ng4 := hX.1.2.1
  have nt5 := hX.2.2.1
  refine j_iload_n C dX11_many_0 rfl (lv_at hl 1 rfl) ?_
  rcases sw_in (z) 5 (by decide) with ⟨js1, hjs1, s_1_⟩ | s_1_
  · rcases (show js1 = 0 ∨ js1 = 1 ∨ js1 = 2 ∨ js1 = 3 ∨ js1 = 4 by omega) with rfl | rfl | rfl | rfl | rfl
    · refine j_tableIn (off := 35) (tgt := 36) C dX11_many_1 (by rw [s_1_]; decide) (by rw [s_1_]; decide) (by rw [s_1_]; rfl) (by decide) ?_
      refine j_aload_n C dX11_many_36 rfl (lv_at hl 0 rfl) ?_
      refine j_getR (k := 55) (k2 := 0) C (f_RX11_12_11) (xl (by decide)) (rfl) (rfl) dX11_many_37 ?_
      refine j_getI (k := 0) C (f_RX11_266_0) (xl (xC (tk := tk) (nt := nt) (k := 0) (Or.inl rfl)).1.1) ((xC (tk := tk) (nt := nt) (k := 0) (Or.inl rfl)).2.1) dX11_many_40 ?_
      refine j_iret C ⟨rfl, _, rfl, ?_⟩ dX11_many_43
      refine ⟨rfl, ?_⟩
      rw [if_pos (show z = 0 from s_1_)]
    · refine j_tableIn (off := 43) (tgt := 44) C dX11_many_1 (by rw [s_1_]; decide) (by rw [s_1_]; decide) (by rw [s_1_]; rfl) (by decide) ?_
      refine j_aload_n C dX11_many_44 rfl (lv_at hl 0 rfl) ?_
      refine j_getI (k := 55) C (f_RX11_96_11) (xl (by decide)) (rfl) dX11_many_45 ?_
      refine j_iret C ⟨rfl, _, rfl, ?_⟩ dX11_many_48
      refine ⟨rfl, ?_⟩
      rw [if_neg (fun q => by rw [q] at s_1_; revert s_1_; decide)]
      rw [if_pos (show z = 1 from s_1_)]
    · refine j_tableIn (off := 48) (tgt := 49) C dX11_many_1 (by rw [s_1_]; decide) (by rw [s_1_]; decide) (by rw [s_1_]; rfl) (by decide) ?_
      refine j_aload_n C dX11_many_49 rfl (lv_at hl 0 rfl) ?_
      refine j_getR (k := 55) (k2 := 0) C (f_RX11_12_11) (xl (by decide)) (rfl) (rfl) dX11_many_50 ?_
      refine j_getI (k := 0) C (f_RX11_147_0) (xl (xC (tk := tk) (nt := nt) (k := 0) (Or.inl rfl)).1.1) ((xC (tk := tk) (nt := nt) (k := 0) (Or.inl rfl)).2.1) dX11_many_53 ?_
      refine j_iret C ⟨rfl, _, rfl, ?_⟩ dX11_many_56
      refine ⟨rfl, ?_⟩
      rw [if_neg (fun q => by rw [q] at s_1_; revert s_1_; decide)]
      rw [if_neg (fun q => by rw [q] at s_1_; revert s_1_; decide)]
      rw [if_pos (show z = 2 from s_1_)]
    · refine j_tableIn (off := 56) (tgt := 57) C dX11_many_1 (by rw [s_1_]; decide) (by rw [s_1_]; decide) (by rw [s_1_]; rfl) (by decide) ?_
      refine j_aload_n C dX11_many_57 rfl (lv_at hl 0 rfl) ?_
      refine j_getR (k := 55) (k2 := 0) C (f_RX11_12_11) (xl (by decide)) (rfl) (rfl) dX11_many_58 ?_
      refine j_callV (k := 0) C [] [] (k_X0_ringsInAll l ad tk nt V 0 (Or.inl rfl) ng rr hX.1 ) v_RX11_269 (xl (xC (tk := tk) (nt := nt) (k := 0) (Or.inl rfl)).1.1) ((xC (tk := tk) (nt := nt) (k := 0) (Or.inl rfl)).2.1) rfl ⟨rfl, rfl, Nat.le_of_ble_eq_true rfl, Nat.le_of_ble_eq_true rfl⟩ rfl hl.1 rfl (Nat.le_of_ble_eq_true rfl) ⟨Nat.le_of_ble_eq_true rfl, Nat.le_of_ble_eq_true rfl⟩ dX11_many_61 (kI fun x_2_ U2 h_2_ => ?_)
      obtain ⟨eU2, h_2_⟩ := h_2_
      have eU2 := eU2.symm
      subst eU2
      refine j_iret C ⟨rfl, _, rfl, ?_⟩ dX11_many_64
      refine ⟨rfl, ?_⟩
      rw [if_neg (fun q => by rw [q] at s_1_; revert s_1_; decide)]
      rw [if_neg (fun q => by rw [q] at s_1_; revert s_1_; decide)]
      rw [if_neg (fun q => by rw [q] at s_1_; revert s_1_; decide)]
      rw [if_pos (show z = 3 from s_1_)]
      exact h_2_
    · refine j_tableIn (off := 64) (tgt := 65) C dX11_many_1 (by rw [s_1_]; decide) (by rw [s_1_]; decide) (by rw [s_1_]; rfl) (by decide) ?_
      refine j_aload_n C dX11_many_65 rfl (lv_at hl 0 rfl) ?_
      refine j_getR (k := 55) (k2 := 29) C (f_RX11_27_11) (xl (by decide)) (rfl) (rfl) dX11_many_66 ?_
      refine j_getI (k := 29) C (f_RX11_212_5) (xl (by decide)) (rfl) dX11_many_69 ?_
      refine j_iret C ⟨rfl, _, rfl, ?_⟩ dX11_many_72
      refine ⟨rfl, ?_⟩
      rw [if_neg (fun q => by rw [q] at s_1_; revert s_1_; decide)]
      rw [if_neg (fun q => by rw [q] at s_1_; revert s_1_; decide)]
      rw [if_neg (fun q => by rw [q] at s_1_; revert s_1_; decide)]
      rw [if_neg (fun q => by rw [q] at s_1_; revert s_1_; decide)]
      rw [if_pos (show z = 4 from s_1_)]
  · refine j_tableOut (tgt := 73) C dX11_many_1 (by omega) (by decide) ?_
    refine j_bipush (v := (-2)) C dX11_many_73 (by decide) ?_
    refine j_iret C ⟨rfl, _, rfl, ?_⟩ dX11_many_75
    refine ⟨rfl, ?_⟩
    rw [if_neg (fun q => by rw [q] at s_1_; revert s_1_; decide)]
    rw [if_neg (fun q => by rw [q] at s_1_; revert s_1_; decide)]
    rw [if_neg (fun q => by rw [q] at s_1_; revert s_1_; decide)]
    rw [if_neg (fun q => by rw [q] at s_1_; revert s_1_; decide)]
    rw [if_neg (fun q => by rw [q] at s_1_; revert s_1_; decide)]
def telV (V : Vt) (k : Nat) : Vt := if k = 8 then lvT (lvT (lvT (lvT V 3) 2) 1) 1 else if k = 3 then lvT (lvT V 2) 1 else lvT V 1
def telX (a : Int32) (k : Nat) : Int32 := if k = 8 then a + 100 + a else if k = 3 then a + 100 else a
abbrev rm_X11_tell : Room := { frames := 5, cells := 0, slots := 0, locals := 106 }
set_option maxHeartbeats 4000000 in
set_option maxRecDepth 100000 in
theorem k_X11_tell (l : Launch) (ad tk : Nat → Nat) (nt : Nat) (V : Vt) (ng : Nat) (rr : Nat → Nat) (c_0_ : Nat) (hX : XI tk nt V ng rr c_0_) (z0 : Int32) : Ct l yX11_tell cX11_tell 3 (some .int) rm_X11_tell (xS ad tk nt) V [.ref (ad (55)), .int (z0)] (rI fun x V2 => (V2 = if ¬ z0 < 0 ∧ z0 < nI nt then telV V (tk z0.toNatClampNeg) else V) ∧ x = if ¬ z0 < 0 ∧ z0 < nI nt then telX (V (56 + z0.toNatClampNeg) 1) (tk z0.toNatClampNeg) else -1) := by
  refine Ct_of (by decide) (Nat.le_of_ble_eq_true rfl) ?_
  intro p e s m below meth c A D cy ls C hl
  have hl : lv_has ls 3 [(0, .ref (ad (55))), (1, .int (z0))] := hl
  have ng4 := hX.1.2.1
  have nt5 := hX.2.2.1
  refine j_aload_n C dX11_tell_0 rfl (lv_at hl 0 rfl) ?_
  refine j_iload_n C dX11_tell_1 rfl (lv_at hl 1 rfl) ?_
  refine j_callV (k := 55) C [.int (z0)] [] (k_X11_throwerOf l ad tk nt V hX.2.1 hX.2.2.1 (z0)) v_RX11_124 (xl (by decide)) (rfl) rfl ⟨rfl, rfl, Nat.le_of_ble_eq_true rfl, Nat.le_of_ble_eq_true rfl⟩ rfl hl.1 rfl (Nat.le_of_ble_eq_true rfl) ⟨Nat.le_of_ble_eq_true rfl, Nat.le_of_ble_eq_true rfl⟩ dX11_tell_2 (kA fun x_1_ U1 h_1_ => ?_)
  obtain ⟨eU1, h_1_⟩ := h_1_
  have eU1 := eU1.symm
  subst eU1
  rcases h_1_ with ⟨j_1_, hj1, ej1, ev1⟩ | ⟨ho1, ev1⟩
  · subst ev1
    refine j_astore_n (lv2 := [(2, .ref (ad (56 + j_1_))), (0, .ref (ad (55))), (1, .int (z0))]) C dX11_tell_5 rfl hl (by decide) rfl (fun ls hl => ?_)
    refine j_aload_n C dX11_tell_6 rfl (lv_at hl 0 rfl) ?_
    refine j_ifnonnull (tgt := 14) C dX11_tell_7 (by decide) ?_
    refine j_aload_n C dX11_tell_14 rfl (lv_at hl 0 rfl) ?_
    refine j_aload_n C dX11_tell_15 rfl (lv_at hl 1 rfl) ?_
    refine j_getR (k := 55) (k2 := 42) C (f_RX11_40_11) (xl (by decide)) (rfl) (rfl) dX11_tell_16 ?_
    rcases (show isT (xk tk (56 + j_1_)) from xT (XI_T hX hj1)) with t2 | t2 | t2
    · skip
      refine j_callV (k := 56 + j_1_) C [.ref (ad (42))] [] (k_X6_telling l ad tk nt V j_1_ hj1 (XI_T hX hj1) ) v_RX11_252 (xt hj1) t2 rfl ⟨rfl, rfl, Nat.le_of_ble_eq_true rfl, Nat.le_of_ble_eq_true rfl⟩ rfl hl.1 rfl (Nat.le_of_ble_eq_true rfl) ⟨Nat.le_of_ble_eq_true rfl, Nat.le_of_ble_eq_true rfl⟩ dX11_tell_19 (kI fun x_3_ U3 h_3_ => ?_)
      obtain ⟨eU3, h_3_⟩ := h_3_
      refine j_iret C ⟨rfl, _, rfl, ?_⟩ dX11_tell_22
      obtain ⟨hin1, hcl1⟩ := inz ej1 hj1 (by omega)
      rw [xk_t] at t2
      refine ⟨?_, ?_⟩
      · rw [if_pos hin1, hcl1, eU3]
        simp [telV, telX, t2]
      · rw [if_pos hin1, hcl1, h_3_]
        simp [telV, telX, t2]
    · skip
      refine j_callO (k := 56 + j_1_) C [.ref (ad (42))] [] (k_X3_telling l ad tk nt V j_1_ hj1 (XI_T hX hj1) ) o_RX11_252_3 (xt hj1) t2 rfl ⟨rfl, rfl, Nat.le_of_ble_eq_true rfl, Nat.le_of_ble_eq_true rfl⟩ rfl hl.1 rfl (Nat.le_of_ble_eq_true rfl) ⟨Nat.le_of_ble_eq_true rfl, Nat.le_of_ble_eq_true rfl⟩ dX11_tell_19 (kI fun x_4_ U4 h_4_ => ?_)
      obtain ⟨eU4, h_4_⟩ := h_4_
      refine j_iret C ⟨rfl, _, rfl, ?_⟩ dX11_tell_22
      obtain ⟨hin1, hcl1⟩ := inz ej1 hj1 (by omega)
      rw [xk_t] at t2
      refine ⟨?_, ?_⟩
      · rw [if_pos hin1, hcl1, eU4]
        simp [telV, telX, t2]
      · rw [if_pos hin1, hcl1, h_4_]
        simp [telV, telX, t2]
    · skip
      refine j_callO (k := 56 + j_1_) C [.ref (ad (42))] [] (k_X8_telling l ad tk nt V j_1_ hj1 (XI_T hX hj1) (by rw [← xk_t tk, t2])) o_RX11_252_8 (xt hj1) t2 rfl ⟨rfl, rfl, Nat.le_of_ble_eq_true rfl, Nat.le_of_ble_eq_true rfl⟩ rfl hl.1 rfl (Nat.le_of_ble_eq_true rfl) ⟨Nat.le_of_ble_eq_true rfl, Nat.le_of_ble_eq_true rfl⟩ dX11_tell_19 (kI fun x_5_ U5 h_5_ => ?_)
      obtain ⟨eU5, h_5_⟩ := h_5_
      refine j_iret C ⟨rfl, _, rfl, ?_⟩ dX11_tell_22
      obtain ⟨hin1, hcl1⟩ := inz ej1 hj1 (by omega)
      rw [xk_t] at t2
      refine ⟨?_, ?_⟩
      · rw [if_pos hin1, hcl1, eU5]
        simp [telV, telX, t2]
      · rw [if_pos hin1, hcl1, h_5_]
        simp [telV, telX, t2]
  · subst ev1
    refine j_astore_nN (lv2 := [(2, .null), (0, .ref (ad (55))), (1, .int (z0))]) C dX11_tell_5 rfl hl (by decide) rfl (fun ls hl => ?_)
    refine j_aload_nN C dX11_tell_6 rfl (lv_at hl 0 rfl) ?_
    refine j_ifnonnullN C dX11_tell_7 ?_
    refine j_iconst (v := (-1)) C dX11_tell_10 (by decide) ?_
    refine j_goto (tgt := 22) C dX11_tell_11 (by decide) ?_
    refine j_iret C ⟨rfl, _, rfl, ?_⟩ dX11_tell_22
    have hot1 := outR ho1
    refine ⟨?_, ?_⟩ <;> rw [if_neg hot1]
abbrev rm_X11_cheer : Room := { frames := 2, cells := 0, slots := 0, locals := 42 }
set_option maxHeartbeats 4000000 in
set_option maxRecDepth 100000 in
theorem k_X11_cheer (l : Launch) (ad tk : Nat → Nat) (nt : Nat) (V : Vt) (ng : Nat) (rr : Nat → Nat) (c_0_ : Nat) (hX : XI tk nt V ng rr c_0_) (z0 : Int32) : Ct l yX11_cheer cX11_cheer 3 (some .int) rm_X11_cheer (xS ad tk nt) V [.ref (ad (55)), .int (z0)] (rI fun x V2 => (V2 = if ¬ z0 < 0 ∧ z0 < nI nt then (if tk z0.toNatClampNeg = 8 then lvT V 5 else lvT V 4) else V) ∧ x = if ¬ z0 < 0 ∧ z0 < nI nt then (if tk z0.toNatClampNeg = 8 then 50 else z0) else -1) := by
  refine Ct_of (by decide) (Nat.le_of_ble_eq_true rfl) ?_
  intro p e s m below meth c A D cy ls C hl
  have hl : lv_has ls 3 [(0, .ref (ad (55))), (1, .int (z0))] := hl
  have ng4 := hX.1.2.1
  have nt5 := hX.2.2.1
  refine j_aload_n C dX11_cheer_0 rfl (lv_at hl 0 rfl) ?_
  refine j_iload_n C dX11_cheer_1 rfl (lv_at hl 1 rfl) ?_
  refine j_callV (k := 55) C [.int (z0)] [] (k_X11_throwerOf l ad tk nt V hX.2.1 hX.2.2.1 (z0)) v_RX11_124 (xl (by decide)) (rfl) rfl ⟨rfl, rfl, Nat.le_of_ble_eq_true rfl, Nat.le_of_ble_eq_true rfl⟩ rfl hl.1 rfl (Nat.le_of_ble_eq_true rfl) ⟨Nat.le_of_ble_eq_true rfl, Nat.le_of_ble_eq_true rfl⟩ dX11_cheer_2 (kA fun x_1_ U1 h_1_ => ?_)
  obtain ⟨eU1, h_1_⟩ := h_1_
  have eU1 := eU1.symm
  subst eU1
  rcases h_1_ with ⟨j_1_, hj1, ej1, ev1⟩ | ⟨ho1, ev1⟩
  · subst ev1
    refine j_astore_n (lv2 := [(2, .ref (ad (56 + j_1_))), (0, .ref (ad (55))), (1, .int (z0))]) C dX11_cheer_5 rfl hl (by decide) rfl (fun ls hl => ?_)
    refine j_aload_n C dX11_cheer_6 rfl (lv_at hl 0 rfl) ?_
    refine j_ifnonnull (tgt := 14) C dX11_cheer_7 (by decide) ?_
    refine j_aload_n C dX11_cheer_14 rfl (lv_at hl 0 rfl) ?_
    refine j_aload_n C dX11_cheer_15 rfl (lv_at hl 1 rfl) ?_
    refine j_getR (k := 55) (k2 := 42) C (f_RX11_40_11) (xl (by decide)) (rfl) (rfl) dX11_cheer_16 ?_
    rcases (show isT (xk tk (56 + j_1_)) from xT (XI_T hX hj1)) with t2 | t2 | t2
    · skip
      refine j_callV (k := 56 + j_1_) C [.ref (ad (42))] [] (k_X6_cheering l ad tk nt V j_1_ hj1 (XI_T hX hj1) ) v_RX11_256 (xt hj1) t2 rfl ⟨rfl, rfl, Nat.le_of_ble_eq_true rfl, Nat.le_of_ble_eq_true rfl⟩ rfl hl.1 rfl (Nat.le_of_ble_eq_true rfl) ⟨Nat.le_of_ble_eq_true rfl, Nat.le_of_ble_eq_true rfl⟩ dX11_cheer_19 (kI fun x_3_ U3 h_3_ => ?_)
      obtain ⟨eU3, h_3_⟩ := h_3_
      refine j_iret C ⟨rfl, _, rfl, ?_⟩ dX11_cheer_22
      obtain ⟨hin1, hcl1⟩ := inz ej1 hj1 (by omega)
      rw [xk_t] at t2
      refine ⟨?_, ?_⟩
      · rw [if_pos hin1, hcl1, eU3]
        simp [(hX.2.2.2.1 _ hj1).2, ej1, t2]
      · rw [if_pos hin1, hcl1, h_3_]
        simp [(hX.2.2.2.1 _ hj1).2, ej1, t2]
    · skip
      refine j_callO (k := 56 + j_1_) C [.ref (ad (42))] [] (k_X6_cheering l ad tk nt V j_1_ hj1 (XI_T hX hj1) ) o_RX11_256_3 (xt hj1) t2 rfl ⟨rfl, rfl, Nat.le_of_ble_eq_true rfl, Nat.le_of_ble_eq_true rfl⟩ rfl hl.1 rfl (Nat.le_of_ble_eq_true rfl) ⟨Nat.le_of_ble_eq_true rfl, Nat.le_of_ble_eq_true rfl⟩ dX11_cheer_19 (kI fun x_4_ U4 h_4_ => ?_)
      obtain ⟨eU4, h_4_⟩ := h_4_
      refine j_iret C ⟨rfl, _, rfl, ?_⟩ dX11_cheer_22
      obtain ⟨hin1, hcl1⟩ := inz ej1 hj1 (by omega)
      rw [xk_t] at t2
      refine ⟨?_, ?_⟩
      · rw [if_pos hin1, hcl1, eU4]
        simp [(hX.2.2.2.1 _ hj1).2, ej1, t2]
      · rw [if_pos hin1, hcl1, h_4_]
        simp [(hX.2.2.2.1 _ hj1).2, ej1, t2]
    · skip
      refine j_callO (k := 56 + j_1_) C [.ref (ad (42))] [] (k_X8_cheering l ad tk nt V j_1_ hj1 (XI_T hX hj1) ) o_RX11_256_8 (xt hj1) t2 rfl ⟨rfl, rfl, Nat.le_of_ble_eq_true rfl, Nat.le_of_ble_eq_true rfl⟩ rfl hl.1 rfl (Nat.le_of_ble_eq_true rfl) ⟨Nat.le_of_ble_eq_true rfl, Nat.le_of_ble_eq_true rfl⟩ dX11_cheer_19 (kI fun x_5_ U5 h_5_ => ?_)
      obtain ⟨eU5, h_5_⟩ := h_5_
      refine j_iret C ⟨rfl, _, rfl, ?_⟩ dX11_cheer_22
      obtain ⟨hin1, hcl1⟩ := inz ej1 hj1 (by omega)
      rw [xk_t] at t2
      refine ⟨?_, ?_⟩
      · rw [if_pos hin1, hcl1, eU5]
        simp [(hX.2.2.2.1 _ hj1).2, ej1, t2]
      · rw [if_pos hin1, hcl1, h_5_]
        simp [(hX.2.2.2.1 _ hj1).2, ej1, t2]
  · subst ev1
    refine j_astore_nN (lv2 := [(2, .null), (0, .ref (ad (55))), (1, .int (z0))]) C dX11_cheer_5 rfl hl (by decide) rfl (fun ls hl => ?_)
    refine j_aload_nN C dX11_cheer_6 rfl (lv_at hl 0 rfl) ?_
    refine j_ifnonnullN C dX11_cheer_7 ?_
    refine j_iconst (v := (-1)) C dX11_cheer_10 (by decide) ?_
    refine j_goto (tgt := 22) C dX11_cheer_11 (by decide) ?_
    refine j_iret C ⟨rfl, _, rfl, ?_⟩ dX11_cheer_22
    have hot1 := outR ho1
    refine ⟨?_, ?_⟩ <;> rw [if_neg hot1]
