def lvT (V : Vt) (b : Int32) : Vt := up2 V 42 0 (31 * V 42 0 + b)
abbrev rm_X10_leave : Room := { frames := 0, cells := 0, slots := 0, locals := 0 }
set_option maxHeartbeats 4000000 in
set_option maxRecDepth 100000 in
theorem k_X10_leave (l : Launch) (ad tk : Nat → Nat) (nt : Nat) (V : Vt) (z : Int32) : Ct l yX10_leave cX10_leave 2 none rm_X10_leave (xS ad tk nt) V [.ref (ad (42)), .int (z)] (rU fun V2 => V2 = lvT V z) := by
  refine Ct_of (by decide) (Nat.le_of_ble_eq_true rfl) ?_
  intro p e s m below meth c A D cy ls C hl
  have hl : lv_has ls 2 [(0, .ref (ad (42))), (1, .int (z))] := hl
  refine j_aload_n C dX10_leave_0 rfl (lv_at hl 0 rfl) ?_
  refine j_bipush (v := 31) C dX10_leave_1 (by decide) ?_
  refine j_aload_n C dX10_leave_3 rfl (lv_at hl 0 rfl) ?_
  refine j_getI (k := 42) C (f_RX10_7_10) (xl (by decide)) (rfl) dX10_leave_4 ?_
  refine j_imul C dX10_leave_7 ?_
  refine j_iload_n C dX10_leave_8 rfl (lv_at hl 1 rfl) ?_
  refine j_iadd C dX10_leave_9 ?_
  refine j_putI (k := 42) C (f_RX10_7_10) p_10_0 (xl (by decide)) (rfl) dX10_leave_10 (fun V1 eV1 => ?_)
  refine j_vret C ⟨rfl, rfl, ?_⟩ dX10_leave_13
  subst eV1
  rfl
abbrev rm_X6_kind : Room := { frames := 0, cells := 0, slots := 0, locals := 0 }
set_option maxHeartbeats 4000000 in
set_option maxRecDepth 100000 in
theorem k_X6_kind (l : Launch) (σ : Sh) (V : Vt) (a : Nat) : Ct l yX6_kind cX6_kind 1 (some .int) rm_X6_kind σ V [.ref ( (a))] (rI fun x V2 => V2 = V ∧ x = 0) := by
  refine Ct_of (by decide) (Nat.le_of_ble_eq_true rfl) ?_
  intro p e s m below meth c A D cy ls C hl
  have hl : lv_has ls 1 [(0, .ref ( (a)))] := hl
  refine j_iconst (v := 0) C dX6_kind_0 (by decide) ?_
  refine j_iret C ⟨rfl, _, rfl, ?_⟩ dX6_kind_1
  exact ⟨rfl, rfl⟩
abbrev rm_X3_kind : Room := { frames := 0, cells := 0, slots := 0, locals := 0 }
set_option maxHeartbeats 4000000 in
set_option maxRecDepth 100000 in
theorem k_X3_kind (l : Launch) (σ : Sh) (V : Vt) (a : Nat) : Ct l yX3_kind cX3_kind 1 (some .int) rm_X3_kind σ V [.ref ( (a))] (rI fun x V2 => V2 = V ∧ x = 1) := by
  refine Ct_of (by decide) (Nat.le_of_ble_eq_true rfl) ?_
  intro p e s m below meth c A D cy ls C hl
  have hl : lv_has ls 1 [(0, .ref ( (a)))] := hl
  refine j_iconst (v := 1) C dX3_kind_0 (by decide) ?_
  refine j_iret C ⟨rfl, _, rfl, ?_⟩ dX3_kind_1
  exact ⟨rfl, rfl⟩
abbrev rm_X8_kind : Room := { frames := 0, cells := 0, slots := 0, locals := 0 }
set_option maxHeartbeats 4000000 in
set_option maxRecDepth 100000 in
theorem k_X8_kind (l : Launch) (σ : Sh) (V : Vt) (a : Nat) : Ct l yX8_kind cX8_kind 1 (some .int) rm_X8_kind σ V [.ref ( (a))] (rI fun x V2 => V2 = V ∧ x = 2) := by
  refine Ct_of (by decide) (Nat.le_of_ble_eq_true rfl) ?_
  intro p e s m below meth c A D cy ls C hl
  have hl : lv_has ls 1 [(0, .ref ( (a)))] := hl
  refine j_iconst (v := 2) C dX8_kind_0 (by decide) ?_
  refine j_iret C ⟨rfl, _, rfl, ?_⟩ dX8_kind_1
  exact ⟨rfl, rfl⟩
def kdI (c : Nat) : Int32 := if c = 3 then 1 else if c = 8 then 2 else 0
theorem xT {tk : Nat → Nat} {t : Nat} (h : isT (tk t)) : isT (xk tk (56 + t)) := by rw [xk_t]; exact h
abbrev rm_X6_reach : Room := { frames := 1, cells := 0, slots := 0, locals := 21 }
set_option maxHeartbeats 4000000 in
set_option maxRecDepth 100000 in
theorem k_X6_reach (l : Launch) (ad tk : Nat → Nat) (nt : Nat) (V : Vt) (t : Nat) (ht : t < nt) (hT : isT (tk t))  : Ct l yX6_reach cX6_reach 1 (some .int) rm_X6_reach (xS ad tk nt) V [.ref (ad (56 + t))] (rI fun x V2 => V2 = V ∧ x = rch (kdI (tk t)) (V (56 + t) 1)) := by
  refine Ct_of (by decide) (Nat.le_of_ble_eq_true rfl) ?_
  intro p e s m below meth c A D cy ls C hl
  have hl : lv_has ls 1 [(0, .ref (ad (56 + t)))] := hl
  refine j_aload_n C dX6_reach_0 rfl (lv_at hl 0 rfl) ?_
  rcases (show isT (xk tk (56 + t)) from xT hT) with t1 | t1 | t1
  · skip
    refine j_callV (k := 56 + t) C [] [] (k_X6_kind l (xS ad tk nt) V (ad (56 + t))) v_RX6_18 (xt ht) t1 rfl ⟨rfl, rfl, Nat.le_of_ble_eq_true rfl, Nat.le_of_ble_eq_true rfl⟩ rfl hl.1 rfl (Nat.le_of_ble_eq_true rfl) ⟨Nat.le_of_ble_eq_true rfl, Nat.le_of_ble_eq_true rfl⟩ dX6_reach_1 (kI fun x_2_ U2 h_2_ => ?_)
    obtain ⟨eU2, h_2_⟩ := h_2_
    have eU2 := eU2.symm
    subst eU2
    refine j_aload_n C dX6_reach_4 rfl (lv_at hl 0 rfl) ?_
    refine j_getT (k := 56 + t) C f_RX6_15_6 f_RX6_15_3 f_RX6_15_8 (xt ht) (xT hT) dX6_reach_5 ?_
    refine j_callN C [.int (x_2_), .int (V (56 + t) 1)] [] (k_X11_reachOf l (xS ad tk nt) V (x_2_) (V (56 + t) 1)) v_RX6_22 ⟨rfl, rfl, Nat.le_of_ble_eq_true rfl, Nat.le_of_ble_eq_true rfl⟩ rfl hl.1 rfl (Nat.le_of_ble_eq_true rfl) ⟨Nat.le_of_ble_eq_true rfl, Nat.le_of_ble_eq_true rfl⟩ dX6_reach_8 (kI fun x_3_ U3 h_3_ => ?_)
    obtain ⟨eU3, h_3_⟩ := h_3_
    have eU3 := eU3.symm
    subst eU3
    refine j_iret C ⟨rfl, _, rfl, ?_⟩ dX6_reach_11
    refine ⟨rfl, ?_⟩
    rw [xk_t] at t1
    rw [h_3_, h_2_, t1]
    rfl
  · skip
    refine j_callO (k := 56 + t) C [] [] (k_X3_kind l (xS ad tk nt) V (ad (56 + t))) o_RX6_18_3 (xt ht) t1 rfl ⟨rfl, rfl, Nat.le_of_ble_eq_true rfl, Nat.le_of_ble_eq_true rfl⟩ rfl hl.1 rfl (Nat.le_of_ble_eq_true rfl) ⟨Nat.le_of_ble_eq_true rfl, Nat.le_of_ble_eq_true rfl⟩ dX6_reach_1 (kI fun x_4_ U4 h_4_ => ?_)
    obtain ⟨eU4, h_4_⟩ := h_4_
    have eU4 := eU4.symm
    subst eU4
    refine j_aload_n C dX6_reach_4 rfl (lv_at hl 0 rfl) ?_
    refine j_getT (k := 56 + t) C f_RX6_15_6 f_RX6_15_3 f_RX6_15_8 (xt ht) (xT hT) dX6_reach_5 ?_
    refine j_callN C [.int (x_4_), .int (V (56 + t) 1)] [] (k_X11_reachOf l (xS ad tk nt) V (x_4_) (V (56 + t) 1)) v_RX6_22 ⟨rfl, rfl, Nat.le_of_ble_eq_true rfl, Nat.le_of_ble_eq_true rfl⟩ rfl hl.1 rfl (Nat.le_of_ble_eq_true rfl) ⟨Nat.le_of_ble_eq_true rfl, Nat.le_of_ble_eq_true rfl⟩ dX6_reach_8 (kI fun x_5_ U5 h_5_ => ?_)
    obtain ⟨eU5, h_5_⟩ := h_5_
    have eU5 := eU5.symm
    subst eU5
    refine j_iret C ⟨rfl, _, rfl, ?_⟩ dX6_reach_11
    refine ⟨rfl, ?_⟩
    rw [xk_t] at t1
    rw [h_5_, h_4_, t1]
    rfl
  · skip
    refine j_callO (k := 56 + t) C [] [] (k_X8_kind l (xS ad tk nt) V (ad (56 + t))) o_RX6_18_8 (xt ht) t1 rfl ⟨rfl, rfl, Nat.le_of_ble_eq_true rfl, Nat.le_of_ble_eq_true rfl⟩ rfl hl.1 rfl (Nat.le_of_ble_eq_true rfl) ⟨Nat.le_of_ble_eq_true rfl, Nat.le_of_ble_eq_true rfl⟩ dX6_reach_1 (kI fun x_6_ U6 h_6_ => ?_)
    obtain ⟨eU6, h_6_⟩ := h_6_
    have eU6 := eU6.symm
    subst eU6
    refine j_aload_n C dX6_reach_4 rfl (lv_at hl 0 rfl) ?_
    refine j_getT (k := 56 + t) C f_RX6_15_6 f_RX6_15_3 f_RX6_15_8 (xt ht) (xT hT) dX6_reach_5 ?_
    refine j_callN C [.int (x_6_), .int (V (56 + t) 1)] [] (k_X11_reachOf l (xS ad tk nt) V (x_6_) (V (56 + t) 1)) v_RX6_22 ⟨rfl, rfl, Nat.le_of_ble_eq_true rfl, Nat.le_of_ble_eq_true rfl⟩ rfl hl.1 rfl (Nat.le_of_ble_eq_true rfl) ⟨Nat.le_of_ble_eq_true rfl, Nat.le_of_ble_eq_true rfl⟩ dX6_reach_8 (kI fun x_7_ U7 h_7_ => ?_)
    obtain ⟨eU7, h_7_⟩ := h_7_
    have eU7 := eU7.symm
    subst eU7
    refine j_iret C ⟨rfl, _, rfl, ?_⟩ dX6_reach_11
    refine ⟨rfl, ?_⟩
    rw [xk_t] at t1
    rw [h_7_, h_6_, t1]
    rfl
abbrev rm_X6_plainTelling : Room := { frames := 1, cells := 0, slots := 0, locals := 21 }
set_option maxHeartbeats 4000000 in
set_option maxRecDepth 100000 in
theorem k_X6_plainTelling (l : Launch) (ad tk : Nat → Nat) (nt : Nat) (V : Vt) (t : Nat) (ht : t < nt) (hT : isT (tk t))  : Ct l yX6_plainTelling cX6_plainTelling 2 (some .int) rm_X6_plainTelling (xS ad tk nt) V [.ref (ad (56 + t)), .ref (ad (42))] (rI fun x V2 => V2 = lvT V 1 ∧ x = V (56 + t) 1) := by
  refine Ct_of (by decide) (Nat.le_of_ble_eq_true rfl) ?_
  intro p e s m below meth c A D cy ls C hl
  have hl : lv_has ls 2 [(0, .ref (ad (56 + t))), (1, .ref (ad (42)))] := hl
  refine j_aload_n C dX6_plainTelling_0 rfl (lv_at hl 1 rfl) ?_
  refine j_iconst (v := 1) C dX6_plainTelling_1 (by decide) ?_
  refine j_callV (k := 42) C [.int (1)] [] (k_X10_leave l ad tk nt V  (1)) v_RX6_30 (xl (by decide)) (rfl) rfl ⟨rfl, rfl, Nat.le_of_ble_eq_true rfl, Nat.le_of_ble_eq_true rfl⟩ rfl hl.1 rfl (Nat.le_of_ble_eq_true rfl) ⟨Nat.le_of_ble_eq_true rfl, Nat.le_of_ble_eq_true rfl⟩ dX6_plainTelling_2 (kU fun U1 h_1_ => ?_)
  refine j_aload_n C dX6_plainTelling_5 rfl (lv_at hl 0 rfl) ?_
  refine j_getT (k := 56 + t) C f_RX6_15_6 f_RX6_15_3 f_RX6_15_8 (xt ht) (xT hT) dX6_plainTelling_6 ?_
  refine j_iret C ⟨rfl, _, rfl, ?_⟩ dX6_plainTelling_9
  refine ⟨h_1_, ?_⟩
  rw [h_1_]
  exact congrFun (up2_k _ _ (by omega)) 1
abbrev rm_X6_telling : Room := { frames := 2, cells := 0, slots := 0, locals := 42 }
set_option maxHeartbeats 4000000 in
set_option maxRecDepth 100000 in
theorem k_X6_telling (l : Launch) (ad tk : Nat → Nat) (nt : Nat) (V : Vt) (t : Nat) (ht : t < nt) (hT : isT (tk t))  : Ct l yX6_telling cX6_telling 2 (some .int) rm_X6_telling (xS ad tk nt) V [.ref (ad (56 + t)), .ref (ad (42))] (rI fun x V2 => V2 = lvT V 1 ∧ x = V (56 + t) 1) := by
  refine Ct_of (by decide) (Nat.le_of_ble_eq_true rfl) ?_
  intro p e s m below meth c A D cy ls C hl
  have hl : lv_has ls 2 [(0, .ref (ad (56 + t))), (1, .ref (ad (42)))] := hl
  refine j_aload_n C dX6_telling_0 rfl (lv_at hl 0 rfl) ?_
  refine j_aload_n C dX6_telling_1 rfl (lv_at hl 1 rfl) ?_
  refine j_callT (k := 56 + t) C [.ref (ad (42))] [] (k_X6_plainTelling l ad tk nt V t ht hT ) v_RX6_26 o_RX6_26_3 o_RX6_26_8 rfl (xt ht) (xT hT) ⟨rfl, rfl, Nat.le_of_ble_eq_true rfl, Nat.le_of_ble_eq_true rfl⟩ rfl hl.1 rfl (Nat.le_of_ble_eq_true rfl) ⟨Nat.le_of_ble_eq_true rfl, Nat.le_of_ble_eq_true rfl⟩ dX6_telling_2 (kI fun x_1_ U1 h_1_ => ?_)
  obtain ⟨eU1, h_1_⟩ := h_1_
  refine j_iret C ⟨rfl, _, rfl, ?_⟩ dX6_telling_5
  exact ⟨eU1, h_1_⟩
abbrev rm_X3_telling : Room := { frames := 3, cells := 0, slots := 0, locals := 63 }
set_option maxHeartbeats 4000000 in
set_option maxRecDepth 100000 in
theorem k_X3_telling (l : Launch) (ad tk : Nat → Nat) (nt : Nat) (V : Vt) (t : Nat) (ht : t < nt) (hT : isT (tk t))  : Ct l yX3_telling cX3_telling 2 (some .int) rm_X3_telling (xS ad tk nt) V [.ref (ad (56 + t)), .ref (ad (42))] (rI fun x V2 => V2 = lvT (lvT V 2) 1 ∧ x = V (56 + t) 1 + 100) := by
  refine Ct_of (by decide) (Nat.le_of_ble_eq_true rfl) ?_
  intro p e s m below meth c A D cy ls C hl
  have hl : lv_has ls 2 [(0, .ref (ad (56 + t))), (1, .ref (ad (42)))] := hl
  refine j_aload_n C dX3_telling_0 rfl (lv_at hl 1 rfl) ?_
  refine j_iconst (v := 2) C dX3_telling_1 (by decide) ?_
  refine j_callV (k := 42) C [.int (2)] [] (k_X10_leave l ad tk nt V  (2)) v_RX3_9 (xl (by decide)) (rfl) rfl ⟨rfl, rfl, Nat.le_of_ble_eq_true rfl, Nat.le_of_ble_eq_true rfl⟩ rfl hl.1 rfl (Nat.le_of_ble_eq_true rfl) ⟨Nat.le_of_ble_eq_true rfl, Nat.le_of_ble_eq_true rfl⟩ dX3_telling_2 (kU fun U1 h_1_ => ?_)
  refine j_aload_n C dX3_telling_5 rfl (lv_at hl 0 rfl) ?_
  refine j_aload_n C dX3_telling_6 rfl (lv_at hl 1 rfl) ?_
  refine j_callZ (k := 56 + t) C [.ref (ad (42))] [] (k_X6_telling l ad tk nt U1 t ht hT ) sz_RX3_15 (xt ht) (xk_t tk t) (by rcases hT with h | h | h <;> omega) ⟨rfl, rfl, Nat.le_of_ble_eq_true rfl, Nat.le_of_ble_eq_true rfl⟩ rfl hl.1 rfl (Nat.le_of_ble_eq_true rfl) ⟨Nat.le_of_ble_eq_true rfl, Nat.le_of_ble_eq_true rfl⟩ dX3_telling_7 (kI fun x_2_ U2 h_2_ => ?_)
  obtain ⟨eU2, h_2_⟩ := h_2_
  refine j_bipush (v := 100) C dX3_telling_10 (by decide) ?_
  refine j_iadd C dX3_telling_12 ?_
  refine j_iret C ⟨rfl, _, rfl, ?_⟩ dX3_telling_13
  refine ⟨by rw [eU2, h_1_], ?_⟩
  rw [h_2_, h_1_]
  exact congrArg (· + 100) (congrFun (up2_k _ _ (by omega)) 1)
abbrev rm_X8_telling : Room := { frames := 4, cells := 0, slots := 0, locals := 84 }
set_option maxHeartbeats 4000000 in
set_option maxRecDepth 100000 in
theorem k_X8_telling (l : Launch) (ad tk : Nat → Nat) (nt : Nat) (V : Vt) (t : Nat) (ht : t < nt) (hT : isT (tk t)) (h_8_ : tk t = 8)  : Ct l yX8_telling cX8_telling 3 (some .int) rm_X8_telling (xS ad tk nt) V [.ref (ad (56 + t)), .ref (ad (42))] (rI fun x V2 => V2 = lvT (lvT (lvT (lvT V 3) 2) 1) 1 ∧ x = V (56 + t) 1 + 100 + V (56 + t) 1) := by
  refine Ct_of (by decide) (Nat.le_of_ble_eq_true rfl) ?_
  intro p e s m below meth c A D cy ls C hl
  have hl : lv_has ls 3 [(0, .ref (ad (56 + t))), (1, .ref (ad (42)))] := hl
  refine j_aload_n C dX8_telling_0 rfl (lv_at hl 1 rfl) ?_
  refine j_iconst (v := 3) C dX8_telling_1 (by decide) ?_
  refine j_callV (k := 42) C [.int (3)] [] (k_X10_leave l ad tk nt V  (3)) v_RX8_9 (xl (by decide)) (rfl) rfl ⟨rfl, rfl, Nat.le_of_ble_eq_true rfl, Nat.le_of_ble_eq_true rfl⟩ rfl hl.1 rfl (Nat.le_of_ble_eq_true rfl) ⟨Nat.le_of_ble_eq_true rfl, Nat.le_of_ble_eq_true rfl⟩ dX8_telling_2 (kU fun U1 h_1_ => ?_)
  refine j_aload_n C dX8_telling_5 rfl (lv_at hl 0 rfl) ?_
  refine j_aload_n C dX8_telling_6 rfl (lv_at hl 1 rfl) ?_
  refine j_callZ (k := 56 + t) C [.ref (ad (42))] [] (k_X3_telling l ad tk nt U1 t ht hT ) sz_RX8_15 (xt ht) ((xk_t tk t).trans h_8_) (by decide) ⟨rfl, rfl, Nat.le_of_ble_eq_true rfl, Nat.le_of_ble_eq_true rfl⟩ rfl hl.1 rfl (Nat.le_of_ble_eq_true rfl) ⟨Nat.le_of_ble_eq_true rfl, Nat.le_of_ble_eq_true rfl⟩ dX8_telling_7 (kI fun x_2_ U2 h_2_ => ?_)
  obtain ⟨eU2, h_2_⟩ := h_2_
  refine j_istore_n (lv2 := [(2, .int (x_2_)), (0, .ref (ad (56 + t))), (1, .ref (ad (42)))]) C dX8_telling_10 rfl hl (by decide) rfl (fun ls hl => ?_)
  refine j_iload_n C dX8_telling_11 rfl (lv_at hl 0 rfl) ?_
  refine j_aload_n C dX8_telling_12 rfl (lv_at hl 1 rfl) ?_
  refine j_aload_n C dX8_telling_13 rfl (lv_at hl 2 rfl) ?_
  refine j_callO (k := 56 + t) C [.ref (ad (42))] [.int (x_2_)] (k_X6_plainTelling l ad tk nt U2 t ht hT ) o_RX8_19_8 (xt ht) ((xk_t tk t).trans h_8_) rfl ⟨rfl, rfl, Nat.le_of_ble_eq_true rfl, Nat.le_of_ble_eq_true rfl⟩ rfl hl.1 rfl (Nat.le_of_ble_eq_true rfl) ⟨Nat.le_of_ble_eq_true rfl, Nat.le_of_ble_eq_true rfl⟩ dX8_telling_14 (kI fun x_3_ U3 h_3_ => ?_)
  obtain ⟨eU3, h_3_⟩ := h_3_
  refine j_iadd C dX8_telling_17 ?_
  refine j_iret C ⟨rfl, _, rfl, ?_⟩ dX8_telling_18
  have e1 : ∀ (W : Vt) (b : Int32), lvT W b (56 + t) = W (56 + t) := fun W b => up2_k _ _ (by omega)
  refine ⟨by rw [eU3, eU2, h_1_], ?_⟩
  simp only [h_3_, h_2_, eU2, h_1_, e1]
abbrev rm_X6_cheering : Room := { frames := 1, cells := 0, slots := 0, locals := 21 }
set_option maxHeartbeats 4000000 in
set_option maxRecDepth 100000 in
theorem k_X6_cheering (l : Launch) (ad tk : Nat → Nat) (nt : Nat) (V : Vt) (t : Nat) (ht : t < nt) (hT : isT (tk t))  : Ct l yX6_cheering cX6_cheering 2 (some .int) rm_X6_cheering (xS ad tk nt) V [.ref (ad (56 + t)), .ref (ad (42))] (rI fun x V2 => V2 = lvT V 4 ∧ x = V (56 + t) 0) := by
  refine Ct_of (by decide) (Nat.le_of_ble_eq_true rfl) ?_
  intro p e s m below meth c A D cy ls C hl
  have hl : lv_has ls 2 [(0, .ref (ad (56 + t))), (1, .ref (ad (42)))] := hl
  refine j_aload_n C dX6_cheering_0 rfl (lv_at hl 1 rfl) ?_
  refine j_iconst (v := 4) C dX6_cheering_1 (by decide) ?_
  refine j_callV (k := 42) C [.int (4)] [] (k_X10_leave l ad tk nt V  (4)) v_RX6_30 (xl (by decide)) (rfl) rfl ⟨rfl, rfl, Nat.le_of_ble_eq_true rfl, Nat.le_of_ble_eq_true rfl⟩ rfl hl.1 rfl (Nat.le_of_ble_eq_true rfl) ⟨Nat.le_of_ble_eq_true rfl, Nat.le_of_ble_eq_true rfl⟩ dX6_cheering_2 (kU fun U1 h_1_ => ?_)
  refine j_aload_n C dX6_cheering_5 rfl (lv_at hl 0 rfl) ?_
  refine j_getT (k := 56 + t) C f_RX6_9_6 f_RX6_9_3 f_RX6_9_8 (xt ht) (xT hT) dX6_cheering_6 ?_
  refine j_iret C ⟨rfl, _, rfl, ?_⟩ dX6_cheering_9
  refine ⟨h_1_, ?_⟩
  rw [h_1_]
  exact congrFun (up2_k _ _ (by omega)) 0
abbrev rm_X8_cheering : Room := { frames := 1, cells := 0, slots := 0, locals := 21 }
set_option maxHeartbeats 4000000 in
set_option maxRecDepth 100000 in
theorem k_X8_cheering (l : Launch) (ad tk : Nat → Nat) (nt : Nat) (V : Vt) (t : Nat) (ht : t < nt) (hT : isT (tk t))  : Ct l yX8_cheering cX8_cheering 2 (some .int) rm_X8_cheering (xS ad tk nt) V [.ref (ad (56 + t)), .ref (ad (42))] (rI fun x V2 => V2 = lvT V 5 ∧ x = 50) := by
  refine Ct_of (by decide) (Nat.le_of_ble_eq_true rfl) ?_
  intro p e s m below meth c A D cy ls C hl
  have hl : lv_has ls 2 [(0, .ref (ad (56 + t))), (1, .ref (ad (42)))] := hl
  refine j_aload_n C dX8_cheering_0 rfl (lv_at hl 1 rfl) ?_
  refine j_iconst (v := 5) C dX8_cheering_1 (by decide) ?_
  refine j_callV (k := 42) C [.int (5)] [] (k_X10_leave l ad tk nt V  (5)) v_RX8_9 (xl (by decide)) (rfl) rfl ⟨rfl, rfl, Nat.le_of_ble_eq_true rfl, Nat.le_of_ble_eq_true rfl⟩ rfl hl.1 rfl (Nat.le_of_ble_eq_true rfl) ⟨Nat.le_of_ble_eq_true rfl, Nat.le_of_ble_eq_true rfl⟩ dX8_cheering_2 (kU fun U1 h_1_ => ?_)
  refine j_bipush (v := 50) C dX8_cheering_5 (by decide) ?_
  refine j_iret C ⟨rfl, _, rfl, ?_⟩ dX8_cheering_7
  exact ⟨h_1_, rfl⟩
theorem nI_inj {a b : Nat} (ha : a < 2 ^ 31) (hb : b < 2 ^ 31) (h : nI a = nI b) : a = b := (nI_eq ha hb).mp h
theorem outR {z : Int32} {n : Nat} (h : z < 0 ∨ nI n ≤ z) : ¬ (¬ z < 0 ∧ z < nI n) := fun q => h.elim (fun o => q.1 o) (fun o => absurd q.2 (Int32.not_lt.mpr o))
theorem inN {g n : Nat} (h : g < n) (hn : n < 2 ^ 31) : ¬ (nI g < 0 ∨ nI n ≤ nI g) := fun q => q.elim (nI_pos (by omega)) (nI_ge h hn)
abbrev rm_X5_isFull : Room := { frames := 0, cells := 0, slots := 0, locals := 0 }
set_option maxHeartbeats 4000000 in
set_option maxRecDepth 100000 in
theorem k_X5_isFull (l : Launch) (ad tk : Nat → Nat) (nt : Nat) (V : Vt)  : Ct l yX5_isFull cX5_isFull 1 (some .boolean) rm_X5_isFull (xS ad tk nt) V [.ref (ad (29))] (rI fun x V2 => V2 = V ∧ x = bI (8 ≤ V 29 0)) := by
  refine Ct_of (by decide) (Nat.le_of_ble_eq_true rfl) ?_
  intro p e s m below meth c A D cy ls C hl
  have hl : lv_has ls 1 [(0, .ref (ad (29)))] := hl
  refine j_aload_n C dX5_isFull_0 rfl (lv_at hl 0 rfl) ?_
  refine j_getI (k := 29) C (f_RX5_21_5) (xl (by decide)) (rfl) dX5_isFull_1 ?_
  refine j_bipush (v := 8) C dX5_isFull_4 (by decide) ?_
  refine j_icmp_lt (tgt := 13) C dX5_isFull_6 (by decide) (fun c_1_ => ?_) (fun c_1_ => ?_)
  · have n_1_ := Int32.not_le.mpr c_1_
    refine j_iconst (v := 0) C dX5_isFull_13 (by decide) ?_
    refine j_zret C rfl ⟨rfl, _, rfl, ?_⟩ dX5_isFull_14
    refine ⟨rfl, ?_⟩
    simp [bI, c_1_, n_1_]
  · have n_1_ := Int32.not_lt.mp c_1_
    refine j_iconst (v := 1) C dX5_isFull_9 (by decide) ?_
    refine j_goto (tgt := 14) C dX5_isFull_10 (by decide) ?_
    refine j_zret C rfl ⟨rfl, _, rfl, ?_⟩ dX5_isFull_14
    refine ⟨rfl, ?_⟩
    simp [bI, c_1_, n_1_]
abbrev rm_X5_throwerAt : Room := { frames := 0, cells := 0, slots := 0, locals := 0 }
set_option maxHeartbeats 4000000 in
set_option maxRecDepth 100000 in
theorem k_X5_throwerAt (l : Launch) (ad tk : Nat → Nat) (nt : Nat) (V : Vt) (z : Int32) : Ct l yX5_throwerAt cX5_throwerAt 2 (some .int) rm_X5_throwerAt (xS ad tk nt) V [.ref (ad (29)), .int (z)] (rI fun x V2 => V2 = V ∧ x = atR (V 30) 8 z) := by
  refine Ct_of (by decide) (Nat.le_of_ble_eq_true rfl) ?_
  intro p e s m below meth c A D cy ls C hl
  have hl : lv_has ls 2 [(0, .ref (ad (29))), (1, .int (z))] := hl
  refine j_iload_n C dX5_throwerAt_0 rfl (lv_at hl 1 rfl) ?_
  refine j_if_lt (tgt := 13) C dX5_throwerAt_1 (by decide) (fun c_1_ => ?_) (fun c_1_ => ?_)
  · have n_1_ := Int32.not_le.mpr c_1_
    refine j_bipush (v := (-9)) C dX5_throwerAt_13 (by decide) ?_
    refine j_goto (tgt := 24) C dX5_throwerAt_15 (by decide) ?_
    refine j_iret C ⟨rfl, _, rfl, ?_⟩ dX5_throwerAt_24
    refine ⟨rfl, ?_⟩
    unfold atR
    rw [if_neg (fun q => by first | exact q.1 (by assumption) | exact absurd q.2 (by assumption))]
  · have n_1_ := Int32.not_lt.mp c_1_
    refine j_iload_n C dX5_throwerAt_4 rfl (lv_at hl 1 rfl) ?_
    refine j_aload_n C dX5_throwerAt_5 rfl (lv_at hl 0 rfl) ?_
    refine j_getR (k := 29) (k2 := 30) C (f_RX5_9_5) (xl (by decide)) (rfl) (rfl) dX5_throwerAt_6 ?_
    refine j_alen (k := 30) (n := 8) C (xl (by decide)) (Or.inl (rfl)) (rfl) dX5_throwerAt_9 ?_
    refine j_icmp_lt (tgt := 18) C dX5_throwerAt_10 (by decide) (fun c_2_ => ?_) (fun c_2_ => ?_)
    · have n_2_ := Int32.not_le.mpr c_2_
      refine j_aload_n C dX5_throwerAt_18 rfl (lv_at hl 0 rfl) ?_
      refine j_getR (k := 29) (k2 := 30) C (f_RX5_9_5) (xl (by decide)) (rfl) (rfl) dX5_throwerAt_19 ?_
      refine j_iload_n C dX5_throwerAt_22 rfl (lv_at hl 1 rfl) ?_
      refine j_iald (k := 30) (n := 8) C (xl (by decide)) (rfl) (rfl) (inR (by assumption) (by assumption) (by decide)) dX5_throwerAt_23 ?_
      refine j_iret C ⟨rfl, _, rfl, ?_⟩ dX5_throwerAt_24
      refine ⟨rfl, ?_⟩
      unfold atR
      rw [if_pos ⟨by assumption, by assumption⟩]
    · have n_2_ := Int32.not_lt.mp c_2_
      refine j_bipush (v := (-9)) C dX5_throwerAt_13 (by decide) ?_
      refine j_goto (tgt := 24) C dX5_throwerAt_15 (by decide) ?_
      refine j_iret C ⟨rfl, _, rfl, ?_⟩ dX5_throwerAt_24
      refine ⟨rfl, ?_⟩
      unfold atR
      rw [if_neg (fun q => by first | exact q.1 (by assumption) | exact absurd q.2 (by assumption))]
abbrev rm_X5_girlAt : Room := { frames := 0, cells := 0, slots := 0, locals := 0 }
set_option maxHeartbeats 4000000 in
set_option maxRecDepth 100000 in
theorem k_X5_girlAt (l : Launch) (ad tk : Nat → Nat) (nt : Nat) (V : Vt) (z : Int32) : Ct l yX5_girlAt cX5_girlAt 2 (some .int) rm_X5_girlAt (xS ad tk nt) V [.ref (ad (29)), .int (z)] (rI fun x V2 => V2 = V ∧ x = atR (V 31) 8 z) := by
  refine Ct_of (by decide) (Nat.le_of_ble_eq_true rfl) ?_
  intro p e s m below meth c A D cy ls C hl
  have hl : lv_has ls 2 [(0, .ref (ad (29))), (1, .int (z))] := hl
  refine j_iload_n C dX5_girlAt_0 rfl (lv_at hl 1 rfl) ?_
  refine j_if_lt (tgt := 13) C dX5_girlAt_1 (by decide) (fun c_1_ => ?_) (fun c_1_ => ?_)
  · have n_1_ := Int32.not_le.mpr c_1_
    refine j_bipush (v := (-9)) C dX5_girlAt_13 (by decide) ?_
    refine j_goto (tgt := 24) C dX5_girlAt_15 (by decide) ?_
    refine j_iret C ⟨rfl, _, rfl, ?_⟩ dX5_girlAt_24
    refine ⟨rfl, ?_⟩
    unfold atR
    rw [if_neg (fun q => by first | exact q.1 (by assumption) | exact absurd q.2 (by assumption))]
  · have n_1_ := Int32.not_lt.mp c_1_
    refine j_iload_n C dX5_girlAt_4 rfl (lv_at hl 1 rfl) ?_
    refine j_aload_n C dX5_girlAt_5 rfl (lv_at hl 0 rfl) ?_
    refine j_getR (k := 29) (k2 := 31) C (f_RX5_15_5) (xl (by decide)) (rfl) (rfl) dX5_girlAt_6 ?_
    refine j_alen (k := 31) (n := 8) C (xl (by decide)) (Or.inl (rfl)) (rfl) dX5_girlAt_9 ?_
    refine j_icmp_lt (tgt := 18) C dX5_girlAt_10 (by decide) (fun c_2_ => ?_) (fun c_2_ => ?_)
    · have n_2_ := Int32.not_le.mpr c_2_
      refine j_aload_n C dX5_girlAt_18 rfl (lv_at hl 0 rfl) ?_
      refine j_getR (k := 29) (k2 := 31) C (f_RX5_15_5) (xl (by decide)) (rfl) (rfl) dX5_girlAt_19 ?_
      refine j_iload_n C dX5_girlAt_22 rfl (lv_at hl 1 rfl) ?_
      refine j_iald (k := 31) (n := 8) C (xl (by decide)) (rfl) (rfl) (inR (by assumption) (by assumption) (by decide)) dX5_girlAt_23 ?_
      refine j_iret C ⟨rfl, _, rfl, ?_⟩ dX5_girlAt_24
      refine ⟨rfl, ?_⟩
      unfold atR
      rw [if_pos ⟨by assumption, by assumption⟩]
    · have n_2_ := Int32.not_lt.mp c_2_
      refine j_bipush (v := (-9)) C dX5_girlAt_13 (by decide) ?_
      refine j_goto (tgt := 24) C dX5_girlAt_15 (by decide) ?_
      refine j_iret C ⟨rfl, _, rfl, ?_⟩ dX5_girlAt_24
      refine ⟨rfl, ?_⟩
      unfold atR
      rw [if_neg (fun q => by first | exact q.1 (by assumption) | exact absurd q.2 (by assumption))]
abbrev rm_X5_nearAt : Room := { frames := 0, cells := 0, slots := 0, locals := 0 }
set_option maxHeartbeats 4000000 in
set_option maxRecDepth 100000 in
theorem k_X5_nearAt (l : Launch) (ad tk : Nat → Nat) (nt : Nat) (V : Vt) (z : Int32) : Ct l yX5_nearAt cX5_nearAt 2 (some .int) rm_X5_nearAt (xS ad tk nt) V [.ref (ad (29)), .int (z)] (rI fun x V2 => V2 = V ∧ x = atR (V 32) 8 z) := by
  refine Ct_of (by decide) (Nat.le_of_ble_eq_true rfl) ?_
  intro p e s m below meth c A D cy ls C hl
  have hl : lv_has ls 2 [(0, .ref (ad (29))), (1, .int (z))] := hl
  refine j_iload_n C dX5_nearAt_0 rfl (lv_at hl 1 rfl) ?_
  refine j_if_lt (tgt := 13) C dX5_nearAt_1 (by decide) (fun c_1_ => ?_) (fun c_1_ => ?_)
  · have n_1_ := Int32.not_le.mpr c_1_
    refine j_bipush (v := (-9)) C dX5_nearAt_13 (by decide) ?_
    refine j_goto (tgt := 24) C dX5_nearAt_15 (by decide) ?_
    refine j_iret C ⟨rfl, _, rfl, ?_⟩ dX5_nearAt_24
    refine ⟨rfl, ?_⟩
    unfold atR
    rw [if_neg (fun q => by first | exact q.1 (by assumption) | exact absurd q.2 (by assumption))]
  · have n_1_ := Int32.not_lt.mp c_1_
    refine j_iload_n C dX5_nearAt_4 rfl (lv_at hl 1 rfl) ?_
    refine j_aload_n C dX5_nearAt_5 rfl (lv_at hl 0 rfl) ?_
    refine j_getR (k := 29) (k2 := 32) C (f_RX5_18_5) (xl (by decide)) (rfl) (rfl) dX5_nearAt_6 ?_
    refine j_alen (k := 32) (n := 8) C (xl (by decide)) (Or.inl (rfl)) (rfl) dX5_nearAt_9 ?_
    refine j_icmp_lt (tgt := 18) C dX5_nearAt_10 (by decide) (fun c_2_ => ?_) (fun c_2_ => ?_)
    · have n_2_ := Int32.not_le.mpr c_2_
      refine j_aload_n C dX5_nearAt_18 rfl (lv_at hl 0 rfl) ?_
      refine j_getR (k := 29) (k2 := 32) C (f_RX5_18_5) (xl (by decide)) (rfl) (rfl) dX5_nearAt_19 ?_
      refine j_iload_n C dX5_nearAt_22 rfl (lv_at hl 1 rfl) ?_
      refine j_iald (k := 32) (n := 8) C (xl (by decide)) (rfl) (rfl) (inR (by assumption) (by assumption) (by decide)) dX5_nearAt_23 ?_
      refine j_iret C ⟨rfl, _, rfl, ?_⟩ dX5_nearAt_24
      refine ⟨rfl, ?_⟩
      unfold atR
      rw [if_pos ⟨by assumption, by assumption⟩]
    · have n_2_ := Int32.not_lt.mp c_2_
      refine j_bipush (v := (-9)) C dX5_nearAt_13 (by decide) ?_
      refine j_goto (tgt := 24) C dX5_nearAt_15 (by decide) ?_
      refine j_iret C ⟨rfl, _, rfl, ?_⟩ dX5_nearAt_24
      refine ⟨rfl, ?_⟩
      unfold atR
      rw [if_neg (fun q => by first | exact q.1 (by assumption) | exact absurd q.2 (by assumption))]
abbrev rm_X5_take : Room := { frames := 0, cells := 0, slots := 0, locals := 0 }
set_option maxHeartbeats 4000000 in
set_option maxRecDepth 100000 in
theorem k_X5_take (l : Launch) (ad tk : Nat → Nat) (nt : Nat) (V : Vt) (c_0_ : Nat) (hc0 : V 29 0 = nI c_0_) (hc8 : c_0_ < 8) (z0 z1 z2 : Int32) : Ct l yX5_take cX5_take 5 (some .int) rm_X5_take (xS ad tk nt) V [.ref (ad (29)), .int (z0), .int (z1), .int (z2)] (rI fun x V2 => V2 = up2 (up2 (up2 (up2 V 30 c_0_ z0) 31 c_0_ z1) 32 c_0_ z2) 29 0 (nI (c_0_ + 1)) ∧ x = nI c_0_) := by
  refine Ct_of (by decide) (Nat.le_of_ble_eq_true rfl) ?_
  intro p e s m below meth c A D cy ls C hl
  have hl : lv_has ls 5 [(0, .ref (ad (29))), (1, .int (z0)), (2, .int (z1)), (3, .int (z2))] := hl
  refine j_aload_n C dX5_take_0 rfl (lv_at hl 0 rfl) ?_
  refine j_getI (k := 29) C (f_RX5_21_5) (xl (by decide)) (rfl) dX5_take_1 ?_
  refine j_istore (lv2 := [(4, .int (V 29 0)), (0, .ref (ad (29))), (1, .int (z0)), (2, .int (z1)), (3, .int (z2))]) C dX5_take_4 hl (by decide) rfl (fun ls hl => ?_)
  refine j_iload C dX5_take_6 (lv_at hl 0 rfl) ?_
  refine j_if_lt (tgt := 52) C dX5_take_8 (by decide) (fun c_1_ => ?_) (fun c_1_ => ?_)
  · have n_1_ := Int32.not_le.mpr c_1_
    refine j_iload C dX5_take_52 (lv_at hl 0 rfl) ?_
    refine j_iret C ⟨rfl, _, rfl, ?_⟩ dX5_take_54
    exfalso
    rw [hc0] at *
    first | exact absurd (by assumption) (nI_pos (n := c_0_) (by omega)) | exact absurd (nI_lt (b := 8) hc8 (by decide)) (by assumption)
  · have n_1_ := Int32.not_lt.mp c_1_
    refine j_iload C dX5_take_11 (lv_at hl 0 rfl) ?_
    refine j_bipush (v := 8) C dX5_take_13 (by decide) ?_
    refine j_icmp_ge (tgt := 52) C dX5_take_15 (by decide) (fun c_2_ => ?_) (fun c_2_ => ?_)
    · have n_2_ := Int32.not_lt.mpr c_2_
      refine j_iload C dX5_take_52 (lv_at hl 0 rfl) ?_
      refine j_iret C ⟨rfl, _, rfl, ?_⟩ dX5_take_54
      exfalso
      rw [hc0] at *
      first | exact absurd (by assumption) (nI_pos (n := c_0_) (by omega)) | exact absurd (nI_lt (b := 8) hc8 (by decide)) (by assumption)
    · have n_2_ := Int32.not_le.mp c_2_
      refine j_aload_n C dX5_take_18 rfl (lv_at hl 1 rfl) ?_
      refine j_getR (k := 29) (k2 := 30) C (f_RX5_9_5) (xl (by decide)) (rfl) (rfl) dX5_take_19 ?_
      refine j_iload C dX5_take_22 (lv_at hl 0 rfl) ?_
      refine j_iload_n C dX5_take_24 rfl (lv_at hl 2 rfl) ?_
      refine j_iast (k := 30) (n := 8) C (xl (by decide)) (rfl) (rfl) (by rw [hc0]; exact vp_in_nI hc8 (by decide)) dX5_take_25 (fun V1 eV1 => ?_)
      refine j_aload_n C dX5_take_26 rfl (lv_at hl 1 rfl) ?_
      refine j_getR (k := 29) (k2 := 31) C (f_RX5_15_5) (xl (by decide)) (rfl) (rfl) dX5_take_27 ?_
      refine j_iload C dX5_take_30 (lv_at hl 0 rfl) ?_
      refine j_iload_n C dX5_take_32 rfl (lv_at hl 3 rfl) ?_
      refine j_iast (k := 31) (n := 8) C (xl (by decide)) (rfl) (rfl) (by rw [hc0]; exact vp_in_nI hc8 (by decide)) dX5_take_33 (fun V2 eV2 => ?_)
      refine j_aload_n C dX5_take_34 rfl (lv_at hl 1 rfl) ?_
      refine j_getR (k := 29) (k2 := 32) C (f_RX5_18_5) (xl (by decide)) (rfl) (rfl) dX5_take_35 ?_
      refine j_iload C dX5_take_38 (lv_at hl 0 rfl) ?_
      refine j_iload_n C dX5_take_40 rfl (lv_at hl 4 rfl) ?_
      refine j_iast (k := 32) (n := 8) C (xl (by decide)) (rfl) (rfl) (by rw [hc0]; exact vp_in_nI hc8 (by decide)) dX5_take_41 (fun V3 eV3 => ?_)
      refine j_aload_n C dX5_take_42 rfl (lv_at hl 1 rfl) ?_
      refine j_dup C dX5_take_43 rfl ?_
      refine j_getI (k := 29) C (f_RX5_21_5) (xl (by decide)) (rfl) dX5_take_44 ?_
      refine j_iconst (v := 1) C dX5_take_47 (by decide) ?_
      refine j_iadd C dX5_take_48 ?_
      refine j_putI (k := 29) C (f_RX5_21_5) p_5_0 (xl (by decide)) (rfl) dX5_take_49 (fun V4 eV4 => ?_)
      refine j_iload C dX5_take_52 (lv_at hl 0 rfl) ?_
      refine j_iret C ⟨rfl, _, rfl, ?_⟩ dX5_take_54
      subst eV1 eV2 eV3 eV4
      refine ⟨?_, hc0⟩
      rw [show (up2 (up2 (up2 V 30 (V 29 0).toNatClampNeg z0) 31 (V 29 0).toNatClampNeg z1) 32 (V 29 0).toNatClampNeg z2) 29 0 = nI c_0_ by rw [up2_k _ _ (by decide), up2_k _ _ (by decide), up2_k _ _ (by decide), hc0], hc0, nI_clamp (by omega), nI_1]
abbrev rm_X11_sheetOf : Room := { frames := 0, cells := 0, slots := 0, locals := 0 }
set_option maxHeartbeats 4000000 in
set_option maxRecDepth 100000 in
theorem k_X11_sheetOf (l : Launch) (ad tk : Nat → Nat) (nt : Nat) (V : Vt) (z : Int32) : Ct l yX11_sheetOf cX11_sheetOf 2 (some (.object "QuoitFeast$Sheet")) rm_X11_sheetOf (xS ad tk nt) V [.ref (ad (55)), .int (z)] (rA fun v V2 => V2 = V ∧ ((∃ j : Nat, j < 4 ∧ z = nI j ∧ v = .ref (ad (34 + 2 * j))) ∨ ((z < 0 ∨ nI 4 ≤ z) ∧ v = .null))) := by
  refine Ct_of (by decide) (Nat.le_of_ble_eq_true rfl) ?_
  intro p e s m below meth c A D cy ls C hl
  have hl : lv_has ls 2 [(0, .ref (ad (55))), (1, .int (z))] := hl
  refine j_iload_n C dX11_sheetOf_0 rfl (lv_at hl 1 rfl) ?_
  refine j_if_lt (tgt := 13) C dX11_sheetOf_1 (by decide) (fun c_1_ => ?_) (fun c_1_ => ?_)
  · have n_1_ := Int32.not_le.mpr c_1_
    refine j_null C dX11_sheetOf_13 ?_
    refine j_goto (tgt := 23) C dX11_sheetOf_14 (by decide) ?_
    refine j_aret C (Or.inl rfl) ⟨rfl, _, rfl, ?_⟩ dX11_sheetOf_23
    refine ⟨rfl, ?_⟩
    exact Or.inr ⟨by first | exact Or.inl (by assumption) | exact Or.inr (by assumption), rfl⟩
  · have n_1_ := Int32.not_lt.mp c_1_
    refine j_iload_n C dX11_sheetOf_4 rfl (lv_at hl 1 rfl) ?_
    refine j_aload_n C dX11_sheetOf_5 rfl (lv_at hl 0 rfl) ?_
    refine j_getR (k := 55) (k2 := 33) C (f_RX11_33_11) (xl (by decide)) (rfl) (rfl) dX11_sheetOf_6 ?_
    refine j_alen (k := 33) (n := 4) C (xl (by decide)) (Or.inr (Or.inr (Or.inr (rfl)))) (rfl) dX11_sheetOf_9 ?_
    refine j_icmp_lt (tgt := 17) C dX11_sheetOf_10 (by decide) (fun c_2_ => ?_) (fun c_2_ => ?_)
    · have n_2_ := Int32.not_le.mpr c_2_
      refine j_aload_n C dX11_sheetOf_17 rfl (lv_at hl 0 rfl) ?_
      refine j_getR (k := 55) (k2 := 33) C (f_RX11_33_11) (xl (by decide)) (rfl) (rfl) dX11_sheetOf_18 ?_
      refine j_iload_n C dX11_sheetOf_21 rfl (lv_at hl 1 rfl) ?_
      obtain ⟨j, hj, ej⟩ : ∃ j : Nat, j < 4 ∧ z = nI j := by
        rcases pk_ix z (n := 4) (by omega) with h | h | h
        · exact absurd h (by assumption)
        · exact absurd h (by first | assumption | (rw [hl] at *; assumption))
        · exact h
      refine j_aald (k := 33) (n := 4) (v := .ref (ad (34 + 2 * j))) C (xl (by decide)) (Or.inr (Or.inr (rfl))) (rfl) (by rw [ej]; exact vp_in_nI (by omega) (by decide)) (by rw [ej, nI_clamp (by omega)]; rcases (show j = 0 ∨ j = 1 ∨ j = 2 ∨ j = 3 by omega) with rfl | rfl | rfl | rfl <;> rfl) dX11_sheetOf_22 ?_
      refine j_aret C (Or.inr ⟨_, rfl⟩) ⟨rfl, _, rfl, ?_⟩ dX11_sheetOf_23
      refine ⟨rfl, ?_⟩
      exact Or.inl ⟨j, hj, ej, rfl⟩
    · have n_2_ := Int32.not_lt.mp c_2_
      refine j_null C dX11_sheetOf_13 ?_
      refine j_goto (tgt := 23) C dX11_sheetOf_14 (by decide) ?_
      refine j_aret C (Or.inl rfl) ⟨rfl, _, rfl, ?_⟩ dX11_sheetOf_23
      refine ⟨rfl, ?_⟩
      exact Or.inr ⟨by first | exact Or.inl (by assumption) | exact Or.inr (by assumption), rfl⟩
theorem isH_j {j : Nat} (h : j < 4) : isH (34 + 2 * j) := by
  rcases (show j = 0 ∨ j = 1 ∨ j = 2 ∨ j = 3 by omega) with rfl | rfl | rfl | rfl <;> (unfold isH; decide)
abbrev rm_X11_throwerOf : Room := { frames := 0, cells := 0, slots := 0, locals := 0 }
set_option maxHeartbeats 4000000 in
set_option maxRecDepth 100000 in
theorem k_X11_throwerOf (l : Launch) (ad tk : Nat → Nat) (nt : Nat) (V : Vt) (hN : V 55 8 = nI nt) (h_5_ : nt ≤ 5) (z : Int32) : Ct l yX11_throwerOf cX11_throwerOf 2 (some (.object "QuoitFeast$Right")) rm_X11_throwerOf (xS ad tk nt) V [.ref (ad (55)), .int (z)] (rA fun v V2 => V2 = V ∧ ((∃ j : Nat, j < nt ∧ z = nI j ∧ v = .ref (ad (56 + j))) ∨ ((z < 0 ∨ nI nt ≤ z) ∧ v = .null))) := by
  refine Ct_of (by decide) (Nat.le_of_ble_eq_true rfl) ?_
  intro p e s m below meth c A D cy ls C hl
  have hl : lv_has ls 2 [(0, .ref (ad (55))), (1, .int (z))] := hl
  refine j_iload_n C dX11_throwerOf_0 rfl (lv_at hl 1 rfl) ?_
  refine j_if_lt (tgt := 21) C dX11_throwerOf_1 (by decide) (fun c_1_ => ?_) (fun c_1_ => ?_)
  · have n_1_ := Int32.not_le.mpr c_1_
    refine j_null C dX11_throwerOf_21 ?_
    refine j_goto (tgt := 31) C dX11_throwerOf_22 (by decide) ?_
    refine j_aret C (Or.inl rfl) ⟨rfl, _, rfl, ?_⟩ dX11_throwerOf_31
    refine ⟨rfl, ?_⟩
    refine Or.inr ⟨?_, rfl⟩
    first | exact Or.inl (by assumption) | exact Or.inr (by rw [← hN]; assumption) | exact Or.inr (Int32.le_trans (nI_le h_5_ (by decide)) (by assumption))
  · have n_1_ := Int32.not_lt.mp c_1_
    refine j_iload_n C dX11_throwerOf_4 rfl (lv_at hl 1 rfl) ?_
    refine j_aload_n C dX11_throwerOf_5 rfl (lv_at hl 0 rfl) ?_
    refine j_getI (k := 55) C (f_RX11_96_11) (xl (by decide)) (rfl) dX11_throwerOf_6 ?_
    refine j_icmp_ge (tgt := 21) C dX11_throwerOf_9 (by decide) (fun c_2_ => ?_) (fun c_2_ => ?_)
    · have n_2_ := Int32.not_lt.mpr c_2_
      refine j_null C dX11_throwerOf_21 ?_
      refine j_goto (tgt := 31) C dX11_throwerOf_22 (by decide) ?_
      refine j_aret C (Or.inl rfl) ⟨rfl, _, rfl, ?_⟩ dX11_throwerOf_31
      refine ⟨rfl, ?_⟩
      refine Or.inr ⟨?_, rfl⟩
      first | exact Or.inl (by assumption) | exact Or.inr (by rw [← hN]; assumption) | exact Or.inr (Int32.le_trans (nI_le h_5_ (by decide)) (by assumption))
    · have n_2_ := Int32.not_le.mp c_2_
      refine j_iload_n C dX11_throwerOf_12 rfl (lv_at hl 1 rfl) ?_
      refine j_aload_n C dX11_throwerOf_13 rfl (lv_at hl 0 rfl) ?_
      refine j_getR (k := 55) (k2 := 54) C (f_RX11_20_11) (xl (by decide)) (rfl) (rfl) dX11_throwerOf_14 ?_
      refine j_alen (k := 54) (n := 5) C (xl (by decide)) (Or.inr (Or.inr (Or.inl (rfl)))) (rfl) dX11_throwerOf_17 ?_
      refine j_icmp_lt (tgt := 25) C dX11_throwerOf_18 (by decide) (fun c_3_ => ?_) (fun c_3_ => ?_)
      · have n_3_ := Int32.not_le.mpr c_3_
        refine j_aload_n C dX11_throwerOf_25 rfl (lv_at hl 0 rfl) ?_
        refine j_getR (k := 55) (k2 := 54) C (f_RX11_20_11) (xl (by decide)) (rfl) (rfl) dX11_throwerOf_26 ?_
        refine j_iload_n C dX11_throwerOf_29 rfl (lv_at hl 1 rfl) ?_
        obtain ⟨j, hj, ej⟩ : ∃ j : Nat, j < nt ∧ z = nI j := by
          rcases pk_ix z (n := nt) (by omega) with h | h | h
          · exact absurd h (by assumption)
          · exact absurd h (by first | assumption | (rw [hN] at *; assumption))
          · exact h
        refine j_aald (k := 54) (n := 5) (v := .ref (ad (56 + j))) C (xl (by decide)) (Or.inr (Or.inl (rfl))) (rfl) (by rw [ej]; exact vp_in_nI (by omega) (by decide)) (by rw [ej, nI_clamp (by omega)]; show va_rf ((xg nt 54 j).map ad) = _; unfold xg; rw [if_pos rfl, if_pos hj]; rfl) dX11_throwerOf_30 ?_
        refine j_aret C (Or.inr ⟨_, rfl⟩) ⟨rfl, _, rfl, ?_⟩ dX11_throwerOf_31
        refine ⟨rfl, ?_⟩
        exact Or.inl ⟨j, hj, ej, rfl⟩
      · have n_3_ := Int32.not_lt.mp c_3_
        refine j_null C dX11_throwerOf_21 ?_
        refine j_goto (tgt := 31) C dX11_throwerOf_22 (by decide) ?_
        refine j_aret C (Or.inl rfl) ⟨rfl, _, rfl, ?_⟩ dX11_throwerOf_31
        refine ⟨rfl, ?_⟩
        refine Or.inr ⟨?_, rfl⟩
        first | exact Or.inl (by assumption) | exact Or.inr (by rw [← hN]; assumption) | exact Or.inr (Int32.le_trans (nI_le h_5_ (by decide)) (by assumption))
abbrev rm_X0_girlAt : Room := { frames := 0, cells := 0, slots := 0, locals := 0 }
set_option maxHeartbeats 4000000 in
set_option maxRecDepth 100000 in
theorem k_X0_girlAt (l : Launch) (ad tk : Nat → Nat) (nt : Nat) (V : Vt) (k : Nat) (hg : isC k) (ng : Nat) (hN : V k 1 = nI ng) (h_4_ : ng ≤ 4) (z : Int32) : Ct l yX0_girlAt cX0_girlAt 2 (some (.object "QuoitFeast$Girl")) rm_X0_girlAt (xS ad tk nt) V [.ref (ad (k)), .int (z)] (rA fun v V2 => V2 = V ∧ ((∃ j : Nat, j < ng ∧ z = nI j ∧ v = .ref (ad (k + 2 + 3 * j))) ∨ ((z < 0 ∨ nI ng ≤ z) ∧ v = .null))) := by
  refine Ct_of (by decide) (Nat.le_of_ble_eq_true rfl) ?_
  intro p e s m below meth c A D cy ls C hl
  have hl : lv_has ls 2 [(0, .ref (ad (k))), (1, .int (z))] := hl
  refine j_iload_n C dX0_girlAt_0 rfl (lv_at hl 1 rfl) ?_
  refine j_if_lt (tgt := 21) C dX0_girlAt_1 (by decide) (fun c_1_ => ?_) (fun c_1_ => ?_)
  · have n_1_ := Int32.not_le.mpr c_1_
    refine j_null C dX0_girlAt_21 ?_
    refine j_goto (tgt := 31) C dX0_girlAt_22 (by decide) ?_
    refine j_aret C (Or.inl rfl) ⟨rfl, _, rfl, ?_⟩ dX0_girlAt_31
    refine ⟨rfl, ?_⟩
    refine Or.inr ⟨?_, rfl⟩
    first | exact Or.inl (by assumption) | exact Or.inr (by rw [← hN]; assumption) | exact Or.inr (Int32.le_trans (nI_le h_4_ (by decide)) (by assumption))
  · have n_1_ := Int32.not_lt.mp c_1_
    refine j_iload_n C dX0_girlAt_4 rfl (lv_at hl 1 rfl) ?_
    refine j_aload_n C dX0_girlAt_5 rfl (lv_at hl 0 rfl) ?_
    refine j_getI (k := k) C (f_RX0_18_0) (xl (xC (tk := tk) (nt := nt) hg).1.1) ((xC (tk := tk) (nt := nt) hg).2.1) dX0_girlAt_6 ?_
    refine j_icmp_ge (tgt := 21) C dX0_girlAt_9 (by decide) (fun c_2_ => ?_) (fun c_2_ => ?_)
    · have n_2_ := Int32.not_lt.mpr c_2_
      refine j_null C dX0_girlAt_21 ?_
      refine j_goto (tgt := 31) C dX0_girlAt_22 (by decide) ?_
      refine j_aret C (Or.inl rfl) ⟨rfl, _, rfl, ?_⟩ dX0_girlAt_31
      refine ⟨rfl, ?_⟩
      refine Or.inr ⟨?_, rfl⟩
      first | exact Or.inl (by assumption) | exact Or.inr (by rw [← hN]; assumption) | exact Or.inr (Int32.le_trans (nI_le h_4_ (by decide)) (by assumption))
    · have n_2_ := Int32.not_le.mp c_2_
      refine j_iload_n C dX0_girlAt_12 rfl (lv_at hl 1 rfl) ?_
      refine j_aload_n C dX0_girlAt_13 rfl (lv_at hl 0 rfl) ?_
      refine j_getR (k := k) (k2 := k + 1) C (f_RX0_11_0) (xl (xC (tk := tk) (nt := nt) hg).1.1) ((xC (tk := tk) (nt := nt) hg).2.1) ((xC (tk := tk) (nt := nt) hg).2.2.2.2) dX0_girlAt_14 ?_
      refine j_alen (k := k + 1) (n := 4) C (xl (xC (tk := tk) (nt := nt) hg).1.2) (Or.inr (Or.inl ((xC (tk := tk) (nt := nt) hg).2.2.1))) ((xC (tk := tk) (nt := nt) hg).2.2.2.1) dX0_girlAt_17 ?_
      refine j_icmp_lt (tgt := 25) C dX0_girlAt_18 (by decide) (fun c_3_ => ?_) (fun c_3_ => ?_)
      · have n_3_ := Int32.not_le.mpr c_3_
        refine j_aload_n C dX0_girlAt_25 rfl (lv_at hl 0 rfl) ?_
        refine j_getR (k := k) (k2 := k + 1) C (f_RX0_11_0) (xl (xC (tk := tk) (nt := nt) hg).1.1) ((xC (tk := tk) (nt := nt) hg).2.1) ((xC (tk := tk) (nt := nt) hg).2.2.2.2) dX0_girlAt_26 ?_
        refine j_iload_n C dX0_girlAt_29 rfl (lv_at hl 1 rfl) ?_
        obtain ⟨j, hj, ej⟩ : ∃ j : Nat, j < ng ∧ z = nI j := by
          rcases pk_ix z (n := ng) (by omega) with h | h | h
          · exact absurd h (by assumption)
          · exact absurd h (by first | assumption | (rw [hN] at *; assumption))
          · exact h
        refine j_aald (k := k + 1) (n := 4) (v := .ref (ad (k + 2 + 3 * j))) C (xl (xC (tk := tk) (nt := nt) hg).1.2) (Or.inl ((xC (tk := tk) (nt := nt) hg).2.2.1)) ((xC (tk := tk) (nt := nt) hg).2.2.2.1) (by rw [ej]; exact vp_in_nI (by omega) (by decide)) (by rw [ej, nI_clamp (by omega)]; show va_rf ((xg nt (k + 1) j).map ad) = _; rw [(xCg (nt := nt) hg (by omega)).2]; rfl) dX0_girlAt_30 ?_
        refine j_aret C (Or.inr ⟨_, rfl⟩) ⟨rfl, _, rfl, ?_⟩ dX0_girlAt_31
        refine ⟨rfl, ?_⟩
        exact Or.inl ⟨j, hj, ej, rfl⟩
      · have n_3_ := Int32.not_lt.mp c_3_
        refine j_null C dX0_girlAt_21 ?_
        refine j_goto (tgt := 31) C dX0_girlAt_22 (by decide) ?_
        refine j_aret C (Or.inl rfl) ⟨rfl, _, rfl, ?_⟩ dX0_girlAt_31
        refine ⟨rfl, ?_⟩
        refine Or.inr ⟨?_, rfl⟩
        first | exact Or.inl (by assumption) | exact Or.inr (by rw [← hN]; assumption) | exact Or.inr (Int32.le_trans (nI_le h_4_ (by decide)) (by assumption))
