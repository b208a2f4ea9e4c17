/-! pure words -/
def aprt (a b : Int32) : Int32 := if a < b then b - a else a - b
def near (reach yards leaning frost : Int32) : Int32 := if aprt reach yards ≤ leaning then 0 else aprt reach yards + frost
def rch (kind arm : Int32) : Int32 := if kind = 1 then arm + 1 else if kind = 2 then 2 * arm else arm
abbrev rm_X11_apart : Room := { frames := 0, cells := 0, slots := 0, locals := 0 }
set_option maxHeartbeats 4000000 in
set_option maxRecDepth 100000 in
theorem k_X11_apart (l : Launch) (σ : Sh) (V : Vt) (z0 z1 : Int32) : Ct l yX11_apart cX11_apart 2 (some .int) rm_X11_apart σ V [.int (z0), .int (z1)] (rI fun x V2 => V2 = V ∧ x = aprt z0 z1) := by
  refine Ct_of (by decide) (Nat.le_of_ble_eq_true rfl) ?_
  intro p e s m below meth c A D cy ls C hl
  have hl : lv_has ls 2 [(0, .int (z0)), (1, .int (z1))] := hl
  refine j_iload_n C dX11_apart_0 rfl (lv_at hl 0 rfl) ?_
  refine j_iload_n C dX11_apart_1 rfl (lv_at hl 1 rfl) ?_
  refine j_icmp_ge (tgt := 11) C dX11_apart_2 (by decide) (fun c1 => ?_) (fun c1 => ?_)
  · have n1 := Int32.not_lt.mpr c1
    refine j_iload_n C dX11_apart_11 rfl (lv_at hl 0 rfl) ?_
    refine j_iload_n C dX11_apart_12 rfl (lv_at hl 1 rfl) ?_
    refine j_isub C dX11_apart_13 ?_
    refine j_iret C ⟨rfl, _, rfl, ?_⟩ dX11_apart_14
    refine ⟨rfl, ?_⟩
    simp [aprt, c1, n1]
  · have n1 := Int32.not_le.mp c1
    refine j_iload_n C dX11_apart_5 rfl (lv_at hl 1 rfl) ?_
    refine j_iload_n C dX11_apart_6 rfl (lv_at hl 0 rfl) ?_
    refine j_isub C dX11_apart_7 ?_
    refine j_goto (tgt := 14) C dX11_apart_8 (by decide) ?_
    refine j_iret C ⟨rfl, _, rfl, ?_⟩ dX11_apart_14
    refine ⟨rfl, ?_⟩
    simp [aprt, c1, n1]
abbrev rm_X11_nearnessBy : Room := { frames := 1, cells := 0, slots := 0, locals := 21 }
set_option maxHeartbeats 4000000 in
set_option maxRecDepth 100000 in
theorem k_X11_nearnessBy (l : Launch) (σ : Sh) (V : Vt) (z0 z1 z2 z3 : Int32) : Ct l yX11_nearnessBy cX11_nearnessBy 5 (some .int) rm_X11_nearnessBy σ V [.int (z0), .int (z1), .int (z2), .int (z3)] (rI fun x V2 => V2 = V ∧ x = near z0 z1 z2 z3) := by
  refine Ct_of (by decide) (Nat.le_of_ble_eq_true rfl) ?_
  intro p e s m below meth c A D cy ls C hl
  have hl : lv_has ls 5 [(0, .int (z0)), (1, .int (z1)), (2, .int (z2)), (3, .int (z3))] := hl
  refine j_iload_n C dX11_nearnessBy_0 rfl (lv_at hl 0 rfl) ?_
  refine j_iload_n C dX11_nearnessBy_1 rfl (lv_at hl 1 rfl) ?_
  refine j_callS C [.int (z0), .int (z1)] [] (k_X11_apart l (σ) V (z0) (z1)) v_RX11_204 ⟨rfl, rfl, Nat.le_of_ble_eq_true rfl, Nat.le_of_ble_eq_true rfl⟩ rfl hl.1 rfl (Nat.le_of_ble_eq_true rfl) ⟨Nat.le_of_ble_eq_true rfl, Nat.le_of_ble_eq_true rfl⟩ dX11_nearnessBy_2 (kI fun x1 U1 h1 => ?_)
  obtain ⟨rfl, h1⟩ := h1
  refine j_istore (lv2 := [(4, .int (x1)), (0, .int (z0)), (1, .int (z1)), (2, .int (z2)), (3, .int (z3))]) C dX11_nearnessBy_5 hl (by decide) rfl (fun ls hl => ?_)
  refine j_iload C dX11_nearnessBy_7 (lv_at hl 0 rfl) ?_
  refine j_iload_n C dX11_nearnessBy_9 rfl (lv_at hl 3 rfl) ?_
  refine j_icmp_gt (tgt := 17) C dX11_nearnessBy_10 (by decide) (fun c2 => ?_) (fun c2 => ?_)
  · have n2 := Int32.not_le.mpr c2
    refine j_iload C dX11_nearnessBy_17 (lv_at hl 0 rfl) ?_
    refine j_iload_n C dX11_nearnessBy_19 rfl (lv_at hl 4 rfl) ?_
    refine j_iadd C dX11_nearnessBy_20 ?_
    refine j_iret C ⟨rfl, _, rfl, ?_⟩ dX11_nearnessBy_21
    refine ⟨rfl, ?_⟩
    subst h1
    simp [near, c2, n2]
  · have n2 := Int32.not_lt.mp c2
    refine j_iconst (v := 0) C dX11_nearnessBy_13 (by decide) ?_
    refine j_goto (tgt := 21) C dX11_nearnessBy_14 (by decide) ?_
    refine j_iret C ⟨rfl, _, rfl, ?_⟩ dX11_nearnessBy_21
    refine ⟨rfl, ?_⟩
    subst h1
    simp [near, c2, n2]
abbrev rm_X11_isWithin : Room := { frames := 0, cells := 0, slots := 0, locals := 0 }
set_option maxHeartbeats 4000000 in
set_option maxRecDepth 100000 in
theorem k_X11_isWithin (l : Launch) (σ : Sh) (V : Vt) (z0 z1 z2 : Int32) : Ct l yX11_isWithin cX11_isWithin 3 (some .boolean) rm_X11_isWithin σ V [.int (z0), .int (z1), .int (z2)] (rI fun x V2 => V2 = V ∧ x = bI (z1 ≤ z0 ∧ z0 ≤ z2)) := by
  refine Ct_of (by decide) (Nat.le_of_ble_eq_true rfl) ?_
  intro p e s m below meth c A D cy ls C hl
  have hl : lv_has ls 3 [(0, .int (z0)), (1, .int (z1)), (2, .int (z2))] := hl
  refine j_iload_n C dX11_isWithin_0 rfl (lv_at hl 0 rfl) ?_
  refine j_iload_n C dX11_isWithin_1 rfl (lv_at hl 1 rfl) ?_
  refine j_icmp_lt (tgt := 14) C dX11_isWithin_2 (by decide) (fun c1 => ?_) (fun c1 => ?_)
  · have n1 := Int32.not_le.mpr c1
    refine j_iconst (v := 0) C dX11_isWithin_14 (by decide) ?_
    refine j_zret C rfl ⟨rfl, _, rfl, ?_⟩ dX11_isWithin_15
    refine ⟨rfl, ?_⟩
    simp [bI, c1, n1]
  · have n1 := Int32.not_lt.mp c1
    refine j_iload_n C dX11_isWithin_5 rfl (lv_at hl 0 rfl) ?_
    refine j_iload_n C dX11_isWithin_6 rfl (lv_at hl 2 rfl) ?_
    refine j_icmp_gt (tgt := 14) C dX11_isWithin_7 (by decide) (fun c2 => ?_) (fun c2 => ?_)
    · have n2 := Int32.not_le.mpr c2
      refine j_iconst (v := 0) C dX11_isWithin_14 (by decide) ?_
      refine j_zret C rfl ⟨rfl, _, rfl, ?_⟩ dX11_isWithin_15
      refine ⟨rfl, ?_⟩
      simp [bI, c1, n1, c2, n2]
    · have n2 := Int32.not_lt.mp c2
      refine j_iconst (v := 1) C dX11_isWithin_10 (by decide) ?_
      refine j_goto (tgt := 15) C dX11_isWithin_11 (by decide) ?_
      refine j_zret C rfl ⟨rfl, _, rfl, ?_⟩ dX11_isWithin_15
      refine ⟨rfl, ?_⟩
      simp [bI, c1, n1, c2, n2]
abbrev rm_X11_isLane : Room := { frames := 1, cells := 0, slots := 0, locals := 22 }
set_option maxHeartbeats 4000000 in
set_option maxRecDepth 100000 in
theorem k_X11_isLane (l : Launch) (σ : Sh) (V : Vt) (z0 : Int32) : Ct l yX11_isLane cX11_isLane 1 (some .boolean) rm_X11_isLane σ V [.int (z0)] (rI fun x V2 => V2 = V ∧ x = bI (0 ≤ z0 ∧ z0 ≤ 2)) := by
  refine Ct_of (by decide) (Nat.le_of_ble_eq_true rfl) ?_
  intro p e s m below meth c A D cy ls C hl
  have hl : lv_has ls 1 [(0, .int (z0))] := hl
  refine j_iload_n C dX11_isLane_0 rfl (lv_at hl 0 rfl) ?_
  refine j_iconst (v := 0) C dX11_isLane_1 (by decide) ?_
  refine j_iconst (v := 2) C dX11_isLane_2 (by decide) ?_
  refine j_callS C [.int (z0), .int (0), .int (2)] [] (k_X11_isWithin l (σ) V (z0) (0) (2)) v_RX11_143 ⟨rfl, rfl, Nat.le_of_ble_eq_true rfl, Nat.le_of_ble_eq_true rfl⟩ rfl hl.1 rfl (Nat.le_of_ble_eq_true rfl) ⟨Nat.le_of_ble_eq_true rfl, Nat.le_of_ble_eq_true rfl⟩ dX11_isLane_3 (kI fun x1 U1 h1 => ?_)
  obtain ⟨rfl, h1⟩ := h1
  refine j_zret C (by rw [h1]; exact bI_n) ⟨rfl, _, rfl, ?_⟩ dX11_isLane_6
  exact ⟨rfl, h1⟩
abbrev rm_X2_isFull : Room := { frames := 0, cells := 0, slots := 0, locals := 0 }
set_option maxHeartbeats 4000000 in
set_option maxRecDepth 100000 in
theorem k_X2_isFull (l : Launch) (ad tk : Nat → Nat) (nt : Nat) (V : Vt) (k : Nat) (hg : isG k)  : Ct l yX2_isFull cX2_isFull 1 (some .boolean) rm_X2_isFull (xS ad tk nt) V [.ref (ad (k))] (rI fun x V2 => V2 = V ∧ x = bI (8 ≤ V k 2)) := by
  refine Ct_of (by decide) (Nat.le_of_ble_eq_true rfl) ?_
  intro p e s m below meth c A D cy ls C hl
  have hl : lv_has ls 1 [(0, .ref (ad (k)))] := hl
  refine j_aload_n C dX2_isFull_0 rfl (lv_at hl 0 rfl) ?_
  refine j_getI (k := k) C (f_RX2_25_2) (xl (xG (tk := tk) (nt := nt) hg).1.1) ((xG (tk := tk) (nt := nt) hg).2.1) dX2_isFull_1 ?_
  refine j_bipush (v := 8) C dX2_isFull_4 (by decide) ?_
  refine j_icmp_lt (tgt := 13) C dX2_isFull_6 (by decide) (fun c1 => ?_) (fun c1 => ?_)
  · have n1 := Int32.not_le.mpr c1
    refine j_iconst (v := 0) C dX2_isFull_13 (by decide) ?_
    refine j_zret C rfl ⟨rfl, _, rfl, ?_⟩ dX2_isFull_14
    refine ⟨rfl, ?_⟩
    simp [bI, c1, n1]
  · have n1 := Int32.not_lt.mp c1
    refine j_iconst (v := 1) C dX2_isFull_9 (by decide) ?_
    refine j_goto (tgt := 14) C dX2_isFull_10 (by decide) ?_
    refine j_zret C rfl ⟨rfl, _, rfl, ?_⟩ dX2_isFull_14
    refine ⟨rfl, ?_⟩
    simp [bI, c1, n1]
abbrev rm_X2_nearness : Room := { frames := 2, cells := 0, slots := 0, locals := 45 }
set_option maxHeartbeats 4000000 in
set_option maxRecDepth 100000 in
theorem k_X2_nearness (l : Launch) (ad tk : Nat → Nat) (nt : Nat) (V : Vt) (k : Nat) (hg : isG k) (z0 z1 : Int32) : Ct l yX2_nearness cX2_nearness 3 (some .int) rm_X2_nearness (xS ad tk nt) V [.ref (ad (k)), .int (z0), .int (z1)] (rI fun x V2 => V2 = V ∧ x = near z0 (V k 0) (V k 1) z1) := by
  refine Ct_of (by decide) (Nat.le_of_ble_eq_true rfl) ?_
  intro p e s m below meth c A D cy ls C hl
  have hl : lv_has ls 3 [(0, .ref (ad (k))), (1, .int (z0)), (2, .int (z1))] := hl
  refine j_iload_n C dX2_nearness_0 rfl (lv_at hl 1 rfl) ?_
  refine j_aload_n C dX2_nearness_1 rfl (lv_at hl 0 rfl) ?_
  refine j_getI (k := k) C (f_RX2_18_2) (xl (xG (tk := tk) (nt := nt) hg).1.1) ((xG (tk := tk) (nt := nt) hg).2.1) dX2_nearness_2 ?_
  refine j_aload_n C dX2_nearness_5 rfl (lv_at hl 0 rfl) ?_
  refine j_getI (k := k) C (f_RX2_22_2) (xl (xG (tk := tk) (nt := nt) hg).1.1) ((xG (tk := tk) (nt := nt) hg).2.1) dX2_nearness_6 ?_
  refine j_iload_n C dX2_nearness_9 rfl (lv_at hl 2 rfl) ?_
  refine j_callN C [.int (z0), .int (V k 0), .int (V k 1), .int (z1)] [] (k_X11_nearnessBy l (xS ad tk nt) V (z0) (V k 0) (V k 1) (z1)) v_RX2_42 ⟨rfl, rfl, Nat.le_of_ble_eq_true rfl, Nat.le_of_ble_eq_true rfl⟩ rfl hl.1 rfl (Nat.le_of_ble_eq_true rfl) ⟨Nat.le_of_ble_eq_true rfl, Nat.le_of_ble_eq_true rfl⟩ dX2_nearness_10 (kI fun x1 U1 h1 => ?_)
  obtain ⟨rfl, h1⟩ := h1
  refine j_iret C ⟨rfl, _, rfl, ?_⟩ dX2_nearness_13
  exact ⟨rfl, h1⟩
abbrev rm_X2_stand : Room := { frames := 0, cells := 0, slots := 0, locals := 0 }
set_option maxHeartbeats 4000000 in
set_option maxRecDepth 100000 in
theorem k_X2_stand (l : Launch) (ad tk : Nat → Nat) (nt : Nat) (V : Vt) (k : Nat) (hg : isG k) (z0 z1 : Int32) : Ct l yX2_stand cX2_stand 3 none rm_X2_stand (xS ad tk nt) V [.ref (ad (k)), .int (z0), .int (z1)] (rU fun V2 => V2 = up2 (up2 (up2 V k 0 z0) k 1 z1) k 2 0) := by
  refine Ct_of (by decide) (Nat.le_of_ble_eq_true rfl) ?_
  intro p e s m below meth c A D cy ls C hl
  have hl : lv_has ls 3 [(0, .ref (ad (k))), (1, .int (z0)), (2, .int (z1))] := hl
  refine j_aload_n C dX2_stand_0 rfl (lv_at hl 0 rfl) ?_
  refine j_iload_n C dX2_stand_1 rfl (lv_at hl 1 rfl) ?_
  refine j_putI (k := k) C (f_RX2_18_2) p_2_0 (xl (xG (tk := tk) (nt := nt) hg).1.1) ((xG (tk := tk) (nt := nt) hg).2.1) dX2_stand_2 (fun V1 eV1 => ?_)
  refine j_aload_n C dX2_stand_5 rfl (lv_at hl 0 rfl) ?_
  refine j_iload_n C dX2_stand_6 rfl (lv_at hl 2 rfl) ?_
  refine j_putI (k := k) C (f_RX2_22_2) p_2_1 (xl (xG (tk := tk) (nt := nt) hg).1.1) ((xG (tk := tk) (nt := nt) hg).2.1) dX2_stand_7 (fun V2 eV2 => ?_)
  refine j_aload_n C dX2_stand_10 rfl (lv_at hl 0 rfl) ?_
  refine j_iconst (v := 0) C dX2_stand_11 (by decide) ?_
  refine j_putI (k := k) C (f_RX2_25_2) p_2_2 (xl (xG (tk := tk) (nt := nt) hg).1.1) ((xG (tk := tk) (nt := nt) hg).2.1) dX2_stand_12 (fun V3 eV3 => ?_)
  refine j_vret C ⟨rfl, rfl, ?_⟩ dX2_stand_15
  subst eV1 eV2 eV3
  rfl
