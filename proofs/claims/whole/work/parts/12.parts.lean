abbrev rm_X11_reachOf : Room := { frames := 0, cells := 0, slots := 0, locals := 0 }
set_option maxHeartbeats 4000000 in
set_option maxRecDepth 100000 in
theorem k_X11_reachOf (l : Launch) (σ : Sh) (V : Vt) (z0 z1 : Int32) : Ct l yX11_reachOf cX11_reachOf 2 (some .int) rm_X11_reachOf σ V [.int (z0), .int (z1)] (rI fun x V2 => V2 = V ∧ x = rch z0 z1) := by
  refine Ct_of (by decide) (Nat.le_of_ble_eq_true rfl) ?_
  intro p e s m below meth c A D cy ls C hl
  have hl : lv_has ls 2 [(0, .int (z0)), (1, .int (z1))] := hl
  refine j_iload_n C dX11_reachOf_0 rfl (lv_at hl 0 rfl) ?_
  by_cases s_1_ : z0 = 1
  · refine j_lookup (off := 27) (tgt := 28) C dX11_reachOf_1 (by decide) (by rw [s_1_]; rfl) (by decide) ?_
    refine j_iload_n C dX11_reachOf_28 rfl (lv_at hl 1 rfl) ?_
    refine j_iconst (v := 1) C dX11_reachOf_29 (by decide) ?_
    refine j_iadd C dX11_reachOf_30 ?_
    refine j_iret C ⟨rfl, _, rfl, ?_⟩ dX11_reachOf_31
    refine ⟨rfl, ?_⟩
    simp [rch, s_1_]
  · skip
    by_cases s_2_ : z0 = 2
    · refine j_lookup (off := 31) (tgt := 32) C dX11_reachOf_1 (by decide) (by rw [s_2_]; rfl) (by decide) ?_
      refine j_iconst (v := 2) C dX11_reachOf_32 (by decide) ?_
      refine j_iload_n C dX11_reachOf_33 rfl (lv_at hl 1 rfl) ?_
      refine j_imul C dX11_reachOf_34 ?_
      refine j_iret C ⟨rfl, _, rfl, ?_⟩ dX11_reachOf_35
      refine ⟨rfl, ?_⟩
      simp [rch, s_1_, s_2_]
    · skip
      refine j_lookup (off := 35) (tgt := 36) C dX11_reachOf_1 (by decide) (by simp only []; rw [Op.lookupswitch.offset_cons, if_neg (show ¬ (1 : Int) = (z0).toInt from ne_toInt s_1_), Op.lookupswitch.offset_cons, if_neg (show ¬ (2 : Int) = (z0).toInt from ne_toInt s_2_), Op.lookupswitch.offset_nil]) (by decide) ?_
      refine j_iload_n C dX11_reachOf_36 rfl (lv_at hl 1 rfl) ?_
      refine j_iret C ⟨rfl, _, rfl, ?_⟩ dX11_reachOf_37
      refine ⟨rfl, ?_⟩
      simp [rch, s_1_, s_2_]
abbrev rm_X11_isAskedOfFeasts : Room := { frames := 1, cells := 0, slots := 0, locals := 22 }
set_option maxHeartbeats 4000000 in
set_option maxRecDepth 100000 in
theorem k_X11_isAskedOfFeasts (l : Launch) (σ : Sh) (V : Vt) (z0 : Int32) : Ct l yX11_isAskedOfFeasts cX11_isAskedOfFeasts 1 (some .boolean) rm_X11_isAskedOfFeasts σ V [.int (z0)] (rI fun x V2 => V2 = V ∧ x = bI ((0 ≤ z0 ∧ z0 ≤ 4) ∨ (10 ≤ z0 ∧ z0 ≤ 13))) := by
  refine Ct_of (by decide) (Nat.le_of_ble_eq_true rfl) ?_
  intro p e s m below meth c A D cy ls C hl
  have hl : lv_has ls 1 [(0, .int (z0))] := hl
  refine j_iload_n C dX11_isAskedOfFeasts_0 rfl (lv_at hl 0 rfl) ?_
  refine j_iconst (v := 0) C dX11_isAskedOfFeasts_1 (by decide) ?_
  refine j_iconst (v := 4) C dX11_isAskedOfFeasts_2 (by decide) ?_
  refine j_callS C [.int (z0), .int (0), .int (4)] [] (k_X11_isWithin l (σ) V (z0) (0) (4)) v_RX11_143 ⟨rfl, rfl, Nat.le_of_ble_eq_true rfl, Nat.le_of_ble_eq_true rfl⟩ rfl hl.1 rfl (Nat.le_of_ble_eq_true rfl) ⟨Nat.le_of_ble_eq_true rfl, Nat.le_of_ble_eq_true rfl⟩ dX11_isAskedOfFeasts_3 (kI fun x_1_ U1 h_1_ => ?_)
  obtain ⟨eU1, h_1_⟩ := h_1_
  have eU1 := eU1.symm
  subst eU1
  refine j_if_ne (tgt := 20) C dX11_isAskedOfFeasts_6 (by decide) (fun c_2_ => ?_) (fun c_2_ => ?_)
  · skip
    refine j_iconst (v := 1) C dX11_isAskedOfFeasts_20 (by decide) ?_
    refine j_goto (tgt := 25) C dX11_isAskedOfFeasts_21 (by decide) ?_
    refine j_zret C rfl ⟨rfl, _, rfl, ?_⟩ dX11_isAskedOfFeasts_25
    refine ⟨rfl, ?_⟩
    simp_all [bI]
  · skip
    refine j_iload_n C dX11_isAskedOfFeasts_9 rfl (lv_at hl 0 rfl) ?_
    refine j_bipush (v := 10) C dX11_isAskedOfFeasts_10 (by decide) ?_
    refine j_bipush (v := 13) C dX11_isAskedOfFeasts_12 (by decide) ?_
    refine j_callS C [.int (z0), .int (10), .int (13)] [] (k_X11_isWithin l (σ) V (z0) (10) (13)) v_RX11_143 ⟨rfl, rfl, Nat.le_of_ble_eq_true rfl, Nat.le_of_ble_eq_true rfl⟩ rfl hl.1 rfl (Nat.le_of_ble_eq_true rfl) ⟨Nat.le_of_ble_eq_true rfl, Nat.le_of_ble_eq_true rfl⟩ dX11_isAskedOfFeasts_14 (kI fun x_3_ U3 h_3_ => ?_)
    obtain ⟨eU3, h_3_⟩ := h_3_
    have eU3 := eU3.symm
    subst eU3
    refine j_if_eq (tgt := 24) C dX11_isAskedOfFeasts_17 (by decide) (fun c_4_ => ?_) (fun c_4_ => ?_)
    · skip
      refine j_iconst (v := 0) C dX11_isAskedOfFeasts_24 (by decide) ?_
      refine j_zret C rfl ⟨rfl, _, rfl, ?_⟩ dX11_isAskedOfFeasts_25
      refine ⟨rfl, ?_⟩
      simp_all [bI]
    · skip
      refine j_iconst (v := 1) C dX11_isAskedOfFeasts_20 (by decide) ?_
      refine j_goto (tgt := 25) C dX11_isAskedOfFeasts_21 (by decide) ?_
      refine j_zret C rfl ⟨rfl, _, rfl, ?_⟩ dX11_isAskedOfFeasts_25
      refine ⟨rfl, ?_⟩
      simp_all [bI]
abbrev rm_X9_digit : Room := { frames := 0, cells := 0, slots := 0, locals := 0 }
set_option maxHeartbeats 4000000 in
set_option maxRecDepth 100000 in
theorem k_X9_digit (l : Launch) (σ : Sh) (V : Vt) (z0 : Int32) : Ct l yX9_digit cX9_digit 1 (some .int) rm_X9_digit σ V [.int (z0)] (rI fun x V2 => V2 = V ∧ x = if 48 ≤ z0 ∧ z0 ≤ 57 then z0 - 48 else -9) := by
  refine Ct_of (by decide) (Nat.le_of_ble_eq_true rfl) ?_
  intro p e s m below meth c A D cy ls C hl
  have hl : lv_has ls 1 [(0, .int (z0))] := hl
  refine j_iload_n C dX9_digit_0 rfl (lv_at hl 0 rfl) ?_
  refine j_bipush (v := 48) C dX9_digit_1 (by decide) ?_
  refine j_icmp_lt (tgt := 19) C dX9_digit_3 (by decide) (fun c_1_ => ?_) (fun c_1_ => ?_)
  · have n_1_ := Int32.not_le.mpr c_1_
    refine j_bipush (v := (-9)) C dX9_digit_19 (by decide) ?_
    refine j_iret C ⟨rfl, _, rfl, ?_⟩ dX9_digit_21
    refine ⟨rfl, ?_⟩
    simp [c_1_, n_1_]
  · have n_1_ := Int32.not_lt.mp c_1_
    refine j_iload_n C dX9_digit_6 rfl (lv_at hl 0 rfl) ?_
    refine j_bipush (v := 57) C dX9_digit_7 (by decide) ?_
    refine j_icmp_gt (tgt := 19) C dX9_digit_9 (by decide) (fun c_2_ => ?_) (fun c_2_ => ?_)
    · have n_2_ := Int32.not_le.mpr c_2_
      refine j_bipush (v := (-9)) C dX9_digit_19 (by decide) ?_
      refine j_iret C ⟨rfl, _, rfl, ?_⟩ dX9_digit_21
      refine ⟨rfl, ?_⟩
      simp [c_1_, n_1_, c_2_, n_2_]
    · have n_2_ := Int32.not_lt.mp c_2_
      refine j_iload_n C dX9_digit_12 rfl (lv_at hl 0 rfl) ?_
      refine j_bipush (v := 48) C dX9_digit_13 (by decide) ?_
      refine j_isub C dX9_digit_15 ?_
      refine j_goto (tgt := 21) C dX9_digit_16 (by decide) ?_
      refine j_iret C ⟨rfl, _, rfl, ?_⟩ dX9_digit_21
      refine ⟨rfl, ?_⟩
      simp [c_1_, n_1_, c_2_, n_2_]
abbrev rm_X9_kindBy : Room := { frames := 0, cells := 0, slots := 0, locals := 0 }
set_option maxHeartbeats 4000000 in
set_option maxRecDepth 100000 in
theorem k_X9_kindBy (l : Launch) (σ : Sh) (V : Vt) (z0 : Int32) : Ct l yX9_kindBy cX9_kindBy 1 (some .int) rm_X9_kindBy σ V [.int (z0)] (rI fun x V2 => V2 = V ∧ x = if z0 = 114 then 0 else if z0 = 108 then 1 else if z0 = 115 then 2 else -9) := by
  refine Ct_of (by decide) (Nat.le_of_ble_eq_true rfl) ?_
  intro p e s m below meth c A D cy ls C hl
  have hl : lv_has ls 1 [(0, .int (z0))] := hl
  refine j_iload_n C dX9_kindBy_0 rfl (lv_at hl 0 rfl) ?_
  by_cases s_1_ : z0 = 108
  · refine j_lookup (off := 37) (tgt := 38) C dX9_kindBy_1 (by decide) (by rw [s_1_]; rfl) (by decide) ?_
    refine j_iconst (v := 1) C dX9_kindBy_38 (by decide) ?_
    refine j_iret C ⟨rfl, _, rfl, ?_⟩ dX9_kindBy_39
    refine ⟨rfl, ?_⟩
    simp_all
  · skip
    by_cases s_2_ : z0 = 114
    · refine j_lookup (off := 35) (tgt := 36) C dX9_kindBy_1 (by decide) (by rw [s_2_]; rfl) (by decide) ?_
      refine j_iconst (v := 0) C dX9_kindBy_36 (by decide) ?_
      refine j_iret C ⟨rfl, _, rfl, ?_⟩ dX9_kindBy_37
      refine ⟨rfl, ?_⟩
      simp_all
    · skip
      by_cases s_3_ : z0 = 115
      · refine j_lookup (off := 39) (tgt := 40) C dX9_kindBy_1 (by decide) (by rw [s_3_]; rfl) (by decide) ?_
        refine j_iconst (v := 2) C dX9_kindBy_40 (by decide) ?_
        refine j_iret C ⟨rfl, _, rfl, ?_⟩ dX9_kindBy_41
        refine ⟨rfl, ?_⟩
        simp_all
      · skip
        refine j_lookup (off := 41) (tgt := 42) C dX9_kindBy_1 (by decide) (by simp only []; rw [Op.lookupswitch.offset_cons, if_neg (show ¬ (108 : Int) = (z0).toInt from ne_toInt s_1_), Op.lookupswitch.offset_cons, if_neg (show ¬ (114 : Int) = (z0).toInt from ne_toInt s_2_), Op.lookupswitch.offset_cons, if_neg (show ¬ (115 : Int) = (z0).toInt from ne_toInt s_3_), Op.lookupswitch.offset_nil]) (by decide) ?_
        refine j_bipush (v := (-9)) C dX9_kindBy_42 (by decide) ?_
        refine j_iret C ⟨rfl, _, rfl, ?_⟩ dX9_kindBy_44
        refine ⟨rfl, ?_⟩
        simp_all
abbrev rm_X7_hasNothing : Room := { frames := 0, cells := 0, slots := 0, locals := 0 }
set_option maxHeartbeats 4000000 in
set_option maxRecDepth 100000 in
theorem k_X7_hasNothing (l : Launch) (ad tk : Nat → Nat) (nt : Nat) (V : Vt) (k : Nat) (hg : isH k)  : Ct l yX7_hasNothing cX7_hasNothing 1 (some .boolean) rm_X7_hasNothing (xS ad tk nt) V [.ref (ad (k))] (rI fun x V2 => V2 = V ∧ x = bI (V k 0 = -1)) := by
  refine Ct_of (by decide) (Nat.le_of_ble_eq_true rfl) ?_
  intro p e s m below meth c A D cy ls C hl
  have hl : lv_has ls 1 [(0, .ref (ad (k)))] := hl
  refine j_aload_n C dX7_hasNothing_0 rfl (lv_at hl 0 rfl) ?_
  refine j_getI (k := k) C (f_RX7_11_7) (xl (xH (tk := tk) (nt := nt) hg).1.1) ((xH (tk := tk) (nt := nt) hg).2.1) dX7_hasNothing_1 ?_
  refine j_iconst (v := (-1)) C dX7_hasNothing_4 (by decide) ?_
  refine j_icmp_ne (tgt := 12) C dX7_hasNothing_5 (by decide) (fun c_1_ => ?_) (fun c_1_ => ?_)
  · skip
    refine j_iconst (v := 0) C dX7_hasNothing_12 (by decide) ?_
    refine j_zret C rfl ⟨rfl, _, rfl, ?_⟩ dX7_hasNothing_13
    refine ⟨rfl, ?_⟩
    simp [bI, c_1_]
  · skip
    refine j_iconst (v := 1) C dX7_hasNothing_8 (by decide) ?_
    refine j_goto (tgt := 13) C dX7_hasNothing_9 (by decide) ?_
    refine j_zret C rfl ⟨rfl, _, rfl, ?_⟩ dX7_hasNothing_13
    refine ⟨rfl, ?_⟩
    simp [bI, c_1_]
abbrev rm_X7_forget : Room := { frames := 0, cells := 0, slots := 0, locals := 0 }
set_option maxHeartbeats 4000000 in
set_option maxRecDepth 100000 in
theorem k_X7_forget (l : Launch) (ad tk : Nat → Nat) (nt : Nat) (V : Vt) (k : Nat) (hg : isH k)  : Ct l yX7_forget cX7_forget 1 none rm_X7_forget (xS ad tk nt) V [.ref (ad (k))] (rU fun V2 => V2 = up2 (up2 V k 0 (-1)) k 1 0) := by
  refine Ct_of (by decide) (Nat.le_of_ble_eq_true rfl) ?_
  intro p e s m below meth c A D cy ls C hl
  have hl : lv_has ls 1 [(0, .ref (ad (k)))] := hl
  refine j_aload_n C dX7_forget_0 rfl (lv_at hl 0 rfl) ?_
  refine j_iconst (v := (-1)) C dX7_forget_1 (by decide) ?_
  refine j_putI (k := k) C (f_RX7_11_7) p_7_0 (xl (xH (tk := tk) (nt := nt) hg).1.1) ((xH (tk := tk) (nt := nt) hg).2.1) dX7_forget_2 (fun V1 eV1 => ?_)
  refine j_aload_n C dX7_forget_5 rfl (lv_at hl 0 rfl) ?_
  refine j_iconst (v := 0) C dX7_forget_6 (by decide) ?_
  refine j_putI (k := k) C (f_RX7_19_7) p_7_1 (xl (xH (tk := tk) (nt := nt) hg).1.1) ((xH (tk := tk) (nt := nt) hg).2.1) dX7_forget_7 (fun V2 eV2 => ?_)
  refine j_vret C ⟨rfl, rfl, ?_⟩ dX7_forget_10
  subst eV1 eV2
  rfl
abbrev rm_X7_faultAs : Room := { frames := 1, cells := 0, slots := 0, locals := 20 }
set_option maxHeartbeats 4000000 in
set_option maxRecDepth 100000 in
theorem k_X7_faultAs (l : Launch) (ad tk : Nat → Nat) (nt : Nat) (V : Vt) (k : Nat) (hg : isH k) (z : Int32) : Ct l yX7_faultAs cX7_faultAs 2 (some .int) rm_X7_faultAs (xS ad tk nt) V [.ref (ad (k)), .int (z)] (rI fun x V2 => V2 = V ∧ x = if V k 0 = -1 then 1 else if V k 0 = z then 0 else 2) := by
  refine Ct_of (by decide) (Nat.le_of_ble_eq_true rfl) ?_
  intro p e s m below meth c A D cy ls C hl
  have hl : lv_has ls 2 [(0, .ref (ad (k))), (1, .int (z))] := hl
  refine j_aload_n C dX7_faultAs_0 rfl (lv_at hl 0 rfl) ?_
  refine j_callV (k := k) C [] [] (k_X7_hasNothing l ad tk nt V k hg  ) v_RX7_22 (xl (xH (tk := tk) (nt := nt) hg).1.1) ((xH (tk := tk) (nt := nt) hg).2.1) rfl ⟨rfl, rfl, Nat.le_of_ble_eq_true rfl, Nat.le_of_ble_eq_true rfl⟩ rfl hl.1 rfl (Nat.le_of_ble_eq_true rfl) ⟨Nat.le_of_ble_eq_true rfl, Nat.le_of_ble_eq_true rfl⟩ dX7_faultAs_1 (kI fun x_1_ U1 h_1_ => ?_)
  obtain ⟨eU1, h_1_⟩ := h_1_
  have eU1 := eU1.symm
  subst eU1
  refine j_if_eq (tgt := 9) C dX7_faultAs_4 (by decide) (fun c_2_ => ?_) (fun c_2_ => ?_)
  · skip
    refine j_aload_n C dX7_faultAs_9 rfl (lv_at hl 0 rfl) ?_
    refine j_getI (k := k) C (f_RX7_11_7) (xl (xH (tk := tk) (nt := nt) hg).1.1) ((xH (tk := tk) (nt := nt) hg).2.1) dX7_faultAs_10 ?_
    refine j_iload_n C dX7_faultAs_13 rfl (lv_at hl 1 rfl) ?_
    refine j_icmp_ne (tgt := 21) C dX7_faultAs_14 (by decide) (fun c_3_ => ?_) (fun c_3_ => ?_)
    · skip
      refine j_iconst (v := 2) C dX7_faultAs_21 (by decide) ?_
      refine j_iret C ⟨rfl, _, rfl, ?_⟩ dX7_faultAs_22
      refine ⟨rfl, ?_⟩
      simp_all [bI]
    · skip
      refine j_iconst (v := 0) C dX7_faultAs_17 (by decide) ?_
      refine j_goto (tgt := 22) C dX7_faultAs_18 (by decide) ?_
      refine j_iret C ⟨rfl, _, rfl, ?_⟩ dX7_faultAs_22
      refine ⟨rfl, ?_⟩
      simp_all [bI]
  · skip
    refine j_iconst (v := 1) C dX7_faultAs_7 (by decide) ?_
    refine j_iret C ⟨rfl, _, rfl, ?_⟩ dX7_faultAs_8
    refine ⟨rfl, ?_⟩
    simp_all [bI]
abbrev rm_X7_hasCell : Room := { frames := 0, cells := 0, slots := 0, locals := 0 }
set_option maxHeartbeats 4000000 in
set_option maxRecDepth 100000 in
theorem k_X7_hasCell (l : Launch) (ad tk : Nat → Nat) (nt : Nat) (V : Vt) (k : Nat) (hg : isH k) (z : Int32) : Ct l yX7_hasCell cX7_hasCell 2 (some .boolean) rm_X7_hasCell (xS ad tk nt) V [.ref (ad (k)), .int (z)] (rI fun x V2 => V2 = V ∧ x = bI (0 ≤ z ∧ z < V k 1)) := by
  refine Ct_of (by decide) (Nat.le_of_ble_eq_true rfl) ?_
  intro p e s m below meth c A D cy ls C hl
  have hl : lv_has ls 2 [(0, .ref (ad (k))), (1, .int (z))] := hl
  refine j_iload_n C dX7_hasCell_0 rfl (lv_at hl 1 rfl) ?_
  refine j_if_lt (tgt := 16) C dX7_hasCell_1 (by decide) (fun c_1_ => ?_) (fun c_1_ => ?_)
  · have n_1_ := Int32.not_le.mpr c_1_
    refine j_iconst (v := 0) C dX7_hasCell_16 (by decide) ?_
    refine j_zret C rfl ⟨rfl, _, rfl, ?_⟩ dX7_hasCell_17
    refine ⟨rfl, ?_⟩
    simp [bI, c_1_, n_1_]
  · have n_1_ := Int32.not_lt.mp c_1_
    refine j_iload_n C dX7_hasCell_4 rfl (lv_at hl 1 rfl) ?_
    refine j_aload_n C dX7_hasCell_5 rfl (lv_at hl 0 rfl) ?_
    refine j_getI (k := k) C (f_RX7_19_7) (xl (xH (tk := tk) (nt := nt) hg).1.1) ((xH (tk := tk) (nt := nt) hg).2.1) dX7_hasCell_6 ?_
    refine j_icmp_ge (tgt := 16) C dX7_hasCell_9 (by decide) (fun c_2_ => ?_) (fun c_2_ => ?_)
    · have n_2_ := Int32.not_lt.mpr c_2_
      refine j_iconst (v := 0) C dX7_hasCell_16 (by decide) ?_
      refine j_zret C rfl ⟨rfl, _, rfl, ?_⟩ dX7_hasCell_17
      refine ⟨rfl, ?_⟩
      simp [bI, c_1_, n_1_, c_2_, n_2_]
    · have n_2_ := Int32.not_le.mp c_2_
      refine j_iconst (v := 1) C dX7_hasCell_12 (by decide) ?_
      refine j_goto (tgt := 17) C dX7_hasCell_13 (by decide) ?_
      refine j_zret C rfl ⟨rfl, _, rfl, ?_⟩ dX7_hasCell_17
      refine ⟨rfl, ?_⟩
      simp [bI, c_1_, n_1_, c_2_, n_2_]
abbrev rm_X7_reaches : Room := { frames := 0, cells := 0, slots := 0, locals := 0 }
set_option maxHeartbeats 4000000 in
set_option maxRecDepth 100000 in
theorem k_X7_reaches (l : Launch) (ad tk : Nat → Nat) (nt : Nat) (V : Vt) (k : Nat) (hg : isH k) (z0 z1 : Int32) : Ct l yX7_reaches cX7_reaches 3 (some .boolean) rm_X7_reaches (xS ad tk nt) V [.ref (ad (k)), .int (z0), .int (z1)] (rI fun x V2 => V2 = V ∧ x = bI (0 ≤ z0 ∧ z0 ≤ V k 1 ∧ 0 ≤ z1 ∧ z1 ≤ V k 1 - z0)) := by
  refine Ct_of (by decide) (Nat.le_of_ble_eq_true rfl) ?_
  intro p e s m below meth c A D cy ls C hl
  have hl : lv_has ls 3 [(0, .ref (ad (k))), (1, .int (z0)), (2, .int (z1))] := hl
  refine j_iload_n C dX7_reaches_0 rfl (lv_at hl 1 rfl) ?_
  refine j_if_lt (tgt := 30) C dX7_reaches_1 (by decide) (fun c_1_ => ?_) (fun c_1_ => ?_)
  · have n_1_ := Int32.not_le.mpr c_1_
    refine j_iconst (v := 0) C dX7_reaches_30 (by decide) ?_
    refine j_zret C rfl ⟨rfl, _, rfl, ?_⟩ dX7_reaches_31
    refine ⟨rfl, ?_⟩
    simp [bI, c_1_, n_1_]
  · have n_1_ := Int32.not_lt.mp c_1_
    refine j_iload_n C dX7_reaches_4 rfl (lv_at hl 1 rfl) ?_
    refine j_aload_n C dX7_reaches_5 rfl (lv_at hl 0 rfl) ?_
    refine j_getI (k := k) C (f_RX7_19_7) (xl (xH (tk := tk) (nt := nt) hg).1.1) ((xH (tk := tk) (nt := nt) hg).2.1) dX7_reaches_6 ?_
    refine j_icmp_gt (tgt := 30) C dX7_reaches_9 (by decide) (fun c_2_ => ?_) (fun c_2_ => ?_)
    · have n_2_ := Int32.not_le.mpr c_2_
      refine j_iconst (v := 0) C dX7_reaches_30 (by decide) ?_
      refine j_zret C rfl ⟨rfl, _, rfl, ?_⟩ dX7_reaches_31
      refine ⟨rfl, ?_⟩
      simp [bI, c_1_, n_1_, c_2_, n_2_]
    · have n_2_ := Int32.not_lt.mp c_2_
      refine j_iload_n C dX7_reaches_12 rfl (lv_at hl 2 rfl) ?_
      refine j_if_lt (tgt := 30) C dX7_reaches_13 (by decide) (fun c_3_ => ?_) (fun c_3_ => ?_)
      · have n_3_ := Int32.not_le.mpr c_3_
        refine j_iconst (v := 0) C dX7_reaches_30 (by decide) ?_
        refine j_zret C rfl ⟨rfl, _, rfl, ?_⟩ dX7_reaches_31
        refine ⟨rfl, ?_⟩
        simp [bI, c_1_, n_1_, c_2_, n_2_, c_3_, n_3_]
      · have n_3_ := Int32.not_lt.mp c_3_
        refine j_iload_n C dX7_reaches_16 rfl (lv_at hl 2 rfl) ?_
        refine j_aload_n C dX7_reaches_17 rfl (lv_at hl 0 rfl) ?_
        refine j_getI (k := k) C (f_RX7_19_7) (xl (xH (tk := tk) (nt := nt) hg).1.1) ((xH (tk := tk) (nt := nt) hg).2.1) dX7_reaches_18 ?_
        refine j_iload_n C dX7_reaches_21 rfl (lv_at hl 1 rfl) ?_
        refine j_isub C dX7_reaches_22 ?_
        refine j_icmp_gt (tgt := 30) C dX7_reaches_23 (by decide) (fun c_4_ => ?_) (fun c_4_ => ?_)
        · have n_4_ := Int32.not_le.mpr c_4_
          refine j_iconst (v := 0) C dX7_reaches_30 (by decide) ?_
          refine j_zret C rfl ⟨rfl, _, rfl, ?_⟩ dX7_reaches_31
          refine ⟨rfl, ?_⟩
          simp [bI, c_1_, n_1_, c_2_, n_2_, c_3_, n_3_, c_4_, n_4_]
        · have n_4_ := Int32.not_lt.mp c_4_
          refine j_iconst (v := 1) C dX7_reaches_26 (by decide) ?_
          refine j_goto (tgt := 31) C dX7_reaches_27 (by decide) ?_
          refine j_zret C rfl ⟨rfl, _, rfl, ?_⟩ dX7_reaches_31
          refine ⟨rfl, ?_⟩
          simp [bI, c_1_, n_1_, c_2_, n_2_, c_3_, n_3_, c_4_, n_4_]
def cutI (lane v : Int32) : Int32 := if lane = 0 then v.toInt8.toInt32 else if lane = 1 then v.toInt16.toInt32 else v
/-- a cell of a row, 0 beyond it -/
def atS (f : Nat → Int32) (len z : Int32) : Int32 := if 0 ≤ z ∧ z < len then f z.toNatClampNeg else 0
theorem in60 {z len : Int32} {n : Nat} (h : 0 ≤ z) (h_2_ : z < len) (hn : len = nI n) (h_60_ : n ≤ 60) : vp_in z 60 := by
  refine inR (Int32.not_lt.mpr h) (Int32.not_le.mpr ?_) (by decide)
  rw [hn] at h_2_
  exact Int32.lt_of_lt_of_le h_2_ (nI_le h_60_ (by decide))
abbrev rm_X7_at : Room := { frames := 1, cells := 0, slots := 0, locals := 21 }
set_option maxHeartbeats 4000000 in
set_option maxRecDepth 100000 in
theorem k_X7_at (l : Launch) (ad tk : Nat → Nat) (nt : Nat) (V : Vt) (k : Nat) (hg : isH k) (n : Nat) (hn : V k 1 = nI n) (h_60_ : n ≤ 60) (z : Int32) : Ct l yX7_at cX7_at 2 (some .int) rm_X7_at (xS ad tk nt) V [.ref (ad (k)), .int (z)] (rI fun x V2 => V2 = V ∧ x = atS (V (k + 1)) (V k 1) z) := by
  refine Ct_of (by decide) (Nat.le_of_ble_eq_true rfl) ?_
  intro p e s m below meth c A D cy ls C hl
  have hl : lv_has ls 2 [(0, .ref (ad (k))), (1, .int (z))] := hl
  refine j_aload_n C dX7_at_0 rfl (lv_at hl 0 rfl) ?_
  refine j_iload_n C dX7_at_1 rfl (lv_at hl 1 rfl) ?_
  refine j_callV (k := k) C [.int (z)] [] (k_X7_hasCell l ad tk nt V k hg  (z)) v_RX7_26 (xl (xH (tk := tk) (nt := nt) hg).1.1) ((xH (tk := tk) (nt := nt) hg).2.1) rfl ⟨rfl, rfl, Nat.le_of_ble_eq_true rfl, Nat.le_of_ble_eq_true rfl⟩ rfl hl.1 rfl (Nat.le_of_ble_eq_true rfl) ⟨Nat.le_of_ble_eq_true rfl, Nat.le_of_ble_eq_true rfl⟩ dX7_at_2 (kI fun x_1_ U1 h_1_ => ?_)
  obtain ⟨eU1, h_1_⟩ := h_1_
  have eU1 := eU1.symm
  subst eU1
  refine j_if_eq (tgt := 26) C dX7_at_5 (by decide) (fun c_2_ => ?_) (fun c_2_ => ?_)
  · skip
    refine j_iconst (v := 0) C dX7_at_26 (by decide) ?_
    refine j_iret C ⟨rfl, _, rfl, ?_⟩ dX7_at_27
    refine ⟨rfl, ?_⟩
    unfold atS
    rw [if_neg (bI_0.mp (h_1_ ▸ c_2_))]
  · skip
    refine j_iload_n C dX7_at_8 rfl (lv_at hl 1 rfl) ?_
    refine j_aload_n C dX7_at_9 rfl (lv_at hl 0 rfl) ?_
    refine j_getR (k := k) (k2 := k + 1) C (f_RX7_15_7) (xl (xH (tk := tk) (nt := nt) hg).1.1) ((xH (tk := tk) (nt := nt) hg).2.1) ((xH (tk := tk) (nt := nt) hg).2.2.2.2) dX7_at_10 ?_
    refine j_alen (k := k + 1) (n := 60) C (xl (xH (tk := tk) (nt := nt) hg).1.2) (Or.inl ((xH (tk := tk) (nt := nt) hg).2.2.1)) ((xH (tk := tk) (nt := nt) hg).2.2.2.1) dX7_at_13 ?_
    refine j_icmp_ge (tgt := 26) C dX7_at_14 (by decide) (fun c_3_ => ?_) (fun c_3_ => ?_)
    · have n_3_ := Int32.not_lt.mpr c_3_
      refine j_iconst (v := 0) C dX7_at_26 (by decide) ?_
      refine j_iret C ⟨rfl, _, rfl, ?_⟩ dX7_at_27
      refine ⟨rfl, ?_⟩
      unfold atS
      exfalso
      have q := Decidable.not_not.mp (mt bI_0.mpr (h_1_ ▸ c_2_))
      have q2 := in60 q.1 q.2 hn h_60_
      exact absurd (vp_in_iff.mp q2).2 (by have := (Int32.le_iff_toInt_le).mp (show nI 60 ≤ z by assumption); rw [nI_toInt (by decide)] at this; omega)
    · have n_3_ := Int32.not_le.mp c_3_
      refine j_aload_n C dX7_at_17 rfl (lv_at hl 0 rfl) ?_
      refine j_getR (k := k) (k2 := k + 1) C (f_RX7_15_7) (xl (xH (tk := tk) (nt := nt) hg).1.1) ((xH (tk := tk) (nt := nt) hg).2.1) ((xH (tk := tk) (nt := nt) hg).2.2.2.2) dX7_at_18 ?_
      refine j_iload_n C dX7_at_21 rfl (lv_at hl 1 rfl) ?_
      refine j_iald (k := k + 1) (n := 60) C (xl (xH (tk := tk) (nt := nt) hg).1.2) ((xH (tk := tk) (nt := nt) hg).2.2.1) ((xH (tk := tk) (nt := nt) hg).2.2.2.1) (by have q := Decidable.not_not.mp (mt bI_0.mpr (h_1_ ▸ c_2_)); exact in60 q.1 q.2 hn h_60_) dX7_at_22 ?_
      refine j_goto (tgt := 27) C dX7_at_23 (by decide) ?_
      refine j_iret C ⟨rfl, _, rfl, ?_⟩ dX7_at_27
      refine ⟨rfl, ?_⟩
      have q := Decidable.not_not.mp (mt bI_0.mpr (h_1_ ▸ c_2_))
      unfold atS
      rw [if_pos q]
abbrev rm_X7_cut : Room := { frames := 0, cells := 0, slots := 0, locals := 0 }
set_option maxHeartbeats 4000000 in
set_option maxRecDepth 100000 in
theorem k_X7_cut (l : Launch) (ad tk : Nat → Nat) (nt : Nat) (V : Vt) (k : Nat) (hg : isH k) (z : Int32) : Ct l yX7_cut cX7_cut 2 (some .int) rm_X7_cut (xS ad tk nt) V [.ref (ad (k)), .int (z)] (rI fun x V2 => V2 = V ∧ x = cutI (V k 0) z) := by
  refine Ct_of (by decide) (Nat.le_of_ble_eq_true rfl) ?_
  intro p e s m below meth c A D cy ls C hl
  have hl : lv_has ls 2 [(0, .ref (ad (k))), (1, .int (z))] := hl
  refine j_aload_n C dX7_cut_0 rfl (lv_at hl 0 rfl) ?_
  refine j_getI (k := k) C (f_RX7_11_7) (xl (xH (tk := tk) (nt := nt) hg).1.1) ((xH (tk := tk) (nt := nt) hg).2.1) dX7_cut_1 ?_
  by_cases s_1_ : V k 0 = 0
  · refine j_lookup (off := 28) (tgt := 32) C dX7_cut_4 (by decide) (by rw [s_1_]; rfl) (by decide) ?_
    refine j_iload_n C dX7_cut_32 rfl (lv_at hl 1 rfl) ?_
    refine j_i2b C dX7_cut_33 rfl ?_
    refine j_iret C ⟨rfl, _, rfl, ?_⟩ dX7_cut_34
    refine ⟨rfl, ?_⟩
    simp [cutI, s_1_]
  · skip
    by_cases s_2_ : V k 0 = 1
    · refine j_lookup (off := 31) (tgt := 35) C dX7_cut_4 (by decide) (by rw [s_2_]; rfl) (by decide) ?_
      refine j_iload_n C dX7_cut_35 rfl (lv_at hl 1 rfl) ?_
      refine j_i2s C dX7_cut_36 rfl ?_
      refine j_iret C ⟨rfl, _, rfl, ?_⟩ dX7_cut_37
      refine ⟨rfl, ?_⟩
      simp [cutI, s_1_, s_2_]
    · skip
      refine j_lookup (off := 34) (tgt := 38) C dX7_cut_4 (by decide) (by simp only []; rw [Op.lookupswitch.offset_cons, if_neg (show ¬ (0 : Int) = (V k 0).toInt from ne_toInt s_1_), Op.lookupswitch.offset_cons, if_neg (show ¬ (1 : Int) = (V k 0).toInt from ne_toInt s_2_), Op.lookupswitch.offset_nil]) (by decide) ?_
      refine j_iload_n C dX7_cut_38 rfl (lv_at hl 1 rfl) ?_
      refine j_iret C ⟨rfl, _, rfl, ?_⟩ dX7_cut_39
      refine ⟨rfl, ?_⟩
      simp [cutI, s_1_, s_2_]
abbrev rm_X7_store : Room := { frames := 1, cells := 0, slots := 0, locals := 21 }
set_option maxHeartbeats 4000000 in
set_option maxRecDepth 100000 in
theorem k_X7_store (l : Launch) (ad tk : Nat → Nat) (nt : Nat) (V : Vt) (k : Nat) (hg : isH k) (n : Nat) (hn : V k 1 = nI n) (h_60_ : n ≤ 60) (z v : Int32) : Ct l yX7_store cX7_store 3 none rm_X7_store (xS ad tk nt) V [.ref (ad (k)), .int (z), .int (v)] (rU fun V2 => V2 = if 0 ≤ z ∧ z < V k 1 then up2 V (k + 1) z.toNatClampNeg (cutI (V k 0) v) else V) := by
  refine Ct_of (by decide) (Nat.le_of_ble_eq_true rfl) ?_
  intro p e s m below meth c A D cy ls C hl
  have hl : lv_has ls 3 [(0, .ref (ad (k))), (1, .int (z)), (2, .int (v))] := hl
  refine j_aload_n C dX7_store_0 rfl (lv_at hl 0 rfl) ?_
  refine j_iload_n C dX7_store_1 rfl (lv_at hl 1 rfl) ?_
  refine j_callV (k := k) C [.int (z)] [] (k_X7_hasCell l ad tk nt V k hg  (z)) v_RX7_26 (xl (xH (tk := tk) (nt := nt) hg).1.1) ((xH (tk := tk) (nt := nt) hg).2.1) rfl ⟨rfl, rfl, Nat.le_of_ble_eq_true rfl, Nat.le_of_ble_eq_true rfl⟩ rfl hl.1 rfl (Nat.le_of_ble_eq_true rfl) ⟨Nat.le_of_ble_eq_true rfl, Nat.le_of_ble_eq_true rfl⟩ dX7_store_2 (kI fun x_1_ U1 h_1_ => ?_)
  obtain ⟨eU1, h_1_⟩ := h_1_
  have eU1 := eU1.symm
  subst eU1
  refine j_if_eq (tgt := 28) C dX7_store_5 (by decide) (fun c_2_ => ?_) (fun c_2_ => ?_)
  · skip
    refine j_vret C ⟨rfl, rfl, ?_⟩ dX7_store_28
    rw [if_neg (bI_0.mp (h_1_ ▸ c_2_))]
  · skip
    refine j_iload_n C dX7_store_8 rfl (lv_at hl 1 rfl) ?_
    refine j_aload_n C dX7_store_9 rfl (lv_at hl 0 rfl) ?_
    refine j_getR (k := k) (k2 := k + 1) C (f_RX7_15_7) (xl (xH (tk := tk) (nt := nt) hg).1.1) ((xH (tk := tk) (nt := nt) hg).2.1) ((xH (tk := tk) (nt := nt) hg).2.2.2.2) dX7_store_10 ?_
    refine j_alen (k := k + 1) (n := 60) C (xl (xH (tk := tk) (nt := nt) hg).1.2) (Or.inl ((xH (tk := tk) (nt := nt) hg).2.2.1)) ((xH (tk := tk) (nt := nt) hg).2.2.2.1) dX7_store_13 ?_
    refine j_icmp_ge (tgt := 28) C dX7_store_14 (by decide) (fun c_3_ => ?_) (fun c_3_ => ?_)
    · have n_3_ := Int32.not_lt.mpr c_3_
      refine j_vret C ⟨rfl, rfl, ?_⟩ dX7_store_28
      exfalso
      have q := Decidable.not_not.mp (mt bI_0.mpr (h_1_ ▸ c_2_))
      have q2 := in60 q.1 q.2 hn h_60_
      exact absurd (vp_in_iff.mp q2).2 (by have := (Int32.le_iff_toInt_le).mp (show nI 60 ≤ z by assumption); rw [nI_toInt (by decide)] at this; omega)
    · have n_3_ := Int32.not_le.mp c_3_
      refine j_aload_n C dX7_store_17 rfl (lv_at hl 0 rfl) ?_
      refine j_getR (k := k) (k2 := k + 1) C (f_RX7_15_7) (xl (xH (tk := tk) (nt := nt) hg).1.1) ((xH (tk := tk) (nt := nt) hg).2.1) ((xH (tk := tk) (nt := nt) hg).2.2.2.2) dX7_store_18 ?_
      refine j_iload_n C dX7_store_21 rfl (lv_at hl 1 rfl) ?_
      refine j_aload_n C dX7_store_22 rfl (lv_at hl 0 rfl) ?_
      refine j_iload_n C dX7_store_23 rfl (lv_at hl 2 rfl) ?_
      refine j_callV (k := k) C [.int (v)] [.int (z), .ref (ad (k + 1))] (k_X7_cut l ad tk nt V k hg  (v)) v_RX7_30 (xl (xH (tk := tk) (nt := nt) hg).1.1) ((xH (tk := tk) (nt := nt) hg).2.1) rfl ⟨rfl, rfl, Nat.le_of_ble_eq_true rfl, Nat.le_of_ble_eq_true rfl⟩ rfl hl.1 rfl (Nat.le_of_ble_eq_true rfl) ⟨Nat.le_of_ble_eq_true rfl, Nat.le_of_ble_eq_true rfl⟩ dX7_store_24 (kI fun x_4_ U4 h_4_ => ?_)
      obtain ⟨eU4, h_4_⟩ := h_4_
      have eU4 := eU4.symm
      subst eU4
      refine j_iast (k := k + 1) (n := 60) C (xl (xH (tk := tk) (nt := nt) hg).1.2) ((xH (tk := tk) (nt := nt) hg).2.2.1) ((xH (tk := tk) (nt := nt) hg).2.2.2.1) (by have q := Decidable.not_not.mp (mt bI_0.mpr (h_1_ ▸ c_2_)); exact in60 q.1 q.2 hn h_60_) dX7_store_27 (fun V1 eV1 => ?_)
      refine j_vret C ⟨rfl, rfl, ?_⟩ dX7_store_28
      have q := Decidable.not_not.mp (mt bI_0.mpr (h_1_ ▸ c_2_))
      rw [if_pos q, eV1, h_4_]
def rnV (V : Vt) (k : Nat) (z0 z1 : Int32) (i : Nat) : Vt := fun a j => if a = k then (if j = 0 then z0 else if j = 1 then z1 else V k j) else if a = k + 1 ∧ j < i then 0 else V a j
theorem rnV_0 (V : Vt) (k : Nat) (z0 z1 : Int32) : rnV V k z0 z1 0 = up2 (up2 V k 0 z0) k 1 z1 := by
  funext a j
  simp only [rnV, up2, Nat.not_lt_zero, and_false, if_false]
  by_cases ha : a = k
  · subst ha
    by_cases h_1_ : j = 1
    · subst h_1_; simp
    · by_cases h_0_ : j = 0
      · subst h_0_; simp
      · simp [h_0_, h_1_]
  · simp [ha]
theorem rnV_s (V : Vt) (k : Nat) (z0 z1 : Int32) (i : Nat) : up2 (rnV V k z0 z1 i) (k + 1) i 0 = rnV V k z0 z1 (i + 1) := by
  funext a j
  by_cases ha : a = k
  · subst ha; simp [up2, rnV]
  · by_cases h_1_ : a = k + 1
    · subst h_1_
      by_cases hj : j = i
      · subst hj; simp [up2, rnV]
      · have e : j < i ↔ j < i + 1 := by omega
        simp [up2, rnV, hj, e]
    · simp [up2, rnV, ha, h_1_]
abbrev rm_X7_renew : Room := { frames := 0, cells := 0, slots := 0, locals := 0 }
set_option maxHeartbeats 4000000 in
set_option maxRecDepth 100000 in
theorem k_X7_renew (l : Launch) (ad tk : Nat → Nat) (nt : Nat) (V : Vt) (k : Nat) (hg : isH k) (z0 z1 : Int32) : Ct l yX7_renew cX7_renew 4 none rm_X7_renew (xS ad tk nt) V [.ref (ad (k)), .int (z0), .int (z1)] (rU fun V2 => V2 = rnV V k z0 z1 60) := by
  refine Ct_of (by decide) (Nat.le_of_ble_eq_true rfl) ?_
  intro p e s m below meth c A D cy ls C hl
  have hl : lv_has ls 4 [(0, .ref (ad (k))), (1, .int (z0)), (2, .int (z1))] := hl
  refine j_aload_n C dX7_renew_0 rfl (lv_at hl 0 rfl) ?_
  refine j_iload_n C dX7_renew_1 rfl (lv_at hl 1 rfl) ?_
  refine j_putI (k := k) C (f_RX7_11_7) p_7_0 (xl (xH (tk := tk) (nt := nt) hg).1.1) ((xH (tk := tk) (nt := nt) hg).2.1) dX7_renew_2 (fun V1 eV1 => ?_)
  refine j_aload_n C dX7_renew_5 rfl (lv_at hl 0 rfl) ?_
  refine j_iload_n C dX7_renew_6 rfl (lv_at hl 2 rfl) ?_
  refine j_putI (k := k) C (f_RX7_19_7) p_7_1 (xl (xH (tk := tk) (nt := nt) hg).1.1) ((xH (tk := tk) (nt := nt) hg).2.1) dX7_renew_7 (fun V2 eV2 => ?_)
  refine j_iconst (v := 0) C dX7_renew_10 (by decide) ?_
  refine j_istore_n (lv2 := [(3, .int (0)), (0, .ref (ad (k))), (1, .int (z0)), (2, .int (z1))]) C dX7_renew_11 rfl hl (by decide) rfl (fun ls hl => ?_)
  have loop : ∀ (n_9_ : Nat) (i : Nat) (Vi : Vt), i ≤ 60 → Vi = rnV V k z0 z1 i → 60 - i < n_9_ → ∀ (ls : Array Slot), lv_has ls 4 [(0, .ref (ad (k))), (3, .int (nI i))] → J p l e rm_X7_renew s m [.ref (ad (k)), .int (z0), .int (z1)].toArray below meth c A D cy 0 0 (MQ below (gPost D cy A (fun o9 σ2 V2 => σ2 = xS ad tk nt ∧ (rU fun V2 => V2 = rnV V k z0 z1 60) o9 V2)) [.ref (ad (k)), .int (z0), .int (z1)].toArray s 0 0 A) (xS ad tk nt) Vi (F0 m 12 ls []) := by
    intro n_9_
    induction n_9_ with
    | zero =>
      intro i Vi hi hV hm
      exact absurd hm (by omega)
    | succ n_9_ ih_loop =>
      intro i Vi hi hV hm ls hl
      refine j_iload_n C dX7_renew_12 rfl (lv_at hl 1 rfl) ?_
      refine j_aload_n C dX7_renew_13 rfl (lv_at hl 0 rfl) ?_
      refine j_getR (k := k) (k2 := k + 1) C (f_RX7_15_7) (xl (xH (tk := tk) (nt := nt) hg).1.1) ((xH (tk := tk) (nt := nt) hg).2.1) ((xH (tk := tk) (nt := nt) hg).2.2.2.2) dX7_renew_14 ?_
      refine j_alen (k := k + 1) (n := 60) C (xl (xH (tk := tk) (nt := nt) hg).1.2) (Or.inl ((xH (tk := tk) (nt := nt) hg).2.2.1)) ((xH (tk := tk) (nt := nt) hg).2.2.2.1) dX7_renew_17 ?_
      refine j_icmp_ge (tgt := 34) C dX7_renew_18 (by decide) (fun c_1_ => ?_) (fun c_1_ => ?_)
      · have n_1_ := Int32.not_lt.mpr c_1_
        obtain rfl : i = 60 := by have q := leN (by omega) (by decide) c_1_; omega
        refine j_vret C ⟨rfl, rfl, ?_⟩ dX7_renew_34
        exact hV
      · have n_1_ := Int32.not_le.mp c_1_
        have hlt : i < 60 := ltN (by omega) c_1_
        refine j_aload_n C dX7_renew_21 rfl (lv_at hl 0 rfl) ?_
        refine j_getR (k := k) (k2 := k + 1) C (f_RX7_15_7) (xl (xH (tk := tk) (nt := nt) hg).1.1) ((xH (tk := tk) (nt := nt) hg).2.1) ((xH (tk := tk) (nt := nt) hg).2.2.2.2) dX7_renew_22 ?_
        refine j_iload_n C dX7_renew_25 rfl (lv_at hl 1 rfl) ?_
        refine j_iconst (v := 0) C dX7_renew_26 (by decide) ?_
        refine j_iast (k := k + 1) (n := 60) C (xl (xH (tk := tk) (nt := nt) hg).1.2) ((xH (tk := tk) (nt := nt) hg).2.2.1) ((xH (tk := tk) (nt := nt) hg).2.2.2.1) (vp_in_nI hlt (by decide)) dX7_renew_27 (fun V3 eV3 => ?_)
        refine j_iinc (v := nI (i + 1)) (lv2 := [(3, .int (nI (i + 1))), (0, .ref (ad (k)))]) C dX7_renew_28 hl (k0 := 1) rfl (nI_1 _) (by decide) rfl (fun ls hl => ?_)
        refine j_goto (tgt := 12) C dX7_renew_31 (by decide) ?_
        exact ih_loop (i + 1) V3 (by omega) (by rw [eV3, hV, nI_clamp (by omega), rnV_s]) (by omega) ls (lv_sub hl [1, 0] rfl)
  exact loop 61 0 V2 (by omega) (by rw [eV2, eV1, rnV_0]) (by omega) ls (lv_sub hl [1, 0] rfl)
/-- n cells of row b from i on, cut, to row a from j on: those that lo ≤ c < hi -/
def tkV (V : Vt) (a b : Nat) (lane : Int32) (i j lo hi : Nat) : Vt := fun x q => if x = a ∧ j + lo ≤ q ∧ q < j + hi then cutI lane (V b (i + (q - j))) else V x q
theorem tkV_0 (V : Vt) (a b : Nat) (lane : Int32) (i j lo : Nat) : tkV V a b lane i j lo lo = V := by
  funext x q
  unfold tkV
  rw [if_neg (by omega)]
theorem tkV_up (V : Vt) (a b : Nat) (lane : Int32) (i j c : Nat) (hji : ¬ i < j) : up2 (tkV V a b lane i j 0 c) a (j + c) (cutI lane (tkV V a b lane i j 0 c b (i + c))) = tkV V a b lane i j 0 (c + 1) := by
  funext x q
  have e : tkV V a b lane i j 0 c b (i + c) = V b (i + c) := by unfold tkV; rw [if_neg (by omega)]
  rw [e]
  unfold up2
  by_cases h : x = a ∧ q = j + c
  · rw [if_pos h]
    unfold tkV
    rw [if_pos ⟨h.1, by omega, by omega⟩, h.2, show j + c - j = c by omega]
  · rw [if_neg h]
    unfold tkV
    by_cases h_2_ : x = a ∧ j + 0 ≤ q ∧ q < j + c
    · rw [if_pos h_2_, if_pos ⟨h_2_.1, by omega, by omega⟩]
    · rw [if_neg h_2_, if_neg (by omega)]
theorem tkV_down (V : Vt) (a b : Nat) (lane : Int32) (i j c n : Nat) (hij : i < j) (hc : c < n) : up2 (tkV V a b lane i j (c + 1) n) a (j + c) (cutI lane (tkV V a b lane i j (c + 1) n b (i + c))) = tkV V a b lane i j c n := by
  funext x q
  have e : tkV V a b lane i j (c + 1) n b (i + c) = V b (i + c) := by unfold tkV; rw [if_neg (by omega)]
  rw [e]
  unfold up2
  by_cases h : x = a ∧ q = j + c
  · rw [if_pos h]
    unfold tkV
    rw [if_pos ⟨h.1, by omega, by omega⟩, h.2, show j + c - j = c by omega]
  · rw [if_neg h]
    unfold tkV
    by_cases h_2_ : x = a ∧ j + (c + 1) ≤ q ∧ q < j + n
    · rw [if_pos h_2_, if_pos ⟨h_2_.1, by omega, by omega⟩]
    · rw [if_neg h_2_, if_neg (by omega)]
theorem tkV_k {V : Vt} {a b : Nat} {lane : Int32} {i j lo hi x : Nat} (h : x ≠ a) : tkV V a b lane i j lo hi x = V x := by
  funext q
  unfold tkV
  rw [if_neg (fun z => h z.1)]
theorem isH_ap {k k2 : Nat} (h : isH k) (h_2_ : isH k2) : k ≠ k2 + 1 := by
  unfold isH at h h_2_
  simp only [List.mem_cons, List.not_mem_nil, or_false] at h h_2_
  omega
theorem atS_in {f : Nat → Int32} {n q : Nat} (h : q < n) (hn : n < 2 ^ 31) : atS f (nI n) (nI q) = f q := by
  unfold atS
  rw [if_pos ⟨nI_pos' (by omega), nI_lt h hn⟩, nI_clamp (by omega)]
abbrev rm_X7_takeCells : Room := { frames := 2, cells := 0, slots := 0, locals := 43 }
set_option maxHeartbeats 4000000 in
set_option maxRecDepth 100000 in
theorem k_X7_takeCells (l : Launch) (ad tk : Nat → Nat) (nt : Nat) (V : Vt) (k : Nat) (hg : isH k) (k2 : Nat) (hg2 : isH k2) (m1 m2 i j n : Nat) (hn1 : V k 1 = nI m1) (h_61_ : m1 ≤ 60) (hn2 : V k2 1 = nI m2) (h_62_ : m2 ≤ 60) (hin : i + n ≤ m2) (hjn : j + n ≤ m1)  : Ct l yX7_takeCells cX7_takeCells 6 none rm_X7_takeCells (xS ad tk nt) V [.ref (ad (k)), .ref (ad (k2)), .int (nI i), .int (nI j), .int (nI n)] (rU fun V2 => V2 = tkV V (k + 1) (k2 + 1) (V k 0) i j 0 n) := by
  refine Ct_of (by decide) (Nat.le_of_ble_eq_true rfl) ?_
  intro p e s m below meth c A D cy ls C hl
  have hl : lv_has ls 6 [(0, .ref (ad (k))), (1, .ref (ad (k2))), (2, .int (nI i)), (3, .int (nI j)), (4, .int (nI n))] := hl
  refine j_iload_n C dX7_takeCells_0 rfl (lv_at hl 2 rfl) ?_
  refine j_iload_n C dX7_takeCells_1 rfl (lv_at hl 3 rfl) ?_
  refine j_icmp_ge (tgt := 41) C dX7_takeCells_2 (by decide) (fun c_1_ => ?_) (fun c_1_ => ?_)
  · have n_1_ := Int32.not_lt.mpr c_1_
    refine j_iconst (v := 0) C dX7_takeCells_41 (by decide) ?_
    refine j_istore (lv2 := [(5, .int (0)), (0, .ref (ad (k))), (1, .ref (ad (k2))), (2, .int (nI i)), (3, .int (nI j)), (4, .int (nI n))]) C dX7_takeCells_42 hl (by decide) rfl (fun ls hl => ?_)
    have loop2 : ∀ (n_9_ : Nat) (c_9_ : Nat) (Vi : Vt), c_9_ ≤ n → Vi = tkV V (k + 1) (k2 + 1) (V k 0) i j 0 c_9_ → n - c_9_ < n_9_ → ∀ (ls : Array Slot), lv_has ls 6 [(0, .ref (ad (k))), (1, .ref (ad (k2))), (2, .int (nI i)), (3, .int (nI j)), (4, .int (nI n)), (5, .int (nI c_9_))] → J p l e rm_X7_takeCells s m [.ref (ad (k)), .ref (ad (k2)), .int (nI i), .int (nI j), .int (nI n)].toArray below meth c A D cy 0 0 (MQ below (gPost D cy A (fun o9 σ2 V2 => σ2 = xS ad tk nt ∧ (rU fun V2 => V2 = tkV V (k + 1) (k2 + 1) (V k 0) i j 0 n) o9 V2)) [.ref (ad (k)), .ref (ad (k2)), .int (nI i), .int (nI j), .int (nI n)].toArray s 0 0 A) (xS ad tk nt) Vi (F0 m 44 ls []) := by
      intro n_9_
      induction n_9_ with
      | zero =>
        intro c_9_ Vi hc hV hm
        exact absurd hm (by omega)
      | succ n_9_ ih_loop2 =>
        intro c_9_ Vi hc hV hm ls hl
        refine j_iload C dX7_takeCells_44 (lv_at hl 5 rfl) ?_
        refine j_iload C dX7_takeCells_46 (lv_at hl 4 rfl) ?_
        refine j_icmp_ge (tgt := 73) C dX7_takeCells_48 (by decide) (fun c_2_ => ?_) (fun c_2_ => ?_)
        · have n_2_ := Int32.not_lt.mpr c_2_
          obtain rfl : c_9_ = n := by have q := leN (by omega) (by omega) c_2_; omega
          refine j_vret C ⟨rfl, rfl, ?_⟩ dX7_takeCells_73
          exact hV
        · have n_2_ := Int32.not_le.mp c_2_
          have hlt : c_9_ < n := ltN (by omega) c_2_
          refine j_aload_n C dX7_takeCells_51 rfl (lv_at hl 0 rfl) ?_
          refine j_iload_n C dX7_takeCells_52 rfl (lv_at hl 3 rfl) ?_
          refine j_iload C dX7_takeCells_53 (lv_at hl 5 rfl) ?_
          refine j_iadd C dX7_takeCells_55 ?_
          refine j_aload_n C dX7_takeCells_56 rfl (lv_at hl 1 rfl) ?_
          refine j_iload_n C dX7_takeCells_57 rfl (lv_at hl 2 rfl) ?_
          refine j_iload C dX7_takeCells_58 (lv_at hl 5 rfl) ?_
          refine j_iadd C dX7_takeCells_60 ?_
          refine j_callV (k := k2) C [.int ((nI i) + (nI c_9_))] [.int ((nI j) + (nI c_9_)), .ref (ad (k))] (k_X7_at l ad tk nt Vi k2 hg2 m2 (by rw [hV, tkV_k (isH_ap hg2 hg), hn2]) h_62_ ((nI i) + (nI c_9_))) v_RX7_34 (xl (xH (tk := tk) (nt := nt) hg2).1.1) ((xH (tk := tk) (nt := nt) hg2).2.1) rfl ⟨rfl, rfl, Nat.le_of_ble_eq_true rfl, Nat.le_of_ble_eq_true rfl⟩ rfl hl.1 rfl (Nat.le_of_ble_eq_true rfl) ⟨Nat.le_of_ble_eq_true rfl, Nat.le_of_ble_eq_true rfl⟩ dX7_takeCells_61 (kI fun x_3_ U3 h_3_ => ?_)
          obtain ⟨eU3, h_3_⟩ := h_3_
          have eU3 := eU3.symm
          subst eU3
          rw [show Vi k2 1 = nI m2 by rw [hV, tkV_k (isH_ap hg2 hg), hn2], nI_add, atS_in (by omega) (by omega)] at h_3_
          refine j_callV (k := k) C [.int ((nI j) + (nI c_9_)), .int (x_3_)] [] (k_X7_store l ad tk nt Vi k hg m1 (by rw [hV, tkV_k (isH_ap hg hg), hn1]) h_61_ ((nI j) + (nI c_9_)) (x_3_)) v_RX7_37 (xl (xH (tk := tk) (nt := nt) hg).1.1) ((xH (tk := tk) (nt := nt) hg).2.1) rfl ⟨rfl, rfl, Nat.le_of_ble_eq_true rfl, Nat.le_of_ble_eq_true rfl⟩ rfl hl.1 rfl (Nat.le_of_ble_eq_true rfl) ⟨Nat.le_of_ble_eq_true rfl, Nat.le_of_ble_eq_true rfl⟩ dX7_takeCells_64 (kU fun U4 h_4_ => ?_)
          rw [show Vi k 1 = nI m1 by rw [hV, tkV_k (isH_ap hg hg), hn1], show Vi k 0 = V k 0 by rw [hV, tkV_k (isH_ap hg hg)], nI_add, if_pos ⟨nI_pos' (by omega), nI_lt (by omega) (by omega)⟩, nI_clamp (by omega)] at h_4_
          refine j_iinc (v := nI (c_9_ + 1)) (lv2 := [(5, .int (nI (c_9_ + 1))), (0, .ref (ad (k))), (1, .ref (ad (k2))), (2, .int (nI i)), (3, .int (nI j)), (4, .int (nI n))]) C dX7_takeCells_67 hl (k0 := 5) rfl (nI_1 _) (by decide) rfl (fun ls hl => ?_)
          refine j_goto (tgt := 44) C dX7_takeCells_70 (by decide) ?_
          exact ih_loop2 (c_9_ + 1) U4 (by omega) (by rw [h_4_, h_3_, hV, tkV_up V _ _ _ i j c_9_ (by first | exact fun q => c_1_ (nI_lt q (by omega)) | exact fun q => n_1_ (nI_lt q (by omega)))]) (by omega) ls (lv_sub hl [1, 2, 3, 4, 5, 0] rfl)
    exact loop2 (n + 1) 0 V (by omega) (by rw [tkV_0]) (by omega) ls (lv_sub hl [1, 2, 3, 4, 5, 0] rfl)
  · have n_1_ := Int32.not_le.mp c_1_
    refine j_iload C dX7_takeCells_5 (lv_at hl 4 rfl) ?_
    refine j_iconst (v := 1) C dX7_takeCells_7 (by decide) ?_
    refine j_isub C dX7_takeCells_8 ?_
    refine j_istore (lv2 := [(5, .int ((nI n) - 1)), (0, .ref (ad (k))), (1, .ref (ad (k2))), (2, .int (nI i)), (3, .int (nI j)), (4, .int (nI n))]) C dX7_takeCells_9 hl (by decide) rfl (fun ls hl => ?_)
    have loop : ∀ (n_9_ : Nat) (c_9_ : Nat) (Vi : Vt) (z : Int32), c_9_ ≤ n → Vi = tkV V (k + 1) (k2 + 1) (V k 0) i j c_9_ n → z = nI c_9_ - 1 → c_9_ < n_9_ → ∀ (ls : Array Slot), lv_has ls 6 [(0, .ref (ad (k))), (1, .ref (ad (k2))), (2, .int (nI i)), (3, .int (nI j)), (5, .int (z))] → J p l e rm_X7_takeCells s m [.ref (ad (k)), .ref (ad (k2)), .int (nI i), .int (nI j), .int (nI n)].toArray below meth c A D cy 0 0 (MQ below (gPost D cy A (fun o9 σ2 V2 => σ2 = xS ad tk nt ∧ (rU fun V2 => V2 = tkV V (k + 1) (k2 + 1) (V k 0) i j 0 n) o9 V2)) [.ref (ad (k)), .ref (ad (k2)), .int (nI i), .int (nI j), .int (nI n)].toArray s 0 0 A) (xS ad tk nt) Vi (F0 m 11 ls []) := by
      intro n_9_
      induction n_9_ with
      | zero =>
        intro c_9_ Vi z hc hV hz hm
        exact absurd hm (by omega)
      | succ n_9_ ih_loop =>
        intro c_9_ Vi z hc hV hz hm ls hl
        refine j_iload C dX7_takeCells_11 (lv_at hl 4 rfl) ?_
        refine j_if_lt (tgt := 38) C dX7_takeCells_13 (by decide) (fun c_5_ => ?_) (fun c_5_ => ?_)
        · have n_5_ := Int32.not_le.mpr c_5_
          obtain rfl : c_9_ = 0 := by
            cases c_9_ with
            | zero => rfl
            | succ q => exact absurd c_5_ (by rw [hz, nI_pred]; exact nI_pos (by omega))
          refine j_goto (tgt := 73) C dX7_takeCells_38 (by decide) ?_
          refine j_vret C ⟨rfl, rfl, ?_⟩ dX7_takeCells_73
          exact hV
        · have n_5_ := Int32.not_lt.mp c_5_
          obtain ⟨c_8_, rfl⟩ : ∃ c_8_, c_9_ = c_8_ + 1 := by
            cases c_9_ with
            | zero => exact absurd (by rw [hz]; decide) c_5_
            | succ q => exact ⟨q, rfl⟩
          have ez : z = nI c_8_ := by rw [hz, nI_pred]
          refine j_aload_n C dX7_takeCells_16 rfl (lv_at hl 0 rfl) ?_
          refine j_iload_n C dX7_takeCells_17 rfl (lv_at hl 3 rfl) ?_
          refine j_iload C dX7_takeCells_18 (lv_at hl 4 rfl) ?_
          refine j_iadd C dX7_takeCells_20 ?_
          refine j_aload_n C dX7_takeCells_21 rfl (lv_at hl 1 rfl) ?_
          refine j_iload_n C dX7_takeCells_22 rfl (lv_at hl 2 rfl) ?_
          refine j_iload C dX7_takeCells_23 (lv_at hl 4 rfl) ?_
          refine j_iadd C dX7_takeCells_25 ?_
          refine j_callV (k := k2) C [.int ((nI i) + z)] [.int ((nI j) + z), .ref (ad (k))] (k_X7_at l ad tk nt Vi k2 hg2 m2 (by rw [hV, tkV_k (isH_ap hg2 hg), hn2]) h_62_ ((nI i) + z)) v_RX7_34 (xl (xH (tk := tk) (nt := nt) hg2).1.1) ((xH (tk := tk) (nt := nt) hg2).2.1) rfl ⟨rfl, rfl, Nat.le_of_ble_eq_true rfl, Nat.le_of_ble_eq_true rfl⟩ rfl hl.1 rfl (Nat.le_of_ble_eq_true rfl) ⟨Nat.le_of_ble_eq_true rfl, Nat.le_of_ble_eq_true rfl⟩ dX7_takeCells_26 (kI fun x_6_ U6 h_6_ => ?_)
          obtain ⟨eU6, h_6_⟩ := h_6_
          have eU6 := eU6.symm
          subst eU6
          rw [ez] at h_6_
          rw [show Vi k2 1 = nI m2 by rw [hV, tkV_k (isH_ap hg2 hg), hn2], nI_add, atS_in (by omega) (by omega)] at h_6_
          refine j_callV (k := k) C [.int ((nI j) + z), .int (x_6_)] [] (k_X7_store l ad tk nt Vi k hg m1 (by rw [hV, tkV_k (isH_ap hg hg), hn1]) h_61_ ((nI j) + z) (x_6_)) v_RX7_37 (xl (xH (tk := tk) (nt := nt) hg).1.1) ((xH (tk := tk) (nt := nt) hg).2.1) rfl ⟨rfl, rfl, Nat.le_of_ble_eq_true rfl, Nat.le_of_ble_eq_true rfl⟩ rfl hl.1 rfl (Nat.le_of_ble_eq_true rfl) ⟨Nat.le_of_ble_eq_true rfl, Nat.le_of_ble_eq_true rfl⟩ dX7_takeCells_29 (kU fun U7 h_7_ => ?_)
          rw [ez] at h_7_
          rw [show Vi k 1 = nI m1 by rw [hV, tkV_k (isH_ap hg hg), hn1], show Vi k 0 = V k 0 by rw [hV, tkV_k (isH_ap hg hg)], nI_add, if_pos ⟨nI_pos' (by omega), nI_lt (by omega) (by omega)⟩, nI_clamp (by omega)] at h_7_
          refine j_iinc (v := z + (-1)) (lv2 := [(5, .int (z + (-1))), (0, .ref (ad (k))), (1, .ref (ad (k2))), (2, .int (nI i)), (3, .int (nI j))]) C dX7_takeCells_32 hl (k0 := 4) rfl rfl (by decide) rfl (fun ls hl => ?_)
          refine j_goto (tgt := 11) C dX7_takeCells_35 (by decide) ?_
          exact ih_loop c_8_ U7 (z + (-1)) (by omega) (by rw [h_7_, h_6_, hV, tkV_down V _ _ _ i j c_8_ n (by first | exact (nI_ltI (by omega) (by omega)).mp n_1_ | exact (nI_ltI (by omega) (by omega)).mp c_1_) (by omega)]) (by rw [ez]; exact (Int32.sub_eq_add_neg ..).symm) (by omega) ls (lv_sub hl [1, 2, 3, 4, 0] rfl)
    exact loop (n + 1) n V (nI n - 1) (by omega) (by rw [tkV_0]) rfl (by omega) ls (lv_sub hl [1, 2, 3, 4, 0] rfl)
