abbrev rm_X9_thenAwait : Room := { frames := 0, cells := 0, slots := 0, locals := 0 }
set_option maxHeartbeats 4000000 in
set_option maxRecDepth 100000 in
theorem k_X9_thenAwait (l : Launch) (ad tk : Nat → Nat) (nt : Nat) (V : Vt) (z0 z1 : Int32) (hz : narrow .boolean (.int z1) = .int z1)  : Ct l yX9_thenAwait cX9_thenAwait 3 (some .boolean) rm_X9_thenAwait (xS ad tk nt) V [.ref (ad (43)), .int (z0), .int (z1)] (rI fun x V2 => V2 = up2 V 43 0 z0 ∧ x = z1) := by
  refine Ct_of (by decide) (Nat.le_of_ble_eq_true rfl) ?_
  intro p e s m below meth c A D cy ls C hl
  have hl : lv_has ls 3 [(0, .ref (ad (43))), (1, .int (z0)), (2, .int (z1))] := hl
  refine j_aload_n C dX9_thenAwait_0 rfl (lv_at hl 0 rfl) ?_
  refine j_iload_n C dX9_thenAwait_1 rfl (lv_at hl 1 rfl) ?_
  refine j_putI (k := 43) C (f_RX9_24_9) p_9_0 (xl (by decide)) (rfl) dX9_thenAwait_2 (fun V1 eV1 => ?_)
  refine j_iload_n C dX9_thenAwait_5 rfl (lv_at hl 2 rfl) ?_
  refine j_zret C (hz) ⟨rfl, _, rfl, ?_⟩ dX9_thenAwait_6
  exact ⟨eV1, rfl⟩
abbrev rm_X9_takesFrost : Room := { frames := 1, cells := 0, slots := 0, locals := 22 }
set_option maxHeartbeats 4000000 in
set_option maxRecDepth 100000 in
theorem k_X9_takesFrost (l : Launch) (ad tk : Nat → Nat) (nt : Nat) (V : Vt) (z : Int32) : Ct l yX9_takesFrost cX9_takesFrost 2 (some .boolean) rm_X9_takesFrost (xS ad tk nt) V [.ref (ad (43)), .int (z)] (rI fun x V2 => V2 = up2 (up2 V 43 1 z) 43 0 2 ∧ x = bI (0 ≤ z ∧ z ≤ 3)) := by
  refine Ct_of (by decide) (Nat.le_of_ble_eq_true rfl) ?_
  intro p e s m below meth c A D cy ls C hl
  have hl : lv_has ls 2 [(0, .ref (ad (43))), (1, .int (z))] := hl
  refine j_aload_n C dX9_takesFrost_0 rfl (lv_at hl 0 rfl) ?_
  refine j_iload_n C dX9_takesFrost_1 rfl (lv_at hl 1 rfl) ?_
  refine j_putI (k := 43) C (f_RX9_72_9) p_9_1 (xl (by decide)) (rfl) dX9_takesFrost_2 (fun V1 eV1 => ?_)
  refine j_aload_n C dX9_takesFrost_5 rfl (lv_at hl 0 rfl) ?_
  refine j_iconst (v := 2) C dX9_takesFrost_6 (by decide) ?_
  refine j_iload_n C dX9_takesFrost_7 rfl (lv_at hl 1 rfl) ?_
  refine j_iconst (v := 0) C dX9_takesFrost_8 (by decide) ?_
  refine j_iconst (v := 3) C dX9_takesFrost_9 (by decide) ?_
  refine j_callN C [.int (z), .int (0), .int (3)] [.int (2), .ref (ad (43))] (k_X11_isWithin l (xS ad tk nt) V1 (z) (0) (3)) v_RX9_75 ⟨rfl, rfl, Nat.le_of_ble_eq_true rfl, Nat.le_of_ble_eq_true rfl⟩ rfl hl.1 rfl (Nat.le_of_ble_eq_true rfl) ⟨Nat.le_of_ble_eq_true rfl, Nat.le_of_ble_eq_true rfl⟩ dX9_takesFrost_10 (kI fun x_1_ U1 h_1_ => ?_)
  obtain ⟨eU1, h_1_⟩ := h_1_
  have eU1 := eU1.symm
  subst eU1
  refine j_callV (k := 43) C [.int (2), .int (x_1_)] [] (k_X9_thenAwait l ad tk nt V1 (2) (x_1_) (by rw [h_1_]; exact bI_n)) v_RX9_44 (xl (by decide)) (rfl) rfl ⟨rfl, rfl, Nat.le_of_ble_eq_true rfl, Nat.le_of_ble_eq_true rfl⟩ rfl hl.1 rfl (Nat.le_of_ble_eq_true rfl) ⟨Nat.le_of_ble_eq_true rfl, Nat.le_of_ble_eq_true rfl⟩ dX9_takesFrost_13 (kI fun x_2_ U2 h_2_ => ?_)
  obtain ⟨eU2, h_2_⟩ := h_2_
  refine j_zret C (by first | (rw [h_2_]; exact bI_n) | (rw [h_2_]; rfl) | (rw [h_2_, h_1_]; exact bI_n)) ⟨rfl, _, rfl, ?_⟩ dX9_takesFrost_16
  rw [eU2, eV1, h_2_, h_1_]
  exact ⟨rfl, rfl⟩
abbrev rm_X9_takesMark : Room := { frames := 1, cells := 0, slots := 0, locals := 22 }
set_option maxHeartbeats 4000000 in
set_option maxRecDepth 100000 in
theorem k_X9_takesMark (l : Launch) (ad tk : Nat → Nat) (nt : Nat) (V : Vt) (z : Int32) : Ct l yX9_takesMark cX9_takesMark 2 (some .boolean) rm_X9_takesMark (xS ad tk nt) V [.ref (ad (43)), .int (z)] (rI fun x V2 => (V2 = if z = 44 then up2 V 43 0 3 else up2 V 43 0 5) ∧ x = if z = 44 then bI (V 43 2 < 4) else bI (z = 59 ∧ 0 < V 43 2)) := by
  refine Ct_of (by decide) (Nat.le_of_ble_eq_true rfl) ?_
  intro p e s m below meth c A D cy ls C hl
  have hl : lv_has ls 2 [(0, .ref (ad (43))), (1, .int (z))] := hl
  refine j_iload_n C dX9_takesMark_0 rfl (lv_at hl 1 rfl) ?_
  refine j_bipush (v := 44) C dX9_takesMark_1 (by decide) ?_
  refine j_icmp_ne (tgt := 25) C dX9_takesMark_3 (by decide) (fun c_1_ => ?_) (fun c_1_ => ?_)
  · skip
    refine j_aload_n C dX9_takesMark_25 rfl (lv_at hl 0 rfl) ?_
    refine j_iconst (v := 5) C dX9_takesMark_26 (by decide) ?_
    refine j_iload_n C dX9_takesMark_27 rfl (lv_at hl 1 rfl) ?_
    refine j_bipush (v := 59) C dX9_takesMark_28 (by decide) ?_
    refine j_icmp_ne (tgt := 44) C dX9_takesMark_30 (by decide) (fun c_2_ => ?_) (fun c_2_ => ?_)
    · skip
      refine j_iconst (v := 0) C dX9_takesMark_44 (by decide) ?_
      refine j_callV (k := 43) C [.int (5), .int (0)] [] (k_X9_thenAwait l ad tk nt V (5) (0) (by rfl)) v_RX9_44 (xl (by decide)) (rfl) rfl ⟨rfl, rfl, Nat.le_of_ble_eq_true rfl, Nat.le_of_ble_eq_true rfl⟩ rfl hl.1 rfl (Nat.le_of_ble_eq_true rfl) ⟨Nat.le_of_ble_eq_true rfl, Nat.le_of_ble_eq_true rfl⟩ dX9_takesMark_45 (kI fun x_3_ U3 h_3_ => ?_)
      obtain ⟨eU3, h_3_⟩ := h_3_
      refine j_zret C (by first | (rw [h_3_]; exact bI_n) | (rw [h_3_]; rfl)) ⟨rfl, _, rfl, ?_⟩ dX9_takesMark_48
      rw [eU3, h_3_]
      simp_all [bI]
    · skip
      refine j_aload_n C dX9_takesMark_33 rfl (lv_at hl 0 rfl) ?_
      refine j_getI (k := 43) C (f_RX9_28_9) (xl (by decide)) (rfl) dX9_takesMark_34 ?_
      refine j_if_le (tgt := 44) C dX9_takesMark_37 (by decide) (fun c_4_ => ?_) (fun c_4_ => ?_)
      · have n_4_ := Int32.not_lt.mpr c_4_
        refine j_iconst (v := 0) C dX9_takesMark_44 (by decide) ?_
        refine j_callV (k := 43) C [.int (5), .int (0)] [] (k_X9_thenAwait l ad tk nt V (5) (0) (by rfl)) v_RX9_44 (xl (by decide)) (rfl) rfl ⟨rfl, rfl, Nat.le_of_ble_eq_true rfl, Nat.le_of_ble_eq_true rfl⟩ rfl hl.1 rfl (Nat.le_of_ble_eq_true rfl) ⟨Nat.le_of_ble_eq_true rfl, Nat.le_of_ble_eq_true rfl⟩ dX9_takesMark_45 (kI fun x_5_ U5 h_5_ => ?_)
        obtain ⟨eU5, h_5_⟩ := h_5_
        refine j_zret C (by first | (rw [h_5_]; exact bI_n) | (rw [h_5_]; rfl)) ⟨rfl, _, rfl, ?_⟩ dX9_takesMark_48
        rw [eU5, h_5_]
        simp_all [bI]
      · have n_4_ := Int32.not_le.mp c_4_
        refine j_iconst (v := 1) C dX9_takesMark_40 (by decide) ?_
        refine j_goto (tgt := 45) C dX9_takesMark_41 (by decide) ?_
        refine j_callV (k := 43) C [.int (5), .int (1)] [] (k_X9_thenAwait l ad tk nt V (5) (1) (by rfl)) v_RX9_44 (xl (by decide)) (rfl) rfl ⟨rfl, rfl, Nat.le_of_ble_eq_true rfl, Nat.le_of_ble_eq_true rfl⟩ rfl hl.1 rfl (Nat.le_of_ble_eq_true rfl) ⟨Nat.le_of_ble_eq_true rfl, Nat.le_of_ble_eq_true rfl⟩ dX9_takesMark_45 (kI fun x_6_ U6 h_6_ => ?_)
        obtain ⟨eU6, h_6_⟩ := h_6_
        refine j_zret C (by first | (rw [h_6_]; exact bI_n) | (rw [h_6_]; rfl)) ⟨rfl, _, rfl, ?_⟩ dX9_takesMark_48
        rw [eU6, h_6_]
        simp_all [bI]
  · skip
    refine j_aload_n C dX9_takesMark_6 rfl (lv_at hl 0 rfl) ?_
    refine j_iconst (v := 3) C dX9_takesMark_7 (by decide) ?_
    refine j_aload_n C dX9_takesMark_8 rfl (lv_at hl 0 rfl) ?_
    refine j_getI (k := 43) C (f_RX9_28_9) (xl (by decide)) (rfl) dX9_takesMark_9 ?_
    refine j_iconst (v := 4) C dX9_takesMark_12 (by decide) ?_
    refine j_icmp_ge (tgt := 20) C dX9_takesMark_13 (by decide) (fun c_7_ => ?_) (fun c_7_ => ?_)
    · have n_7_ := Int32.not_lt.mpr c_7_
      refine j_iconst (v := 0) C dX9_takesMark_20 (by decide) ?_
      refine j_callV (k := 43) C [.int (3), .int (0)] [] (k_X9_thenAwait l ad tk nt V (3) (0) (by rfl)) v_RX9_44 (xl (by decide)) (rfl) rfl ⟨rfl, rfl, Nat.le_of_ble_eq_true rfl, Nat.le_of_ble_eq_true rfl⟩ rfl hl.1 rfl (Nat.le_of_ble_eq_true rfl) ⟨Nat.le_of_ble_eq_true rfl, Nat.le_of_ble_eq_true rfl⟩ dX9_takesMark_21 (kI fun x_8_ U8 h_8_ => ?_)
      obtain ⟨eU8, h_8_⟩ := h_8_
      refine j_zret C (by first | (rw [h_8_]; exact bI_n) | (rw [h_8_]; rfl)) ⟨rfl, _, rfl, ?_⟩ dX9_takesMark_24
      rw [eU8, h_8_]
      simp_all [bI]
    · have n_7_ := Int32.not_le.mp c_7_
      refine j_iconst (v := 1) C dX9_takesMark_16 (by decide) ?_
      refine j_goto (tgt := 21) C dX9_takesMark_17 (by decide) ?_
      refine j_callV (k := 43) C [.int (3), .int (1)] [] (k_X9_thenAwait l ad tk nt V (3) (1) (by rfl)) v_RX9_44 (xl (by decide)) (rfl) rfl ⟨rfl, rfl, Nat.le_of_ble_eq_true rfl, Nat.le_of_ble_eq_true rfl⟩ rfl hl.1 rfl (Nat.le_of_ble_eq_true rfl) ⟨Nat.le_of_ble_eq_true rfl, Nat.le_of_ble_eq_true rfl⟩ dX9_takesMark_21 (kI fun x_9_ U9 h_9_ => ?_)
      obtain ⟨eU9, h_9_⟩ := h_9_
      refine j_zret C (by first | (rw [h_9_]; exact bI_n) | (rw [h_9_]; rfl)) ⟨rfl, _, rfl, ?_⟩ dX9_takesMark_24
      rw [eU9, h_9_]
      simp_all [bI]
abbrev rm_X9_takesYards : Room := { frames := 1, cells := 0, slots := 0, locals := 22 }
set_option maxHeartbeats 4000000 in
set_option maxRecDepth 100000 in
theorem k_X9_takesYards (l : Launch) (ad tk : Nat → Nat) (nt : Nat) (V : Vt) (g : Nat) (hg4 : V 43 2 = nI g) (g4 : g < 4) (z : Int32) : Ct l yX9_takesYards cX9_takesYards 2 (some .boolean) rm_X9_takesYards (xS ad tk nt) V [.ref (ad (43)), .int (z)] (rI fun x V2 => V2 = up2 (up2 V 44 g z) 43 0 4 ∧ x = bI (1 ≤ z ∧ z ≤ 9)) := by
  refine Ct_of (by decide) (Nat.le_of_ble_eq_true rfl) ?_
  intro p e s m below meth c A D cy ls C hl
  have hl : lv_has ls 2 [(0, .ref (ad (43))), (1, .int (z))] := hl
  refine j_aload_n C dX9_takesYards_0 rfl (lv_at hl 0 rfl) ?_
  refine j_getI (k := 43) C (f_RX9_28_9) (xl (by decide)) (rfl) dX9_takesYards_1 ?_
  refine j_if_lt (tgt := 29) C dX9_takesYards_4 (by decide) (fun c_1_ => ?_) (fun c_1_ => ?_)
  · have n_1_ := Int32.not_le.mpr c_1_
    refine j_aload_n C dX9_takesYards_29 rfl (lv_at hl 0 rfl) ?_
    refine j_iconst (v := 4) C dX9_takesYards_30 (by decide) ?_
    refine j_iload_n C dX9_takesYards_31 rfl (lv_at hl 1 rfl) ?_
    refine j_iconst (v := 1) C dX9_takesYards_32 (by decide) ?_
    refine j_bipush (v := 9) C dX9_takesYards_33 (by decide) ?_
    refine j_callN C [.int (z), .int (1), .int (9)] [.int (4), .ref (ad (43))] (k_X11_isWithin l (xS ad tk nt) V (z) (1) (9)) v_RX9_75 ⟨rfl, rfl, Nat.le_of_ble_eq_true rfl, Nat.le_of_ble_eq_true rfl⟩ rfl hl.1 rfl (Nat.le_of_ble_eq_true rfl) ⟨Nat.le_of_ble_eq_true rfl, Nat.le_of_ble_eq_true rfl⟩ dX9_takesYards_35 (kI fun x_2_ U2 h_2_ => ?_)
    obtain ⟨eU2, h_2_⟩ := h_2_
    have eU2 := eU2.symm
    subst eU2
    refine j_callV (k := 43) C [.int (4), .int (x_2_)] [] (k_X9_thenAwait l ad tk nt V (4) (x_2_) (by rw [h_2_]; exact bI_n)) v_RX9_44 (xl (by decide)) (rfl) rfl ⟨rfl, rfl, Nat.le_of_ble_eq_true rfl, Nat.le_of_ble_eq_true rfl⟩ rfl hl.1 rfl (Nat.le_of_ble_eq_true rfl) ⟨Nat.le_of_ble_eq_true rfl, Nat.le_of_ble_eq_true rfl⟩ dX9_takesYards_38 (kI fun x_3_ U3 h_3_ => ?_)
    obtain ⟨eU3, h_3_⟩ := h_3_
    refine j_zret C (by first | (rw [h_3_]; exact bI_n) | (rw [h_3_]; rfl) | (rw [h_3_, h_2_]; exact bI_n)) ⟨rfl, _, rfl, ?_⟩ dX9_takesYards_41
    exfalso
    rw [hg4] at *
    first | exact absurd (by assumption) (nI_pos (n := g) (by omega)) | exact absurd (nI_lt (b := 4) g4 (by decide)) (by assumption)
  · have n_1_ := Int32.not_lt.mp c_1_
    refine j_aload_n C dX9_takesYards_7 rfl (lv_at hl 0 rfl) ?_
    refine j_getI (k := 43) C (f_RX9_28_9) (xl (by decide)) (rfl) dX9_takesYards_8 ?_
    refine j_aload_n C dX9_takesYards_11 rfl (lv_at hl 0 rfl) ?_
    refine j_getR (k := 43) (k2 := 44) C (f_RX9_9_9) (xl (by decide)) (rfl) (rfl) dX9_takesYards_12 ?_
    refine j_alen (k := 44) (n := 4) C (xl (by decide)) (Or.inl (rfl)) (rfl) dX9_takesYards_15 ?_
    refine j_icmp_ge (tgt := 29) C dX9_takesYards_16 (by decide) (fun c_4_ => ?_) (fun c_4_ => ?_)
    · have n_4_ := Int32.not_lt.mpr c_4_
      refine j_aload_n C dX9_takesYards_29 rfl (lv_at hl 0 rfl) ?_
      refine j_iconst (v := 4) C dX9_takesYards_30 (by decide) ?_
      refine j_iload_n C dX9_takesYards_31 rfl (lv_at hl 1 rfl) ?_
      refine j_iconst (v := 1) C dX9_takesYards_32 (by decide) ?_
      refine j_bipush (v := 9) C dX9_takesYards_33 (by decide) ?_
      refine j_callN C [.int (z), .int (1), .int (9)] [.int (4), .ref (ad (43))] (k_X11_isWithin l (xS ad tk nt) V (z) (1) (9)) v_RX9_75 ⟨rfl, rfl, Nat.le_of_ble_eq_true rfl, Nat.le_of_ble_eq_true rfl⟩ rfl hl.1 rfl (Nat.le_of_ble_eq_true rfl) ⟨Nat.le_of_ble_eq_true rfl, Nat.le_of_ble_eq_true rfl⟩ dX9_takesYards_35 (kI fun x_5_ U5 h_5_ => ?_)
      obtain ⟨eU5, h_5_⟩ := h_5_
      have eU5 := eU5.symm
      subst eU5
      refine j_callV (k := 43) C [.int (4), .int (x_5_)] [] (k_X9_thenAwait l ad tk nt V (4) (x_5_) (by rw [h_5_]; exact bI_n)) v_RX9_44 (xl (by decide)) (rfl) rfl ⟨rfl, rfl, Nat.le_of_ble_eq_true rfl, Nat.le_of_ble_eq_true rfl⟩ rfl hl.1 rfl (Nat.le_of_ble_eq_true rfl) ⟨Nat.le_of_ble_eq_true rfl, Nat.le_of_ble_eq_true rfl⟩ dX9_takesYards_38 (kI fun x_6_ U6 h_6_ => ?_)
      obtain ⟨eU6, h_6_⟩ := h_6_
      refine j_zret C (by first | (rw [h_6_]; exact bI_n) | (rw [h_6_]; rfl) | (rw [h_6_, h_5_]; exact bI_n)) ⟨rfl, _, rfl, ?_⟩ dX9_takesYards_41
      exfalso
      rw [hg4] at *
      first | exact absurd (by assumption) (nI_pos (n := g) (by omega)) | exact absurd (nI_lt (b := 4) g4 (by decide)) (by assumption)
    · have n_4_ := Int32.not_le.mp c_4_
      refine j_aload_n C dX9_takesYards_19 rfl (lv_at hl 0 rfl) ?_
      refine j_getR (k := 43) (k2 := 44) C (f_RX9_9_9) (xl (by decide)) (rfl) (rfl) dX9_takesYards_20 ?_
      refine j_aload_n C dX9_takesYards_23 rfl (lv_at hl 0 rfl) ?_
      refine j_getI (k := 43) C (f_RX9_28_9) (xl (by decide)) (rfl) dX9_takesYards_24 ?_
      refine j_iload_n C dX9_takesYards_27 rfl (lv_at hl 1 rfl) ?_
      refine j_iast (k := 44) (n := 4) C (xl (by decide)) (rfl) (rfl) (by rw [hg4]; exact vp_in_nI g4 (by decide)) dX9_takesYards_28 (fun V1 eV1 => ?_)
      refine j_aload_n C dX9_takesYards_29 rfl (lv_at hl 0 rfl) ?_
      refine j_iconst (v := 4) C dX9_takesYards_30 (by decide) ?_
      refine j_iload_n C dX9_takesYards_31 rfl (lv_at hl 1 rfl) ?_
      refine j_iconst (v := 1) C dX9_takesYards_32 (by decide) ?_
      refine j_bipush (v := 9) C dX9_takesYards_33 (by decide) ?_
      refine j_callN C [.int (z), .int (1), .int (9)] [.int (4), .ref (ad (43))] (k_X11_isWithin l (xS ad tk nt) V1 (z) (1) (9)) v_RX9_75 ⟨rfl, rfl, Nat.le_of_ble_eq_true rfl, Nat.le_of_ble_eq_true rfl⟩ rfl hl.1 rfl (Nat.le_of_ble_eq_true rfl) ⟨Nat.le_of_ble_eq_true rfl, Nat.le_of_ble_eq_true rfl⟩ dX9_takesYards_35 (kI fun x_7_ U7 h_7_ => ?_)
      obtain ⟨eU7, h_7_⟩ := h_7_
      have eU7 := eU7.symm
      subst eU7
      refine j_callV (k := 43) C [.int (4), .int (x_7_)] [] (k_X9_thenAwait l ad tk nt V1 (4) (x_7_) (by rw [h_7_]; exact bI_n)) v_RX9_44 (xl (by decide)) (rfl) rfl ⟨rfl, rfl, Nat.le_of_ble_eq_true rfl, Nat.le_of_ble_eq_true rfl⟩ rfl hl.1 rfl (Nat.le_of_ble_eq_true rfl) ⟨Nat.le_of_ble_eq_true rfl, Nat.le_of_ble_eq_true rfl⟩ dX9_takesYards_38 (kI fun x_8_ U8 h_8_ => ?_)
      obtain ⟨eU8, h_8_⟩ := h_8_
      refine j_zret C (by first | (rw [h_8_]; exact bI_n) | (rw [h_8_]; rfl) | (rw [h_8_, h_7_]; exact bI_n)) ⟨rfl, _, rfl, ?_⟩ dX9_takesYards_41
      rw [h_8_, h_7_]
      refine ⟨?_, rfl⟩
      rw [eU8, eV1]
      rw [hg4, nI_clamp (by omega)]
abbrev rm_X9_takesLeaning : Room := { frames := 1, cells := 0, slots := 0, locals := 22 }
set_option maxHeartbeats 4000000 in
set_option maxRecDepth 100000 in
theorem k_X9_takesLeaning (l : Launch) (ad tk : Nat → Nat) (nt : Nat) (V : Vt) (g : Nat) (hg4 : V 43 2 = nI g) (g4 : g < 4) (z : Int32) : Ct l yX9_takesLeaning cX9_takesLeaning 2 (some .boolean) rm_X9_takesLeaning (xS ad tk nt) V [.ref (ad (43)), .int (z)] (rI fun x V2 => V2 = up2 (up2 (up2 V 45 g z) 43 2 (nI (g + 1))) 43 0 2 ∧ x = bI (0 ≤ z ∧ z ≤ 9)) := by
  refine Ct_of (by decide) (Nat.le_of_ble_eq_true rfl) ?_
  intro p e s m below meth c A D cy ls C hl
  have hl : lv_has ls 2 [(0, .ref (ad (43))), (1, .int (z))] := hl
  refine j_aload_n C dX9_takesLeaning_0 rfl (lv_at hl 0 rfl) ?_
  refine j_getI (k := 43) C (f_RX9_28_9) (xl (by decide)) (rfl) dX9_takesLeaning_1 ?_
  refine j_if_lt (tgt := 29) C dX9_takesLeaning_4 (by decide) (fun c_1_ => ?_) (fun c_1_ => ?_)
  · have n_1_ := Int32.not_le.mpr c_1_
    refine j_aload_n C dX9_takesLeaning_29 rfl (lv_at hl 0 rfl) ?_
    refine j_dup C dX9_takesLeaning_30 rfl ?_
    refine j_getI (k := 43) C (f_RX9_28_9) (xl (by decide)) (rfl) dX9_takesLeaning_31 ?_
    refine j_iconst (v := 1) C dX9_takesLeaning_34 (by decide) ?_
    refine j_iadd C dX9_takesLeaning_35 ?_
    refine j_putI (k := 43) C (f_RX9_28_9) p_9_2 (xl (by decide)) (rfl) dX9_takesLeaning_36 (fun V1 eV1 => ?_)
    refine j_aload_n C dX9_takesLeaning_39 rfl (lv_at hl 0 rfl) ?_
    refine j_iconst (v := 2) C dX9_takesLeaning_40 (by decide) ?_
    refine j_iload_n C dX9_takesLeaning_41 rfl (lv_at hl 1 rfl) ?_
    refine j_iconst (v := 0) C dX9_takesLeaning_42 (by decide) ?_
    refine j_bipush (v := 9) C dX9_takesLeaning_43 (by decide) ?_
    refine j_callN C [.int (z), .int (0), .int (9)] [.int (2), .ref (ad (43))] (k_X11_isWithin l (xS ad tk nt) V1 (z) (0) (9)) v_RX9_75 ⟨rfl, rfl, Nat.le_of_ble_eq_true rfl, Nat.le_of_ble_eq_true rfl⟩ rfl hl.1 rfl (Nat.le_of_ble_eq_true rfl) ⟨Nat.le_of_ble_eq_true rfl, Nat.le_of_ble_eq_true rfl⟩ dX9_takesLeaning_45 (kI fun x_2_ U2 h_2_ => ?_)
    obtain ⟨eU2, h_2_⟩ := h_2_
    have eU2 := eU2.symm
    subst eU2
    refine j_callV (k := 43) C [.int (2), .int (x_2_)] [] (k_X9_thenAwait l ad tk nt V1 (2) (x_2_) (by rw [h_2_]; exact bI_n)) v_RX9_44 (xl (by decide)) (rfl) rfl ⟨rfl, rfl, Nat.le_of_ble_eq_true rfl, Nat.le_of_ble_eq_true rfl⟩ rfl hl.1 rfl (Nat.le_of_ble_eq_true rfl) ⟨Nat.le_of_ble_eq_true rfl, Nat.le_of_ble_eq_true rfl⟩ dX9_takesLeaning_48 (kI fun x_3_ U3 h_3_ => ?_)
    obtain ⟨eU3, h_3_⟩ := h_3_
    refine j_zret C (by first | (rw [h_3_]; exact bI_n) | (rw [h_3_]; rfl) | (rw [h_3_, h_2_]; exact bI_n)) ⟨rfl, _, rfl, ?_⟩ dX9_takesLeaning_51
    exfalso
    rw [hg4] at *
    first | exact absurd (by assumption) (nI_pos (n := g) (by omega)) | exact absurd (nI_lt (b := 4) g4 (by decide)) (by assumption)
  · have n_1_ := Int32.not_lt.mp c_1_
    refine j_aload_n C dX9_takesLeaning_7 rfl (lv_at hl 0 rfl) ?_
    refine j_getI (k := 43) C (f_RX9_28_9) (xl (by decide)) (rfl) dX9_takesLeaning_8 ?_
    refine j_aload_n C dX9_takesLeaning_11 rfl (lv_at hl 0 rfl) ?_
    refine j_getR (k := 43) (k2 := 45) C (f_RX9_15_9) (xl (by decide)) (rfl) (rfl) dX9_takesLeaning_12 ?_
    refine j_alen (k := 45) (n := 4) C (xl (by decide)) (Or.inl (rfl)) (rfl) dX9_takesLeaning_15 ?_
    refine j_icmp_ge (tgt := 29) C dX9_takesLeaning_16 (by decide) (fun c_4_ => ?_) (fun c_4_ => ?_)
    · have n_4_ := Int32.not_lt.mpr c_4_
      refine j_aload_n C dX9_takesLeaning_29 rfl (lv_at hl 0 rfl) ?_
      refine j_dup C dX9_takesLeaning_30 rfl ?_
      refine j_getI (k := 43) C (f_RX9_28_9) (xl (by decide)) (rfl) dX9_takesLeaning_31 ?_
      refine j_iconst (v := 1) C dX9_takesLeaning_34 (by decide) ?_
      refine j_iadd C dX9_takesLeaning_35 ?_
      refine j_putI (k := 43) C (f_RX9_28_9) p_9_2 (xl (by decide)) (rfl) dX9_takesLeaning_36 (fun V2 eV2 => ?_)
      refine j_aload_n C dX9_takesLeaning_39 rfl (lv_at hl 0 rfl) ?_
      refine j_iconst (v := 2) C dX9_takesLeaning_40 (by decide) ?_
      refine j_iload_n C dX9_takesLeaning_41 rfl (lv_at hl 1 rfl) ?_
      refine j_iconst (v := 0) C dX9_takesLeaning_42 (by decide) ?_
      refine j_bipush (v := 9) C dX9_takesLeaning_43 (by decide) ?_
      refine j_callN C [.int (z), .int (0), .int (9)] [.int (2), .ref (ad (43))] (k_X11_isWithin l (xS ad tk nt) V2 (z) (0) (9)) v_RX9_75 ⟨rfl, rfl, Nat.le_of_ble_eq_true rfl, Nat.le_of_ble_eq_true rfl⟩ rfl hl.1 rfl (Nat.le_of_ble_eq_true rfl) ⟨Nat.le_of_ble_eq_true rfl, Nat.le_of_ble_eq_true rfl⟩ dX9_takesLeaning_45 (kI fun x_5_ U5 h_5_ => ?_)
      obtain ⟨eU5, h_5_⟩ := h_5_
      have eU5 := eU5.symm
      subst eU5
      refine j_callV (k := 43) C [.int (2), .int (x_5_)] [] (k_X9_thenAwait l ad tk nt V2 (2) (x_5_) (by rw [h_5_]; exact bI_n)) v_RX9_44 (xl (by decide)) (rfl) rfl ⟨rfl, rfl, Nat.le_of_ble_eq_true rfl, Nat.le_of_ble_eq_true rfl⟩ rfl hl.1 rfl (Nat.le_of_ble_eq_true rfl) ⟨Nat.le_of_ble_eq_true rfl, Nat.le_of_ble_eq_true rfl⟩ dX9_takesLeaning_48 (kI fun x_6_ U6 h_6_ => ?_)
      obtain ⟨eU6, h_6_⟩ := h_6_
      refine j_zret C (by first | (rw [h_6_]; exact bI_n) | (rw [h_6_]; rfl) | (rw [h_6_, h_5_]; exact bI_n)) ⟨rfl, _, rfl, ?_⟩ dX9_takesLeaning_51
      exfalso
      rw [hg4] at *
      first | exact absurd (by assumption) (nI_pos (n := g) (by omega)) | exact absurd (nI_lt (b := 4) g4 (by decide)) (by assumption)
    · have n_4_ := Int32.not_le.mp c_4_
      refine j_aload_n C dX9_takesLeaning_19 rfl (lv_at hl 0 rfl) ?_
      refine j_getR (k := 43) (k2 := 45) C (f_RX9_15_9) (xl (by decide)) (rfl) (rfl) dX9_takesLeaning_20 ?_
      refine j_aload_n C dX9_takesLeaning_23 rfl (lv_at hl 0 rfl) ?_
      refine j_getI (k := 43) C (f_RX9_28_9) (xl (by decide)) (rfl) dX9_takesLeaning_24 ?_
      refine j_iload_n C dX9_takesLeaning_27 rfl (lv_at hl 1 rfl) ?_
      refine j_iast (k := 45) (n := 4) C (xl (by decide)) (rfl) (rfl) (by rw [hg4]; exact vp_in_nI g4 (by decide)) dX9_takesLeaning_28 (fun V3 eV3 => ?_)
      refine j_aload_n C dX9_takesLeaning_29 rfl (lv_at hl 0 rfl) ?_
      refine j_dup C dX9_takesLeaning_30 rfl ?_
      refine j_getI (k := 43) C (f_RX9_28_9) (xl (by decide)) (rfl) dX9_takesLeaning_31 ?_
      refine j_iconst (v := 1) C dX9_takesLeaning_34 (by decide) ?_
      refine j_iadd C dX9_takesLeaning_35 ?_
      refine j_putI (k := 43) C (f_RX9_28_9) p_9_2 (xl (by decide)) (rfl) dX9_takesLeaning_36 (fun V4 eV4 => ?_)
      refine j_aload_n C dX9_takesLeaning_39 rfl (lv_at hl 0 rfl) ?_
      refine j_iconst (v := 2) C dX9_takesLeaning_40 (by decide) ?_
      refine j_iload_n C dX9_takesLeaning_41 rfl (lv_at hl 1 rfl) ?_
      refine j_iconst (v := 0) C dX9_takesLeaning_42 (by decide) ?_
      refine j_bipush (v := 9) C dX9_takesLeaning_43 (by decide) ?_
      refine j_callN C [.int (z), .int (0), .int (9)] [.int (2), .ref (ad (43))] (k_X11_isWithin l (xS ad tk nt) V4 (z) (0) (9)) v_RX9_75 ⟨rfl, rfl, Nat.le_of_ble_eq_true rfl, Nat.le_of_ble_eq_true rfl⟩ rfl hl.1 rfl (Nat.le_of_ble_eq_true rfl) ⟨Nat.le_of_ble_eq_true rfl, Nat.le_of_ble_eq_true rfl⟩ dX9_takesLeaning_45 (kI fun x_7_ U7 h_7_ => ?_)
      obtain ⟨eU7, h_7_⟩ := h_7_
      have eU7 := eU7.symm
      subst eU7
      refine j_callV (k := 43) C [.int (2), .int (x_7_)] [] (k_X9_thenAwait l ad tk nt V4 (2) (x_7_) (by rw [h_7_]; exact bI_n)) v_RX9_44 (xl (by decide)) (rfl) rfl ⟨rfl, rfl, Nat.le_of_ble_eq_true rfl, Nat.le_of_ble_eq_true rfl⟩ rfl hl.1 rfl (Nat.le_of_ble_eq_true rfl) ⟨Nat.le_of_ble_eq_true rfl, Nat.le_of_ble_eq_true rfl⟩ dX9_takesLeaning_48 (kI fun x_8_ U8 h_8_ => ?_)
      obtain ⟨eU8, h_8_⟩ := h_8_
      refine j_zret C (by first | (rw [h_8_]; exact bI_n) | (rw [h_8_]; rfl) | (rw [h_8_, h_7_]; exact bI_n)) ⟨rfl, _, rfl, ?_⟩ dX9_takesLeaning_51
      rw [h_8_, h_7_]
      refine ⟨?_, rfl⟩
      rw [eU8, eV4, eV3]
      rw [up2_k _ _ (by decide), hg4, nI_clamp (by omega), nI_1]
abbrev rm_X9_takesLetter : Room := { frames := 1, cells := 0, slots := 0, locals := 22 }
set_option maxHeartbeats 4000000 in
set_option maxRecDepth 100000 in
theorem k_X9_takesLetter (l : Launch) (ad tk : Nat → Nat) (nt : Nat) (V : Vt) (t : Nat) (ht5 : V 43 3 = nI t) (t5 : t < 5) (z : Int32) : Ct l yX9_takesLetter cX9_takesLetter 2 (some .boolean) rm_X9_takesLetter (xS ad tk nt) V [.ref (ad (43)), .int (z)] (rI fun x V2 => V2 = up2 (up2 V 46 t z) 43 0 6 ∧ x = bI (0 ≤ z ∧ z ≤ 2)) := by
  refine Ct_of (by decide) (Nat.le_of_ble_eq_true rfl) ?_
  intro p e s m below meth c A D cy ls C hl
  have hl : lv_has ls 2 [(0, .ref (ad (43))), (1, .int (z))] := hl
  refine j_aload_n C dX9_takesLetter_0 rfl (lv_at hl 0 rfl) ?_
  refine j_getI (k := 43) C (f_RX9_31_9) (xl (by decide)) (rfl) dX9_takesLetter_1 ?_
  refine j_if_lt (tgt := 29) C dX9_takesLetter_4 (by decide) (fun c_1_ => ?_) (fun c_1_ => ?_)
  · have n_1_ := Int32.not_le.mpr c_1_
    refine j_aload_n C dX9_takesLetter_29 rfl (lv_at hl 0 rfl) ?_
    refine j_bipush (v := 6) C dX9_takesLetter_30 (by decide) ?_
    refine j_iload_n C dX9_takesLetter_32 rfl (lv_at hl 1 rfl) ?_
    refine j_iconst (v := 0) C dX9_takesLetter_33 (by decide) ?_
    refine j_iconst (v := 2) C dX9_takesLetter_34 (by decide) ?_
    refine j_callN C [.int (z), .int (0), .int (2)] [.int (6), .ref (ad (43))] (k_X11_isWithin l (xS ad tk nt) V (z) (0) (2)) v_RX9_75 ⟨rfl, rfl, Nat.le_of_ble_eq_true rfl, Nat.le_of_ble_eq_true rfl⟩ rfl hl.1 rfl (Nat.le_of_ble_eq_true rfl) ⟨Nat.le_of_ble_eq_true rfl, Nat.le_of_ble_eq_true rfl⟩ dX9_takesLetter_35 (kI fun x_2_ U2 h_2_ => ?_)
    obtain ⟨eU2, h_2_⟩ := h_2_
    have eU2 := eU2.symm
    subst eU2
    refine j_callV (k := 43) C [.int (6), .int (x_2_)] [] (k_X9_thenAwait l ad tk nt V (6) (x_2_) (by rw [h_2_]; exact bI_n)) v_RX9_44 (xl (by decide)) (rfl) rfl ⟨rfl, rfl, Nat.le_of_ble_eq_true rfl, Nat.le_of_ble_eq_true rfl⟩ rfl hl.1 rfl (Nat.le_of_ble_eq_true rfl) ⟨Nat.le_of_ble_eq_true rfl, Nat.le_of_ble_eq_true rfl⟩ dX9_takesLetter_38 (kI fun x_3_ U3 h_3_ => ?_)
    obtain ⟨eU3, h_3_⟩ := h_3_
    refine j_zret C (by first | (rw [h_3_]; exact bI_n) | (rw [h_3_]; rfl) | (rw [h_3_, h_2_]; exact bI_n)) ⟨rfl, _, rfl, ?_⟩ dX9_takesLetter_41
    exfalso
    rw [ht5] at *
    first | exact absurd (by assumption) (nI_pos (n := t) (by omega)) | exact absurd (nI_lt (b := 5) t5 (by decide)) (by assumption)
  · have n_1_ := Int32.not_lt.mp c_1_
    refine j_aload_n C dX9_takesLetter_7 rfl (lv_at hl 0 rfl) ?_
    refine j_getI (k := 43) C (f_RX9_31_9) (xl (by decide)) (rfl) dX9_takesLetter_8 ?_
    refine j_aload_n C dX9_takesLetter_11 rfl (lv_at hl 0 rfl) ?_
    refine j_getR (k := 43) (k2 := 46) C (f_RX9_18_9) (xl (by decide)) (rfl) (rfl) dX9_takesLetter_12 ?_
    refine j_alen (k := 46) (n := 5) C (xl (by decide)) (Or.inl (rfl)) (rfl) dX9_takesLetter_15 ?_
    refine j_icmp_ge (tgt := 29) C dX9_takesLetter_16 (by decide) (fun c_4_ => ?_) (fun c_4_ => ?_)
    · have n_4_ := Int32.not_lt.mpr c_4_
      refine j_aload_n C dX9_takesLetter_29 rfl (lv_at hl 0 rfl) ?_
      refine j_bipush (v := 6) C dX9_takesLetter_30 (by decide) ?_
      refine j_iload_n C dX9_takesLetter_32 rfl (lv_at hl 1 rfl) ?_
      refine j_iconst (v := 0) C dX9_takesLetter_33 (by decide) ?_
      refine j_iconst (v := 2) C dX9_takesLetter_34 (by decide) ?_
      refine j_callN C [.int (z), .int (0), .int (2)] [.int (6), .ref (ad (43))] (k_X11_isWithin l (xS ad tk nt) V (z) (0) (2)) v_RX9_75 ⟨rfl, rfl, Nat.le_of_ble_eq_true rfl, Nat.le_of_ble_eq_true rfl⟩ rfl hl.1 rfl (Nat.le_of_ble_eq_true rfl) ⟨Nat.le_of_ble_eq_true rfl, Nat.le_of_ble_eq_true rfl⟩ dX9_takesLetter_35 (kI fun x_5_ U5 h_5_ => ?_)
      obtain ⟨eU5, h_5_⟩ := h_5_
      have eU5 := eU5.symm
      subst eU5
      refine j_callV (k := 43) C [.int (6), .int (x_5_)] [] (k_X9_thenAwait l ad tk nt V (6) (x_5_) (by rw [h_5_]; exact bI_n)) v_RX9_44 (xl (by decide)) (rfl) rfl ⟨rfl, rfl, Nat.le_of_ble_eq_true rfl, Nat.le_of_ble_eq_true rfl⟩ rfl hl.1 rfl (Nat.le_of_ble_eq_true rfl) ⟨Nat.le_of_ble_eq_true rfl, Nat.le_of_ble_eq_true rfl⟩ dX9_takesLetter_38 (kI fun x_6_ U6 h_6_ => ?_)
      obtain ⟨eU6, h_6_⟩ := h_6_
      refine j_zret C (by first | (rw [h_6_]; exact bI_n) | (rw [h_6_]; rfl) | (rw [h_6_, h_5_]; exact bI_n)) ⟨rfl, _, rfl, ?_⟩ dX9_takesLetter_41
      exfalso
      rw [ht5] at *
      first | exact absurd (by assumption) (nI_pos (n := t) (by omega)) | exact absurd (nI_lt (b := 5) t5 (by decide)) (by assumption)
    · have n_4_ := Int32.not_le.mp c_4_
      refine j_aload_n C dX9_takesLetter_19 rfl (lv_at hl 0 rfl) ?_
      refine j_getR (k := 43) (k2 := 46) C (f_RX9_18_9) (xl (by decide)) (rfl) (rfl) dX9_takesLetter_20 ?_
      refine j_aload_n C dX9_takesLetter_23 rfl (lv_at hl 0 rfl) ?_
      refine j_getI (k := 43) C (f_RX9_31_9) (xl (by decide)) (rfl) dX9_takesLetter_24 ?_
      refine j_iload_n C dX9_takesLetter_27 rfl (lv_at hl 1 rfl) ?_
      refine j_iast (k := 46) (n := 5) C (xl (by decide)) (rfl) (rfl) (by rw [ht5]; exact vp_in_nI t5 (by decide)) dX9_takesLetter_28 (fun V1 eV1 => ?_)
      refine j_aload_n C dX9_takesLetter_29 rfl (lv_at hl 0 rfl) ?_
      refine j_bipush (v := 6) C dX9_takesLetter_30 (by decide) ?_
      refine j_iload_n C dX9_takesLetter_32 rfl (lv_at hl 1 rfl) ?_
      refine j_iconst (v := 0) C dX9_takesLetter_33 (by decide) ?_
      refine j_iconst (v := 2) C dX9_takesLetter_34 (by decide) ?_
      refine j_callN C [.int (z), .int (0), .int (2)] [.int (6), .ref (ad (43))] (k_X11_isWithin l (xS ad tk nt) V1 (z) (0) (2)) v_RX9_75 ⟨rfl, rfl, Nat.le_of_ble_eq_true rfl, Nat.le_of_ble_eq_true rfl⟩ rfl hl.1 rfl (Nat.le_of_ble_eq_true rfl) ⟨Nat.le_of_ble_eq_true rfl, Nat.le_of_ble_eq_true rfl⟩ dX9_takesLetter_35 (kI fun x_7_ U7 h_7_ => ?_)
      obtain ⟨eU7, h_7_⟩ := h_7_
      have eU7 := eU7.symm
      subst eU7
      refine j_callV (k := 43) C [.int (6), .int (x_7_)] [] (k_X9_thenAwait l ad tk nt V1 (6) (x_7_) (by rw [h_7_]; exact bI_n)) v_RX9_44 (xl (by decide)) (rfl) rfl ⟨rfl, rfl, Nat.le_of_ble_eq_true rfl, Nat.le_of_ble_eq_true rfl⟩ rfl hl.1 rfl (Nat.le_of_ble_eq_true rfl) ⟨Nat.le_of_ble_eq_true rfl, Nat.le_of_ble_eq_true rfl⟩ dX9_takesLetter_38 (kI fun x_8_ U8 h_8_ => ?_)
      obtain ⟨eU8, h_8_⟩ := h_8_
      refine j_zret C (by first | (rw [h_8_]; exact bI_n) | (rw [h_8_]; rfl) | (rw [h_8_, h_7_]; exact bI_n)) ⟨rfl, _, rfl, ?_⟩ dX9_takesLetter_41
      rw [h_8_, h_7_]
      refine ⟨?_, rfl⟩
      rw [eU8, eV1]
      rw [ht5, nI_clamp (by omega)]
abbrev rm_X9_takesArm : Room := { frames := 1, cells := 0, slots := 0, locals := 22 }
set_option maxHeartbeats 4000000 in
set_option maxRecDepth 100000 in
theorem k_X9_takesArm (l : Launch) (ad tk : Nat → Nat) (nt : Nat) (V : Vt) (t : Nat) (ht5 : V 43 3 = nI t) (t5 : t < 5) (z : Int32) : Ct l yX9_takesArm cX9_takesArm 2 (some .boolean) rm_X9_takesArm (xS ad tk nt) V [.ref (ad (43)), .int (z)] (rI fun x V2 => V2 = up2 (up2 (up2 V 47 t z) 43 3 (nI (t + 1))) 43 0 7 ∧ x = bI (1 ≤ z ∧ z ≤ 9)) := by
  refine Ct_of (by decide) (Nat.le_of_ble_eq_true rfl) ?_
  intro p e s m below meth c A D cy ls C hl
  have hl : lv_has ls 2 [(0, .ref (ad (43))), (1, .int (z))] := hl
  refine j_aload_n C dX9_takesArm_0 rfl (lv_at hl 0 rfl) ?_
  refine j_getI (k := 43) C (f_RX9_31_9) (xl (by decide)) (rfl) dX9_takesArm_1 ?_
  refine j_if_lt (tgt := 29) C dX9_takesArm_4 (by decide) (fun c_1_ => ?_) (fun c_1_ => ?_)
  · have n_1_ := Int32.not_le.mpr c_1_
    refine j_aload_n C dX9_takesArm_29 rfl (lv_at hl 0 rfl) ?_
    refine j_dup C dX9_takesArm_30 rfl ?_
    refine j_getI (k := 43) C (f_RX9_31_9) (xl (by decide)) (rfl) dX9_takesArm_31 ?_
    refine j_iconst (v := 1) C dX9_takesArm_34 (by decide) ?_
    refine j_iadd C dX9_takesArm_35 ?_
    refine j_putI (k := 43) C (f_RX9_31_9) p_9_3 (xl (by decide)) (rfl) dX9_takesArm_36 (fun V1 eV1 => ?_)
    refine j_aload_n C dX9_takesArm_39 rfl (lv_at hl 0 rfl) ?_
    refine j_bipush (v := 7) C dX9_takesArm_40 (by decide) ?_
    refine j_iload_n C dX9_takesArm_42 rfl (lv_at hl 1 rfl) ?_
    refine j_iconst (v := 1) C dX9_takesArm_43 (by decide) ?_
    refine j_bipush (v := 9) C dX9_takesArm_44 (by decide) ?_
    refine j_callN C [.int (z), .int (1), .int (9)] [.int (7), .ref (ad (43))] (k_X11_isWithin l (xS ad tk nt) V1 (z) (1) (9)) v_RX9_75 ⟨rfl, rfl, Nat.le_of_ble_eq_true rfl, Nat.le_of_ble_eq_true rfl⟩ rfl hl.1 rfl (Nat.le_of_ble_eq_true rfl) ⟨Nat.le_of_ble_eq_true rfl, Nat.le_of_ble_eq_true rfl⟩ dX9_takesArm_46 (kI fun x_2_ U2 h_2_ => ?_)
    obtain ⟨eU2, h_2_⟩ := h_2_
    have eU2 := eU2.symm
    subst eU2
    refine j_callV (k := 43) C [.int (7), .int (x_2_)] [] (k_X9_thenAwait l ad tk nt V1 (7) (x_2_) (by rw [h_2_]; exact bI_n)) v_RX9_44 (xl (by decide)) (rfl) rfl ⟨rfl, rfl, Nat.le_of_ble_eq_true rfl, Nat.le_of_ble_eq_true rfl⟩ rfl hl.1 rfl (Nat.le_of_ble_eq_true rfl) ⟨Nat.le_of_ble_eq_true rfl, Nat.le_of_ble_eq_true rfl⟩ dX9_takesArm_49 (kI fun x_3_ U3 h_3_ => ?_)
    obtain ⟨eU3, h_3_⟩ := h_3_
    refine j_zret C (by first | (rw [h_3_]; exact bI_n) | (rw [h_3_]; rfl) | (rw [h_3_, h_2_]; exact bI_n)) ⟨rfl, _, rfl, ?_⟩ dX9_takesArm_52
    exfalso
    rw [ht5] at *
    first | exact absurd (by assumption) (nI_pos (n := t) (by omega)) | exact absurd (nI_lt (b := 5) t5 (by decide)) (by assumption)
  · have n_1_ := Int32.not_lt.mp c_1_
    refine j_aload_n C dX9_takesArm_7 rfl (lv_at hl 0 rfl) ?_
    refine j_getI (k := 43) C (f_RX9_31_9) (xl (by decide)) (rfl) dX9_takesArm_8 ?_
    refine j_aload_n C dX9_takesArm_11 rfl (lv_at hl 0 rfl) ?_
    refine j_getR (k := 43) (k2 := 47) C (f_RX9_21_9) (xl (by decide)) (rfl) (rfl) dX9_takesArm_12 ?_
    refine j_alen (k := 47) (n := 5) C (xl (by decide)) (Or.inl (rfl)) (rfl) dX9_takesArm_15 ?_
    refine j_icmp_ge (tgt := 29) C dX9_takesArm_16 (by decide) (fun c_4_ => ?_) (fun c_4_ => ?_)
    · have n_4_ := Int32.not_lt.mpr c_4_
      refine j_aload_n C dX9_takesArm_29 rfl (lv_at hl 0 rfl) ?_
      refine j_dup C dX9_takesArm_30 rfl ?_
      refine j_getI (k := 43) C (f_RX9_31_9) (xl (by decide)) (rfl) dX9_takesArm_31 ?_
      refine j_iconst (v := 1) C dX9_takesArm_34 (by decide) ?_
      refine j_iadd C dX9_takesArm_35 ?_
      refine j_putI (k := 43) C (f_RX9_31_9) p_9_3 (xl (by decide)) (rfl) dX9_takesArm_36 (fun V2 eV2 => ?_)
      refine j_aload_n C dX9_takesArm_39 rfl (lv_at hl 0 rfl) ?_
      refine j_bipush (v := 7) C dX9_takesArm_40 (by decide) ?_
      refine j_iload_n C dX9_takesArm_42 rfl (lv_at hl 1 rfl) ?_
      refine j_iconst (v := 1) C dX9_takesArm_43 (by decide) ?_
      refine j_bipush (v := 9) C dX9_takesArm_44 (by decide) ?_
      refine j_callN C [.int (z), .int (1), .int (9)] [.int (7), .ref (ad (43))] (k_X11_isWithin l (xS ad tk nt) V2 (z) (1) (9)) v_RX9_75 ⟨rfl, rfl, Nat.le_of_ble_eq_true rfl, Nat.le_of_ble_eq_true rfl⟩ rfl hl.1 rfl (Nat.le_of_ble_eq_true rfl) ⟨Nat.le_of_ble_eq_true rfl, Nat.le_of_ble_eq_true rfl⟩ dX9_takesArm_46 (kI fun x_5_ U5 h_5_ => ?_)
      obtain ⟨eU5, h_5_⟩ := h_5_
      have eU5 := eU5.symm
      subst eU5
      refine j_callV (k := 43) C [.int (7), .int (x_5_)] [] (k_X9_thenAwait l ad tk nt V2 (7) (x_5_) (by rw [h_5_]; exact bI_n)) v_RX9_44 (xl (by decide)) (rfl) rfl ⟨rfl, rfl, Nat.le_of_ble_eq_true rfl, Nat.le_of_ble_eq_true rfl⟩ rfl hl.1 rfl (Nat.le_of_ble_eq_true rfl) ⟨Nat.le_of_ble_eq_true rfl, Nat.le_of_ble_eq_true rfl⟩ dX9_takesArm_49 (kI fun x_6_ U6 h_6_ => ?_)
      obtain ⟨eU6, h_6_⟩ := h_6_
      refine j_zret C (by first | (rw [h_6_]; exact bI_n) | (rw [h_6_]; rfl) | (rw [h_6_, h_5_]; exact bI_n)) ⟨rfl, _, rfl, ?_⟩ dX9_takesArm_52
      exfalso
      rw [ht5] at *
      first | exact absurd (by assumption) (nI_pos (n := t) (by omega)) | exact absurd (nI_lt (b := 5) t5 (by decide)) (by assumption)
    · have n_4_ := Int32.not_le.mp c_4_
      refine j_aload_n C dX9_takesArm_19 rfl (lv_at hl 0 rfl) ?_
      refine j_getR (k := 43) (k2 := 47) C (f_RX9_21_9) (xl (by decide)) (rfl) (rfl) dX9_takesArm_20 ?_
      refine j_aload_n C dX9_takesArm_23 rfl (lv_at hl 0 rfl) ?_
      refine j_getI (k := 43) C (f_RX9_31_9) (xl (by decide)) (rfl) dX9_takesArm_24 ?_
      refine j_iload_n C dX9_takesArm_27 rfl (lv_at hl 1 rfl) ?_
      refine j_iast (k := 47) (n := 5) C (xl (by decide)) (rfl) (rfl) (by rw [ht5]; exact vp_in_nI t5 (by decide)) dX9_takesArm_28 (fun V3 eV3 => ?_)
      refine j_aload_n C dX9_takesArm_29 rfl (lv_at hl 0 rfl) ?_
      refine j_dup C dX9_takesArm_30 rfl ?_
      refine j_getI (k := 43) C (f_RX9_31_9) (xl (by decide)) (rfl) dX9_takesArm_31 ?_
      refine j_iconst (v := 1) C dX9_takesArm_34 (by decide) ?_
      refine j_iadd C dX9_takesArm_35 ?_
      refine j_putI (k := 43) C (f_RX9_31_9) p_9_3 (xl (by decide)) (rfl) dX9_takesArm_36 (fun V4 eV4 => ?_)
      refine j_aload_n C dX9_takesArm_39 rfl (lv_at hl 0 rfl) ?_
      refine j_bipush (v := 7) C dX9_takesArm_40 (by decide) ?_
      refine j_iload_n C dX9_takesArm_42 rfl (lv_at hl 1 rfl) ?_
      refine j_iconst (v := 1) C dX9_takesArm_43 (by decide) ?_
      refine j_bipush (v := 9) C dX9_takesArm_44 (by decide) ?_
      refine j_callN C [.int (z), .int (1), .int (9)] [.int (7), .ref (ad (43))] (k_X11_isWithin l (xS ad tk nt) V4 (z) (1) (9)) v_RX9_75 ⟨rfl, rfl, Nat.le_of_ble_eq_true rfl, Nat.le_of_ble_eq_true rfl⟩ rfl hl.1 rfl (Nat.le_of_ble_eq_true rfl) ⟨Nat.le_of_ble_eq_true rfl, Nat.le_of_ble_eq_true rfl⟩ dX9_takesArm_46 (kI fun x_7_ U7 h_7_ => ?_)
      obtain ⟨eU7, h_7_⟩ := h_7_
      have eU7 := eU7.symm
      subst eU7
      refine j_callV (k := 43) C [.int (7), .int (x_7_)] [] (k_X9_thenAwait l ad tk nt V4 (7) (x_7_) (by rw [h_7_]; exact bI_n)) v_RX9_44 (xl (by decide)) (rfl) rfl ⟨rfl, rfl, Nat.le_of_ble_eq_true rfl, Nat.le_of_ble_eq_true rfl⟩ rfl hl.1 rfl (Nat.le_of_ble_eq_true rfl) ⟨Nat.le_of_ble_eq_true rfl, Nat.le_of_ble_eq_true rfl⟩ dX9_takesArm_49 (kI fun x_8_ U8 h_8_ => ?_)
      obtain ⟨eU8, h_8_⟩ := h_8_
      refine j_zret C (by first | (rw [h_8_]; exact bI_n) | (rw [h_8_]; rfl) | (rw [h_8_, h_7_]; exact bI_n)) ⟨rfl, _, rfl, ?_⟩ dX9_takesArm_52
      rw [h_8_, h_7_]
      refine ⟨?_, rfl⟩
      rw [eU8, eV4, eV3]
      rw [up2_k _ _ (by decide), ht5, nI_clamp (by omega), nI_1]
/-! the text as a machine: what is awaited, frost, girls, throwers, and their rows -/
abbrev Au : Type := Nat × Int32 × Nat × Nat × (Nat → Int32) × (Nat → Int32) × (Nat → Int32) × (Nat → Int32)
def dgI (z : Int32) : Int32 := if 48 ≤ z ∧ z ≤ 57 then z - 48 else -9
def kbI (z : Int32) : Int32 := if z = 114 then 0 else if z = 108 then 1 else if z = 115 then 2 else -9
def auS (a : Au) (z : Int32) : Option Au :=
  match a with
  | (aw, fr, g, t, ys, ls, ks, as) =>
    if aw = 0 then (if z = 113 then some (1, fr, g, t, ys, ls, ks, as) else none)
    else if aw = 1 then (if 0 ≤ dgI z ∧ dgI z ≤ 3 then some (2, dgI z, g, t, ys, ls, ks, as) else none)
    else if aw = 2 then (if z = 44 then (if g < 4 then some (3, fr, g, t, ys, ls, ks, as) else none) else if z = 59 ∧ 0 < g then some (5, fr, g, t, ys, ls, ks, as) else none)
    else if aw = 3 then (if 1 ≤ dgI z ∧ dgI z ≤ 9 then some (4, fr, g, t, upd ys g (dgI z), ls, ks, as) else none)
    else if aw = 4 then (if 0 ≤ dgI z ∧ dgI z ≤ 9 then some (2, fr, g + 1, t, ys, upd ls g (dgI z), ks, as) else none)
    else if aw = 5 then (if 0 ≤ kbI z ∧ kbI z ≤ 2 then some (6, fr, g, t, ys, ls, upd ks t (kbI z), as) else none)
    else if aw = 6 then (if 1 ≤ dgI z ∧ dgI z ≤ 9 then some (7, fr, g, t + 1, ys, ls, ks, upd as t (dgI z)) else none)
    else (if z = 59 ∧ t < 5 then some (5, fr, g, t, ys, ls, ks, as) else none)
def auOk (a : Au) : Prop := a.1 ≤ 7 ∧ a.2.2.1 ≤ 4 ∧ a.2.2.2.1 ≤ 5 ∧ (a.1 = 3 ∨ a.1 = 4 → a.2.2.1 < 4) ∧ (a.1 = 5 ∨ a.1 = 6 → a.2.2.2.1 < 5) ∧ (a.1 ≤ 4 → a.2.2.2.1 = 0)
def auR (V : Vt) (a : Au) : Prop := V 43 0 = nI a.1 ∧ V 43 1 = a.2.1 ∧ V 43 2 = nI a.2.2.1 ∧ V 43 3 = nI a.2.2.2.1 ∧ V 44 = a.2.2.2.2.1 ∧ V 45 = a.2.2.2.2.2.1 ∧ V 46 = a.2.2.2.2.2.2.1 ∧ V 47 = a.2.2.2.2.2.2.2
theorem auOk_s {a b : Au} {z : Int32} (h : auOk a) (e : auS a z = some b) : auOk b := by
  obtain ⟨aw, fr, g, t, ys, ls, ks, as⟩ := a
  unfold auOk at h
  dsimp only at h
  unfold auS at e
  dsimp only at e
  repeat' split at e
  all_goals first | cases e | skip
  all_goals (unfold auOk; dsimp only; omega)
def frT (V V2 : Vt) : Prop := ∀ a, a < 43 ∨ 47 < a → V2 a = V a
abbrev rm_X9_goesOnWith : Room := { frames := 2, cells := 0, slots := 0, locals := 43 }
set_option maxHeartbeats 4000000 in
set_option maxRecDepth 100000 in
theorem k_X9_goesOnWith (l : Launch) (ad tk : Nat → Nat) (nt : Nat) (V : Vt) (a : Au) (hA : auOk a) (hR : auR V a) (z : Int32) : Ct l yX9_goesOnWith cX9_goesOnWith 2 (some .boolean) rm_X9_goesOnWith (xS ad tk nt) V [.ref (ad (43)), .int (z)] (rI fun x V2 => frT V V2 ∧ ((∃ b, auS a z = some b ∧ x = 1 ∧ auR V2 b) ∨ (auS a z = none ∧ x = 0))) := by
  refine Ct_of (by decide) (Nat.le_of_ble_eq_true rfl) ?_
  intro p e s m below meth c A D cy ls C hl
  have hl : lv_has ls 2 [(0, .ref (ad (43))), (1, .int (z))] := hl
  obtain ⟨aw, fr, g, t, ys, lx, ks, as⟩ := a
  obtain ⟨r0, r1, r2, r3, r4, r5, r6, r7⟩ := hR
  dsimp only at r0 r1 r2 r3 r4 r5 r6 r7
  subst r1 r4 r5 r6 r7
  have hA9 := hA
  unfold auOk at hA9
  dsimp only at hA9
  refine j_aload_n C dX9_goesOnWith_0 rfl (lv_at hl 0 rfl) ?_
  refine j_getI (k := 43) C (f_RX9_24_9) (xl (by decide)) (rfl) dX9_goesOnWith_1 ?_
  rcases sw_in (V 43 0) 7 (by decide) with ⟨js1, hjs1, s_1_⟩ | s_1_
  · rcases (show js1 = 0 ∨ js1 = 1 ∨ js1 = 2 ∨ js1 = 3 ∨ js1 = 4 ∨ js1 = 5 ∨ js1 = 6 by omega) with rfl | rfl | rfl | rfl | rfl | rfl | rfl
    · refine j_tableIn (off := 44) (tgt := 48) C dX9_goesOnWith_4 (by rw [s_1_]; decide) (by rw [s_1_]; decide) (by rw [s_1_]; rfl) (by decide) ?_
      refine j_aload_n C dX9_goesOnWith_48 rfl (lv_at hl 0 rfl) ?_
      refine j_iconst (v := 1) C dX9_goesOnWith_49 (by decide) ?_
      refine j_iload_n C dX9_goesOnWith_50 rfl (lv_at hl 1 rfl) ?_
      refine j_bipush (v := 113) C dX9_goesOnWith_51 (by decide) ?_
      refine j_icmp_ne (tgt := 60) C dX9_goesOnWith_53 (by decide) (fun c_2_ => ?_) (fun c_2_ => ?_)
      · skip
        refine j_iconst (v := 0) C dX9_goesOnWith_60 (by decide) ?_
        refine j_callV (k := 43) C [.int (1), .int (0)] [] (k_X9_thenAwait l ad tk nt V (1) (0) (by rfl)) v_RX9_44 (xl (by decide)) (rfl) rfl ⟨rfl, rfl, Nat.le_of_ble_eq_true rfl, Nat.le_of_ble_eq_true rfl⟩ rfl hl.1 rfl (Nat.le_of_ble_eq_true rfl) ⟨Nat.le_of_ble_eq_true rfl, Nat.le_of_ble_eq_true rfl⟩ dX9_goesOnWith_61 (kI fun x_3_ U3 h_3_ => ?_)
        obtain ⟨eU3, h_3_⟩ := h_3_
        skip
        refine j_zret C (by have e8 := h_3_; first | (rw [e8]; exact bI_n) | (rw [e8]; rfl) | (rw [e8]; split <;> exact bI_n)) ⟨rfl, _, rfl, ?_⟩ dX9_goesOnWith_64
        obtain rfl : aw = 0 := nI_inj (by omega) (by omega) (r0.symm.trans s_1_)
        refine ⟨fun a9 h_9_ => by rw [eU3]; rw [up2_k _ _ (by omega)], ?_⟩
        exact Or.inr ⟨by simp [auS, c_2_], h_3_⟩
      · skip
        refine j_iconst (v := 1) C dX9_goesOnWith_56 (by decide) ?_
        refine j_goto (tgt := 61) C dX9_goesOnWith_57 (by decide) ?_
        refine j_callV (k := 43) C [.int (1), .int (1)] [] (k_X9_thenAwait l ad tk nt V (1) (1) (by rfl)) v_RX9_44 (xl (by decide)) (rfl) rfl ⟨rfl, rfl, Nat.le_of_ble_eq_true rfl, Nat.le_of_ble_eq_true rfl⟩ rfl hl.1 rfl (Nat.le_of_ble_eq_true rfl) ⟨Nat.le_of_ble_eq_true rfl, Nat.le_of_ble_eq_true rfl⟩ dX9_goesOnWith_61 (kI fun x_4_ U4 h_4_ => ?_)
        obtain ⟨eU4, h_4_⟩ := h_4_
        skip
        refine j_zret C (by have e8 := h_4_; first | (rw [e8]; exact bI_n) | (rw [e8]; rfl) | (rw [e8]; split <;> exact bI_n)) ⟨rfl, _, rfl, ?_⟩ dX9_goesOnWith_64
        obtain rfl : aw = 0 := nI_inj (by omega) (by omega) (r0.symm.trans s_1_)
        refine ⟨fun a9 h_9_ => by rw [eU4]; rw [up2_k _ _ (by omega)], ?_⟩
        refine Or.inl ⟨_, by simp [auS, c_2_]; rfl, h_4_, ?_⟩
        unfold auR; dsimp only; simp [eU4, up2_r, up2_k, upd, r0, r2, r3]; try rfl
    · refine j_tableIn (off := 61) (tgt := 65) C dX9_goesOnWith_4 (by rw [s_1_]; decide) (by rw [s_1_]; decide) (by rw [s_1_]; rfl) (by decide) ?_
      refine j_aload_n C dX9_goesOnWith_65 rfl (lv_at hl 0 rfl) ?_
      refine j_iload_n C dX9_goesOnWith_66 rfl (lv_at hl 1 rfl) ?_
      refine j_callS C [.int (z)] [.ref (ad (43))] (k_X9_digit l (xS ad tk nt) V (z)) v_RX9_48 ⟨rfl, rfl, Nat.le_of_ble_eq_true rfl, Nat.le_of_ble_eq_true rfl⟩ rfl hl.1 rfl (Nat.le_of_ble_eq_true rfl) ⟨Nat.le_of_ble_eq_true rfl, Nat.le_of_ble_eq_true rfl⟩ dX9_goesOnWith_67 (kI fun x_5_ U5 h_5_ => ?_)
      obtain ⟨eU5, h_5_⟩ := h_5_
      have eU5 := eU5.symm
      subst eU5
      refine j_callV (k := 43) C [.int (x_5_)] [] (k_X9_takesFrost l ad tk nt V  (x_5_)) v_RX9_51 (xl (by decide)) (rfl) rfl ⟨rfl, rfl, Nat.le_of_ble_eq_true rfl, Nat.le_of_ble_eq_true rfl⟩ rfl hl.1 rfl (Nat.le_of_ble_eq_true rfl) ⟨Nat.le_of_ble_eq_true rfl, Nat.le_of_ble_eq_true rfl⟩ dX9_goesOnWith_70 (kI fun x_6_ U6 h_6_ => ?_)
      obtain ⟨eU6, h_6_⟩ := h_6_
      refine j_zret C (by have e8 := h_6_; first | (rw [e8]; exact bI_n) | (rw [e8]; rfl) | (rw [e8]; split <;> exact bI_n)) ⟨rfl, _, rfl, ?_⟩ dX9_goesOnWith_73
      obtain rfl : aw = 1 := nI_inj (by omega) (by omega) (r0.symm.trans s_1_)
      have ed : x_5_ = dgI z := h_5_
      rw [ed] at h_6_ eU6
      refine ⟨fun a9 h_9_ => by rw [eU6]; rw [up2_k _ _ (by omega)]; rw [up2_k _ _ (by omega)], ?_⟩
      by_cases hp : 0 ≤ dgI z ∧ dgI z ≤ 3
      · refine Or.inl ⟨_, by simp [auS, hp]; rfl, by rw [h_6_]; exact bI_t hp, ?_⟩
        unfold auR; dsimp only; simp [eU6, up2_r, up2_k, upd, r0, r2, r3]; try rfl
      · exact Or.inr ⟨by simp [auS, hp], by rw [h_6_]; exact bI_f hp⟩
    · refine j_tableIn (off := 70) (tgt := 74) C dX9_goesOnWith_4 (by rw [s_1_]; decide) (by rw [s_1_]; decide) (by rw [s_1_]; rfl) (by decide) ?_
      refine j_aload_n C dX9_goesOnWith_74 rfl (lv_at hl 0 rfl) ?_
      refine j_iload_n C dX9_goesOnWith_75 rfl (lv_at hl 1 rfl) ?_
      refine j_callV (k := 43) C [.int (z)] [] (k_X9_takesMark l ad tk nt V  (z)) v_RX9_54 (xl (by decide)) (rfl) rfl ⟨rfl, rfl, Nat.le_of_ble_eq_true rfl, Nat.le_of_ble_eq_true rfl⟩ rfl hl.1 rfl (Nat.le_of_ble_eq_true rfl) ⟨Nat.le_of_ble_eq_true rfl, Nat.le_of_ble_eq_true rfl⟩ dX9_goesOnWith_76 (kI fun x_7_ U7 h_7_ => ?_)
      obtain ⟨eU7, h_7_⟩ := h_7_
      refine j_zret C (by have e8 := h_7_; first | (rw [e8]; exact bI_n) | (rw [e8]; rfl) | (rw [e8]; split <;> exact bI_n)) ⟨rfl, _, rfl, ?_⟩ dX9_goesOnWith_79
      obtain rfl : aw = 2 := nI_inj (by omega) (by omega) (r0.symm.trans s_1_)
      by_cases hz : z = 44
      · rw [if_pos hz] at eU7 h_7_
        refine ⟨fun a9 h_9_ => by rw [eU7]; rw [up2_k _ _ (by omega)], ?_⟩
        by_cases hp : g < 4
        · refine Or.inl ⟨_, by simp [auS, hz, hp]; rfl, by rw [h_7_, r2]; exact bI_t (nI_lt (b := 4) hp (by omega)), ?_⟩
          unfold auR; dsimp only; simp [eU7, up2_r, up2_k, upd, r0, r2, r3]; try rfl
        · exact Or.inr ⟨by simp [auS, hz, hp], by rw [h_7_, r2]; exact bI_f (nI_nlt (b := 4) (by omega) (by omega))⟩
      · rw [if_neg hz] at eU7 h_7_
        refine ⟨fun a9 h_9_ => by rw [eU7]; rw [up2_k _ _ (by omega)], ?_⟩
        by_cases hp : z = 59 ∧ 0 < g
        · refine Or.inl ⟨_, by simp [auS, hz, hp]; rfl, by rw [h_7_, r2]; exact bI_t ⟨hp.1, nI_lt (a := 0) hp.2 (by omega)⟩, ?_⟩
          unfold auR; dsimp only; simp [eU7, up2_r, up2_k, upd, r0, r2, r3]; try rfl
        · exact Or.inr ⟨by simp [auS, hz, hp], by rw [h_7_, r2]; exact bI_f (fun q => hp ⟨q.1, (nI_ltI (a := 0) (by omega) (by omega)).mp q.2⟩)⟩
    · refine j_tableIn (off := 76) (tgt := 80) C dX9_goesOnWith_4 (by rw [s_1_]; decide) (by rw [s_1_]; decide) (by rw [s_1_]; rfl) (by decide) ?_
      refine j_aload_n C dX9_goesOnWith_80 rfl (lv_at hl 0 rfl) ?_
      refine j_iload_n C dX9_goesOnWith_81 rfl (lv_at hl 1 rfl) ?_
      refine j_callS C [.int (z)] [.ref (ad (43))] (k_X9_digit l (xS ad tk nt) V (z)) v_RX9_48 ⟨rfl, rfl, Nat.le_of_ble_eq_true rfl, Nat.le_of_ble_eq_true rfl⟩ rfl hl.1 rfl (Nat.le_of_ble_eq_true rfl) ⟨Nat.le_of_ble_eq_true rfl, Nat.le_of_ble_eq_true rfl⟩ dX9_goesOnWith_82 (kI fun x_8_ U8 h_8_ => ?_)
      obtain ⟨eU8, h_8_⟩ := h_8_
      have eU8 := eU8.symm
      subst eU8
      refine j_callV (k := 43) C [.int (x_8_)] [] (k_X9_takesYards l ad tk nt V g r2 (by have q : aw = 3 := nI_inj (by omega) (by omega) (r0.symm.trans s_1_); omega) (x_8_)) v_RX9_57 (xl (by decide)) (rfl) rfl ⟨rfl, rfl, Nat.le_of_ble_eq_true rfl, Nat.le_of_ble_eq_true rfl⟩ rfl hl.1 rfl (Nat.le_of_ble_eq_true rfl) ⟨Nat.le_of_ble_eq_true rfl, Nat.le_of_ble_eq_true rfl⟩ dX9_goesOnWith_85 (kI fun x_9_ U9 h_9_ => ?_)
      obtain ⟨eU9, h_9_⟩ := h_9_
      refine j_zret C (by have e8 := h_9_; first | (rw [e8]; exact bI_n) | (rw [e8]; rfl) | (rw [e8]; split <;> exact bI_n)) ⟨rfl, _, rfl, ?_⟩ dX9_goesOnWith_88
      obtain rfl : aw = 3 := nI_inj (by omega) (by omega) (r0.symm.trans s_1_)
      have ed : x_8_ = dgI z := h_8_
      rw [ed] at h_9_ eU9
      refine ⟨fun a9 h_9_ => by rw [eU9]; rw [up2_k _ _ (by omega)]; rw [up2_k _ _ (by omega)], ?_⟩
      by_cases hp : 1 ≤ dgI z ∧ dgI z ≤ 9
      · refine Or.inl ⟨_, by simp [auS, hp]; rfl, by rw [h_9_]; exact bI_t hp, ?_⟩
        unfold auR; dsimp only; simp [eU9, up2_r, up2_k, upd, r0, r2, r3]; try rfl
      · exact Or.inr ⟨by simp [auS, hp], by rw [h_9_]; exact bI_f hp⟩
    · refine j_tableIn (off := 85) (tgt := 89) C dX9_goesOnWith_4 (by rw [s_1_]; decide) (by rw [s_1_]; decide) (by rw [s_1_]; rfl) (by decide) ?_
      refine j_aload_n C dX9_goesOnWith_89 rfl (lv_at hl 0 rfl) ?_
      refine j_iload_n C dX9_goesOnWith_90 rfl (lv_at hl 1 rfl) ?_
      refine j_callS C [.int (z)] [.ref (ad (43))] (k_X9_digit l (xS ad tk nt) V (z)) v_RX9_48 ⟨rfl, rfl, Nat.le_of_ble_eq_true rfl, Nat.le_of_ble_eq_true rfl⟩ rfl hl.1 rfl (Nat.le_of_ble_eq_true rfl) ⟨Nat.le_of_ble_eq_true rfl, Nat.le_of_ble_eq_true rfl⟩ dX9_goesOnWith_91 (kI fun x_10_ U10 h_10_ => ?_)
      obtain ⟨eU10, h_10_⟩ := h_10_
      have eU10 := eU10.symm
      subst eU10
      refine j_callV (k := 43) C [.int (x_10_)] [] (k_X9_takesLeaning l ad tk nt V g r2 (by have q : aw = 4 := nI_inj (by omega) (by omega) (r0.symm.trans s_1_); omega) (x_10_)) v_RX9_60 (xl (by decide)) (rfl) rfl ⟨rfl, rfl, Nat.le_of_ble_eq_true rfl, Nat.le_of_ble_eq_true rfl⟩ rfl hl.1 rfl (Nat.le_of_ble_eq_true rfl) ⟨Nat.le_of_ble_eq_true rfl, Nat.le_of_ble_eq_true rfl⟩ dX9_goesOnWith_94 (kI fun x_11_ U11 h_11_ => ?_)
      obtain ⟨eU11, h_11_⟩ := h_11_
      refine j_zret C (by have e8 := h_11_; first | (rw [e8]; exact bI_n) | (rw [e8]; rfl) | (rw [e8]; split <;> exact bI_n)) ⟨rfl, _, rfl, ?_⟩ dX9_goesOnWith_97
      obtain rfl : aw = 4 := nI_inj (by omega) (by omega) (r0.symm.trans s_1_)
      have ed : x_10_ = dgI z := h_10_
      rw [ed] at h_11_ eU11
      refine ⟨fun a9 h_9_ => by rw [eU11]; rw [up2_k _ _ (by omega)]; rw [up2_k _ _ (by omega)]; rw [up2_k _ _ (by omega)], ?_⟩
      by_cases hp : 0 ≤ dgI z ∧ dgI z ≤ 9
      · refine Or.inl ⟨_, by simp [auS, hp]; rfl, by rw [h_11_]; exact bI_t hp, ?_⟩
        unfold auR; dsimp only; simp [eU11, up2_r, up2_k, upd, r0, r2, r3]; try rfl
      · exact Or.inr ⟨by simp [auS, hp], by rw [h_11_]; exact bI_f hp⟩
    · refine j_tableIn (off := 94) (tgt := 98) C dX9_goesOnWith_4 (by rw [s_1_]; decide) (by rw [s_1_]; decide) (by rw [s_1_]; rfl) (by decide) ?_
      refine j_aload_n C dX9_goesOnWith_98 rfl (lv_at hl 0 rfl) ?_
      refine j_iload_n C dX9_goesOnWith_99 rfl (lv_at hl 1 rfl) ?_
      refine j_callS C [.int (z)] [.ref (ad (43))] (k_X9_kindBy l (xS ad tk nt) V (z)) v_RX9_63 ⟨rfl, rfl, Nat.le_of_ble_eq_true rfl, Nat.le_of_ble_eq_true rfl⟩ rfl hl.1 rfl (Nat.le_of_ble_eq_true rfl) ⟨Nat.le_of_ble_eq_true rfl, Nat.le_of_ble_eq_true rfl⟩ dX9_goesOnWith_100 (kI fun x_12_ U12 h_12_ => ?_)
      obtain ⟨eU12, h_12_⟩ := h_12_
      have eU12 := eU12.symm
      subst eU12
      refine j_callV (k := 43) C [.int (x_12_)] [] (k_X9_takesLetter l ad tk nt V t r3 (by have q : aw = 5 := nI_inj (by omega) (by omega) (r0.symm.trans s_1_); omega) (x_12_)) v_RX9_66 (xl (by decide)) (rfl) rfl ⟨rfl, rfl, Nat.le_of_ble_eq_true rfl, Nat.le_of_ble_eq_true rfl⟩ rfl hl.1 rfl (Nat.le_of_ble_eq_true rfl) ⟨Nat.le_of_ble_eq_true rfl, Nat.le_of_ble_eq_true rfl⟩ dX9_goesOnWith_103 (kI fun x_13_ U13 h_13_ => ?_)
      obtain ⟨eU13, h_13_⟩ := h_13_
      refine j_zret C (by have e8 := h_13_; first | (rw [e8]; exact bI_n) | (rw [e8]; rfl) | (rw [e8]; split <;> exact bI_n)) ⟨rfl, _, rfl, ?_⟩ dX9_goesOnWith_106
      obtain rfl : aw = 5 := nI_inj (by omega) (by omega) (r0.symm.trans s_1_)
      have ed : x_12_ = kbI z := h_12_
      rw [ed] at h_13_ eU13
      refine ⟨fun a9 h_9_ => by rw [eU13]; rw [up2_k _ _ (by omega)]; rw [up2_k _ _ (by omega)], ?_⟩
      by_cases hp : 0 ≤ kbI z ∧ kbI z ≤ 2
      · refine Or.inl ⟨_, by simp [auS, hp]; rfl, by rw [h_13_]; exact bI_t hp, ?_⟩
        unfold auR; dsimp only; simp [eU13, up2_r, up2_k, upd, r0, r2, r3]; try rfl
      · exact Or.inr ⟨by simp [auS, hp], by rw [h_13_]; exact bI_f hp⟩
    · refine j_tableIn (off := 103) (tgt := 107) C dX9_goesOnWith_4 (by rw [s_1_]; decide) (by rw [s_1_]; decide) (by rw [s_1_]; rfl) (by decide) ?_
      refine j_aload_n C dX9_goesOnWith_107 rfl (lv_at hl 0 rfl) ?_
      refine j_iload_n C dX9_goesOnWith_108 rfl (lv_at hl 1 rfl) ?_
      refine j_callS C [.int (z)] [.ref (ad (43))] (k_X9_digit l (xS ad tk nt) V (z)) v_RX9_48 ⟨rfl, rfl, Nat.le_of_ble_eq_true rfl, Nat.le_of_ble_eq_true rfl⟩ rfl hl.1 rfl (Nat.le_of_ble_eq_true rfl) ⟨Nat.le_of_ble_eq_true rfl, Nat.le_of_ble_eq_true rfl⟩ dX9_goesOnWith_109 (kI fun x_14_ U14 h_14_ => ?_)
      obtain ⟨eU14, h_14_⟩ := h_14_
      have eU14 := eU14.symm
      subst eU14
      refine j_callV (k := 43) C [.int (x_14_)] [] (k_X9_takesArm l ad tk nt V t r3 (by have q : aw = 6 := nI_inj (by omega) (by omega) (r0.symm.trans s_1_); omega) (x_14_)) v_RX9_69 (xl (by decide)) (rfl) rfl ⟨rfl, rfl, Nat.le_of_ble_eq_true rfl, Nat.le_of_ble_eq_true rfl⟩ rfl hl.1 rfl (Nat.le_of_ble_eq_true rfl) ⟨Nat.le_of_ble_eq_true rfl, Nat.le_of_ble_eq_true rfl⟩ dX9_goesOnWith_112 (kI fun x_15_ U15 h_15_ => ?_)
      obtain ⟨eU15, h_15_⟩ := h_15_
      refine j_zret C (by have e8 := h_15_; first | (rw [e8]; exact bI_n) | (rw [e8]; rfl) | (rw [e8]; split <;> exact bI_n)) ⟨rfl, _, rfl, ?_⟩ dX9_goesOnWith_115
      obtain rfl : aw = 6 := nI_inj (by omega) (by omega) (r0.symm.trans s_1_)
      have ed : x_14_ = dgI z := h_14_
      rw [ed] at h_15_ eU15
      refine ⟨fun a9 h_9_ => by rw [eU15]; rw [up2_k _ _ (by omega)]; rw [up2_k _ _ (by omega)]; rw [up2_k _ _ (by omega)], ?_⟩
      by_cases hp : 1 ≤ dgI z ∧ dgI z ≤ 9
      · refine Or.inl ⟨_, by simp [auS, hp]; rfl, by rw [h_15_]; exact bI_t hp, ?_⟩
        unfold auR; dsimp only; simp [eU15, up2_r, up2_k, upd, r0, r2, r3]; try rfl
      · exact Or.inr ⟨by simp [auS, hp], by rw [h_15_]; exact bI_f hp⟩
  · refine j_tableOut (tgt := 116) C dX9_goesOnWith_4 (by omega) (by decide) ?_
    refine j_aload_n C dX9_goesOnWith_116 rfl (lv_at hl 0 rfl) ?_
    refine j_iconst (v := 5) C dX9_goesOnWith_117 (by decide) ?_
    refine j_iload_n C dX9_goesOnWith_118 rfl (lv_at hl 1 rfl) ?_
    refine j_bipush (v := 59) C dX9_goesOnWith_119 (by decide) ?_
    refine j_icmp_ne (tgt := 136) C dX9_goesOnWith_121 (by decide) (fun c_16_ => ?_) (fun c_16_ => ?_)
    · skip
      refine j_iconst (v := 0) C dX9_goesOnWith_136 (by decide) ?_
      refine j_callV (k := 43) C [.int (5), .int (0)] [] (k_X9_thenAwait l ad tk nt V (5) (0) (by rfl)) v_RX9_44 (xl (by decide)) (rfl) rfl ⟨rfl, rfl, Nat.le_of_ble_eq_true rfl, Nat.le_of_ble_eq_true rfl⟩ rfl hl.1 rfl (Nat.le_of_ble_eq_true rfl) ⟨Nat.le_of_ble_eq_true rfl, Nat.le_of_ble_eq_true rfl⟩ dX9_goesOnWith_137 (kI fun x_17_ U17 h_17_ => ?_)
      obtain ⟨eU17, h_17_⟩ := h_17_
      skip
      refine j_zret C (by have e8 := h_17_; first | (rw [e8]; exact bI_n) | (rw [e8]; rfl) | (rw [e8]; split <;> exact bI_n)) ⟨rfl, _, rfl, ?_⟩ dX9_goesOnWith_140
      obtain rfl : aw = 7 := by have q9 := nI_toInt (n := aw) (by omega); rw [← r0] at q9; omega
      refine ⟨fun a9 h_9_ => by rw [eU17]; rw [up2_k _ _ (by omega)], ?_⟩
      exact Or.inr ⟨by simp [auS, c_16_], h_17_⟩
    · skip
      refine j_aload_n C dX9_goesOnWith_124 rfl (lv_at hl 0 rfl) ?_
      refine j_getI (k := 43) C (f_RX9_31_9) (xl (by decide)) (rfl) dX9_goesOnWith_125 ?_
      refine j_iconst (v := 5) C dX9_goesOnWith_128 (by decide) ?_
      refine j_icmp_ge (tgt := 136) C dX9_goesOnWith_129 (by decide) (fun c_18_ => ?_) (fun c_18_ => ?_)
      · have n_18_ := Int32.not_lt.mpr c_18_
        refine j_iconst (v := 0) C dX9_goesOnWith_136 (by decide) ?_
        refine j_callV (k := 43) C [.int (5), .int (0)] [] (k_X9_thenAwait l ad tk nt V (5) (0) (by rfl)) v_RX9_44 (xl (by decide)) (rfl) rfl ⟨rfl, rfl, Nat.le_of_ble_eq_true rfl, Nat.le_of_ble_eq_true rfl⟩ rfl hl.1 rfl (Nat.le_of_ble_eq_true rfl) ⟨Nat.le_of_ble_eq_true rfl, Nat.le_of_ble_eq_true rfl⟩ dX9_goesOnWith_137 (kI fun x_19_ U19 h_19_ => ?_)
        obtain ⟨eU19, h_19_⟩ := h_19_
        skip
        refine j_zret C (by have e8 := h_19_; first | (rw [e8]; exact bI_n) | (rw [e8]; rfl) | (rw [e8]; split <;> exact bI_n)) ⟨rfl, _, rfl, ?_⟩ dX9_goesOnWith_140
        obtain rfl : aw = 7 := by have q9 := nI_toInt (n := aw) (by omega); rw [← r0] at q9; omega
        refine ⟨fun a9 h_9_ => by rw [eU19]; rw [up2_k _ _ (by omega)], ?_⟩
        have ht : ¬ t < 5 := by rw [r3] at c_18_; have q9 := leN (b := 5) (by omega) (by omega) c_18_; omega
        exact Or.inr ⟨by simp [auS, ht], h_19_⟩
      · have n_18_ := Int32.not_le.mp c_18_
        refine j_iconst (v := 1) C dX9_goesOnWith_132 (by decide) ?_
        refine j_goto (tgt := 137) C dX9_goesOnWith_133 (by decide) ?_
        refine j_callV (k := 43) C [.int (5), .int (1)] [] (k_X9_thenAwait l ad tk nt V (5) (1) (by rfl)) v_RX9_44 (xl (by decide)) (rfl) rfl ⟨rfl, rfl, Nat.le_of_ble_eq_true rfl, Nat.le_of_ble_eq_true rfl⟩ rfl hl.1 rfl (Nat.le_of_ble_eq_true rfl) ⟨Nat.le_of_ble_eq_true rfl, Nat.le_of_ble_eq_true rfl⟩ dX9_goesOnWith_137 (kI fun x_20_ U20 h_20_ => ?_)
        obtain ⟨eU20, h_20_⟩ := h_20_
        skip
        refine j_zret C (by have e8 := h_20_; first | (rw [e8]; exact bI_n) | (rw [e8]; rfl) | (rw [e8]; split <;> exact bI_n)) ⟨rfl, _, rfl, ?_⟩ dX9_goesOnWith_140
        obtain rfl : aw = 7 := by have q9 := nI_toInt (n := aw) (by omega); rw [← r0] at q9; omega
        refine ⟨fun a9 h_9_ => by rw [eU20]; rw [up2_k _ _ (by omega)], ?_⟩
        have ht : t < 5 := by rw [r3] at c_18_; exact ltN (b := 5) (by omega) c_18_
        refine Or.inl ⟨_, by simp [auS, c_16_, ht]; rfl, h_20_, ?_⟩
        unfold auR; dsimp only; simp [eU20, up2_r, up2_k, upd, r0, r2, r3]; try rfl
def auN (a : Au) (c : Nat → Int32) : Nat → Option Au
  | 0 => some a
  | p + 1 => (auN a c p).bind (fun b => auS b (c p))
theorem auN_s {a b : Au} {c : Nat → Int32} {p : Nat} (h : auN a c p = some b) : auN a c (p + 1) = auS b (c p) := by rw [auN, h]; rfl
theorem frT.tr {V V2 V3 : Vt} (h : frT V V2) (h_2_ : frT V2 V3) : frT V V3 := fun a q => (h_2_ a q).trans (h a q)
def au0 (V : Vt) : Au := (0, V 43 1, 0, 0, V 44, V 45, V 46, V 47)
theorem isH_lt {k : Nat} (h : isH k) : k < 43 ∧ k + 1 < 43 := by
  unfold isH at h
  simp only [List.mem_cons, List.not_mem_nil, or_false] at h
  omega
abbrev rm_X9_firstFault : Room := { frames := 3, cells := 0, slots := 0, locals := 64 }
set_option maxHeartbeats 4000000 in
set_option maxRecDepth 100000 in
theorem k_X9_firstFault (l : Launch) (ad tk : Nat → Nat) (nt : Nat) (V : Vt) (k : Nat) (hg : isH k) (m9 i n : Nat) (hn : V k 1 = nI m9) (h_60_ : m9 ≤ 60) (hin : i + n ≤ m9)  : Ct l yX9_firstFault cX9_firstFault 5 (some .int) rm_X9_firstFault (xS ad tk nt) V [.ref (ad (43)), .ref (ad (k)), .int (nI i), .int (nI n)] (rI fun x V2 => frT V V2 ∧ ((∃ b, auN (au0 V) (fun q => V (k + 1) (i + q)) n = some b ∧ auOk b ∧ auR V2 b ∧ x = if b.1 = 7 then -9 else nI n) ∨ (∃ p b, p < n ∧ auN (au0 V) (fun q => V (k + 1) (i + q)) p = some b ∧ auS b (V (k + 1) (i + p)) = none ∧ x = nI p))) := by
  refine Ct_of (by decide) (Nat.le_of_ble_eq_true rfl) ?_
  intro p e s m below meth c A D cy ls C hl
  have hl : lv_has ls 5 [(0, .ref (ad (43))), (1, .ref (ad (k))), (2, .int (nI i)), (3, .int (nI n))] := hl
  refine j_aload_n C dX9_firstFault_0 rfl (lv_at hl 0 rfl) ?_
  refine j_iconst (v := 0) C dX9_firstFault_1 (by decide) ?_
  refine j_putI (k := 43) C (f_RX9_24_9) p_9_0 (xl (by decide)) (rfl) dX9_firstFault_2 (fun V1 eV1 => ?_)
  refine j_aload_n C dX9_firstFault_5 rfl (lv_at hl 0 rfl) ?_
  refine j_iconst (v := 0) C dX9_firstFault_6 (by decide) ?_
  refine j_putI (k := 43) C (f_RX9_28_9) p_9_2 (xl (by decide)) (rfl) dX9_firstFault_7 (fun V2 eV2 => ?_)
  refine j_aload_n C dX9_firstFault_10 rfl (lv_at hl 0 rfl) ?_
  refine j_iconst (v := 0) C dX9_firstFault_11 (by decide) ?_
  refine j_putI (k := 43) C (f_RX9_31_9) p_9_3 (xl (by decide)) (rfl) dX9_firstFault_12 (fun V3 eV3 => ?_)
  refine j_iconst (v := 0) C dX9_firstFault_15 (by decide) ?_
  refine j_istore (lv2 := [(4, .int (0)), (0, .ref (ad (43))), (1, .ref (ad (k))), (2, .int (nI i)), (3, .int (nI n))]) C dX9_firstFault_16 hl (by decide) rfl (fun ls hl => ?_)
  have loop : ∀ (n_9_ : Nat) (p9 : Nat) (Vi : Vt) (b : Au), p9 ≤ n → frT V Vi → auN (au0 V) (fun q => V (k + 1) (i + q)) p9 = some b → auOk b → auR Vi b → n - p9 < n_9_ → ∀ (ls : Array Slot), lv_has ls 5 [(0, .ref (ad (43))), (1, .ref (ad (k))), (2, .int (nI i)), (3, .int (nI n)), (4, .int (nI p9))] → J p l e rm_X9_firstFault s m [.ref (ad (43)), .ref (ad (k)), .int (nI i), .int (nI n)].toArray below meth c A D cy 0 0 (MQ below (gPost D cy A (fun o9 σ2 V2 => σ2 = xS ad tk nt ∧ (rI fun x V2 => frT V V2 ∧ ((∃ b, auN (au0 V) (fun q => V (k + 1) (i + q)) n = some b ∧ auOk b ∧ auR V2 b ∧ x = if b.1 = 7 then -9 else nI n) ∨ (∃ p b, p < n ∧ auN (au0 V) (fun q => V (k + 1) (i + q)) p = some b ∧ auS b (V (k + 1) (i + p)) = none ∧ x = nI p))) o9 V2)) [.ref (ad (43)), .ref (ad (k)), .int (nI i), .int (nI n)].toArray s 0 0 A) (xS ad tk nt) Vi (F0 m 18 ls []) := by
    intro n_9_
    induction n_9_ with
    | zero =>
      intro p9 Vi b hp hF hN hA hR hm
      exact absurd hm (by omega)
    | succ n_9_ ih_loop =>
      intro p9 Vi b hp hF hN hA hR hm ls hl
      refine j_iload C dX9_firstFault_18 (lv_at hl 4 rfl) ?_
      refine j_iload_n C dX9_firstFault_20 rfl (lv_at hl 3 rfl) ?_
      refine j_icmp_ge (tgt := 48) C dX9_firstFault_21 (by decide) (fun c_1_ => ?_) (fun c_1_ => ?_)
      · have n_1_ := Int32.not_lt.mpr c_1_
        obtain rfl : p9 = n := by have q := leN (by omega) (by omega) c_1_; omega
        refine j_aload_n C dX9_firstFault_48 rfl (lv_at hl 0 rfl) ?_
        refine j_getI (k := 43) C (f_RX9_24_9) (xl (by decide)) (rfl) dX9_firstFault_49 ?_
        refine j_bipush (v := 7) C dX9_firstFault_52 (by decide) ?_
        refine j_icmp_ne (tgt := 62) C dX9_firstFault_54 (by decide) (fun c_2_ => ?_) (fun c_2_ => ?_)
        · skip
          refine j_iload_n C dX9_firstFault_62 rfl (lv_at hl 3 rfl) ?_
          refine j_iret C ⟨rfl, _, rfl, ?_⟩ dX9_firstFault_63
          refine ⟨hF, Or.inl ⟨b, hN, hA, hR, ?_⟩⟩
          rw [if_neg (fun q => c_2_ (by rw [hR.1, q]; rfl))]
        · skip
          refine j_bipush (v := (-9)) C dX9_firstFault_57 (by decide) ?_
          refine j_goto (tgt := 63) C dX9_firstFault_59 (by decide) ?_
          refine j_iret C ⟨rfl, _, rfl, ?_⟩ dX9_firstFault_63
          refine ⟨hF, Or.inl ⟨b, hN, hA, hR, ?_⟩⟩
          rw [if_pos (nI_inj (by have := hA.1; omega) (show 7 < 2 ^ 31 by decide) (hR.1.symm.trans c_2_))]
      · have n_1_ := Int32.not_le.mp c_1_
        have hlt : p9 < n := ltN (by omega) c_1_
        refine j_aload_n C dX9_firstFault_24 rfl (lv_at hl 0 rfl) ?_
        refine j_aload_n C dX9_firstFault_25 rfl (lv_at hl 1 rfl) ?_
        refine j_iload_n C dX9_firstFault_26 rfl (lv_at hl 2 rfl) ?_
        refine j_iload C dX9_firstFault_27 (lv_at hl 4 rfl) ?_
        refine j_iadd C dX9_firstFault_29 ?_
        refine j_callV (k := k) C [.int ((nI i) + (nI p9))] [.ref (ad (43))] (k_X7_at l ad tk nt Vi k hg m9 (by rw [hF k (Or.inl (isH_lt hg).1), hn]) h_60_ ((nI i) + (nI p9))) v_RX9_34 (xl (xH (tk := tk) (nt := nt) hg).1.1) ((xH (tk := tk) (nt := nt) hg).2.1) rfl ⟨rfl, rfl, Nat.le_of_ble_eq_true rfl, Nat.le_of_ble_eq_true rfl⟩ rfl hl.1 rfl (Nat.le_of_ble_eq_true rfl) ⟨Nat.le_of_ble_eq_true rfl, Nat.le_of_ble_eq_true rfl⟩ dX9_firstFault_30 (kI fun x_3_ U3 h_3_ => ?_)
        obtain ⟨eU3, h_3_⟩ := h_3_
        have eU3 := eU3.symm
        subst eU3
        rw [hF k (Or.inl (isH_lt hg).1), hF (k + 1) (Or.inl (isH_lt hg).2), hn, nI_add, atS_in (by omega) (by omega)] at h_3_
        refine j_callV (k := 43) C [.int (x_3_)] [] (k_X9_goesOnWith l ad tk nt Vi b hA hR (x_3_)) v_RX9_40 (xl (by decide)) (rfl) rfl ⟨rfl, rfl, Nat.le_of_ble_eq_true rfl, Nat.le_of_ble_eq_true rfl⟩ rfl hl.1 rfl (Nat.le_of_ble_eq_true rfl) ⟨Nat.le_of_ble_eq_true rfl, Nat.le_of_ble_eq_true rfl⟩ dX9_firstFault_33 (kI fun x_4_ U4 h_4_ => ?_)
        obtain ⟨eU4, h_4_⟩ := h_4_
        rw [h_3_] at h_4_
        have hF2 := frT.tr hF eU4
        refine j_if_ne (tgt := 42) C dX9_firstFault_36 (by decide) (fun c_5_ => ?_) (fun c_5_ => ?_)
        · skip
          obtain ⟨b9, hs9, ex9, hR9⟩ : ∃ b9, auS b (V (k + 1) (i + p9)) = some b9 ∧ x_4_ = 1 ∧ auR U4 b9 := by
            rcases h_4_ with h | h
            · exact h
            · exact absurd h.2 c_5_
          refine j_iinc (v := nI (p9 + 1)) (lv2 := [(4, .int (nI (p9 + 1))), (0, .ref (ad (43))), (1, .ref (ad (k))), (2, .int (nI i)), (3, .int (nI n))]) C dX9_firstFault_42 hl (k0 := 4) rfl (nI_1 _) (by decide) rfl (fun ls hl => ?_)
          refine j_goto (tgt := 18) C dX9_firstFault_45 (by decide) ?_
          exact ih_loop (p9 + 1) U4 b9 (by omega) hF2 (by rw [auN_s hN]; exact hs9) (auOk_s hA hs9) hR9 (by omega) ls (lv_sub hl [1, 2, 3, 4, 0] rfl)
        · skip
          have hs9 : auS b (V (k + 1) (i + p9)) = none := by
            rcases h_4_ with ⟨b9, h, h_2_, -⟩ | h
            · rw [h_2_] at c_5_
              exact absurd c_5_ (by decide)
            · exact h.1
          refine j_iload C dX9_firstFault_39 (lv_at hl 4 rfl) ?_
          refine j_iret C ⟨rfl, _, rfl, ?_⟩ dX9_firstFault_41
          exact ⟨hF2, Or.inr ⟨p9, b, hlt, hN, hs9, rfl⟩⟩
  exact loop (n + 1) 0 V3 (au0 V) (by omega) (fun a9 h_9_ => by rw [eV3, up2_k _ _ (by omega), eV2, up2_k _ _ (by omega), eV1, up2_k _ _ (by omega)]) rfl (by unfold auOk au0; dsimp only; omega) (by unfold auR au0; dsimp only; simp [eV3, eV2, eV1, up2_r, up2_k, upd, nI_0]) (by omega) ls (lv_sub hl [1, 2, 3, 4, 0] rfl)
