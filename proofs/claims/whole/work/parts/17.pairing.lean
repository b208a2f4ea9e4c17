def bgL (V : Vt) (z0 z1 : Int32) : Nat → Vt
  | 0 => up2 (up2 V 48 0 z0) 48 1 z1
  | t + 1 => up2 (up2 (up2 (bgL V z0 z1 t) 50 t 0) 51 t (-9)) 52 t 0
theorem tgI (t g : Nat) : nI t * 4 + nI g = nI (t * 4 + g) := by rw [show (4 : Int32) = nI 4 from rfl, pk_mul, nI_add]
theorem tkI (t g : Nat) : nI t * 16 + nI g = nI (t * 16 + g) := by rw [show (16 : Int32) = nI 16 from rfl, pk_mul, nI_add]
theorem inT {t g : Nat} (ht : t < 5) (hg : g < 4) : ((0 : Int32) ≤ nI t ∧ nI t ≤ 4) ∧ (0 : Int32) ≤ nI g ∧ nI g ≤ 3 := ⟨⟨nI_pos' (by omega), nI_le (b := 4) (by omega) (by omega)⟩, nI_pos' (by omega), nI_le (b := 3) (by omega) (by omega)⟩
abbrev rm_X4_begin : Room := { frames := 0, cells := 0, slots := 0, locals := 0 }
set_option maxHeartbeats 4000000 in
set_option maxRecDepth 100000 in
theorem k_X4_begin (l : Launch) (ad tk : Nat → Nat) (nt : Nat) (V : Vt) (z0 z1 : Int32) : Ct l yX4_begin cX4_begin 4 none rm_X4_begin (xS ad tk nt) V [.ref (ad (48)), .int (z0), .int (z1)] (rU fun V2 => V2 = bgL V z0 z1 5) := by
  refine Ct_of (by decide) (Nat.le_of_ble_eq_true rfl) ?_
  intro p e s m below meth c A D cy ls C hl
  have hl : lv_has ls 4 [(0, .ref (ad (48))), (1, .int (z0)), (2, .int (z1))] := hl
  refine j_aload_n C dX4_begin_0 rfl (lv_at hl 0 rfl) ?_
  refine j_iload_n C dX4_begin_1 rfl (lv_at hl 1 rfl) ?_
  refine j_putI (k := 48) C (f_RX4_27_4) p_4_0 (xl (by decide)) (rfl) dX4_begin_2 (fun V1 eV1 => ?_)
  refine j_aload_n C dX4_begin_5 rfl (lv_at hl 0 rfl) ?_
  refine j_iload_n C dX4_begin_6 rfl (lv_at hl 2 rfl) ?_
  refine j_putI (k := 48) C (f_RX4_31_4) p_4_1 (xl (by decide)) (rfl) dX4_begin_7 (fun V2 eV2 => ?_)
  refine j_iconst (v := 0) C dX4_begin_10 (by decide) ?_
  refine j_istore_n (lv2 := [(3, .int (0)), (0, .ref (ad (48))), (1, .int (z0)), (2, .int (z1))]) C dX4_begin_11 rfl hl (by decide) rfl (fun ls hl => ?_)
  have loop : ∀ (n_9_ : Nat) (i : Nat) (Vi : Vt), i ≤ 5 → Vi = bgL V z0 z1 i → 5 - i < n_9_ → ∀ (ls : Array Slot), lv_has ls 4 [(0, .ref (ad (48))), (3, .int (nI i))] → J p l e rm_X4_begin s m [.ref (ad (48)), .int (z0), .int (z1)].toArray below meth c A D cy 0 0 (MQ below (gPost D cy A (fun o9 σ2 V2 => σ2 = xS ad tk nt ∧ (rU fun V2 => V2 = bgL V z0 z1 5) o9 V2)) [.ref (ad (48)), .int (z0), .int (z1)].toArray s 0 0 A) (xS ad tk nt) Vi (F0 m 12 ls []) := by
    intro n_9_
    induction n_9_ with
    | zero =>
      intro i Vi hi hV hm
      exact absurd hm (by omega)
    | succ n_9_ ih_loop =>
      intro i Vi hi hV hm ls hl
      refine j_iload_n C dX4_begin_12 rfl (lv_at hl 1 rfl) ?_
      refine j_iconst (v := 5) C dX4_begin_13 (by decide) ?_
      refine j_icmp_ge (tgt := 45) C dX4_begin_14 (by decide) (fun c_1_ => ?_) (fun c_1_ => ?_)
      · have n_1_ := Int32.not_lt.mpr c_1_
        obtain rfl : i = 5 := by have q := leN (b := 5) (by omega) (by decide) c_1_; omega
        refine j_vret C ⟨rfl, rfl, ?_⟩ dX4_begin_45
        exact hV
      · have n_1_ := Int32.not_le.mp c_1_
        have hlt : i < 5 := ltN (b := 5) (by omega) c_1_
        refine j_aload_n C dX4_begin_17 rfl (lv_at hl 0 rfl) ?_
        refine j_getR (k := 48) (k2 := 50) C (f_RX4_15_4) (xl (by decide)) (rfl) (rfl) dX4_begin_18 ?_
        refine j_iload_n C dX4_begin_21 rfl (lv_at hl 1 rfl) ?_
        refine j_iconst (v := 0) C dX4_begin_22 (by decide) ?_
        refine j_iast (k := 50) (n := 5) C (xl (by decide)) (rfl) (rfl) (vp_in_nI hlt (by decide)) dX4_begin_23 (fun V3 eV3 => ?_)
        refine j_aload_n C dX4_begin_24 rfl (lv_at hl 0 rfl) ?_
        refine j_getR (k := 48) (k2 := 51) C (f_RX4_18_4) (xl (by decide)) (rfl) (rfl) dX4_begin_25 ?_
        refine j_iload_n C dX4_begin_28 rfl (lv_at hl 1 rfl) ?_
        refine j_bipush (v := (-9)) C dX4_begin_29 (by decide) ?_
        refine j_iast (k := 51) (n := 5) C (xl (by decide)) (rfl) (rfl) (vp_in_nI hlt (by decide)) dX4_begin_31 (fun V4 eV4 => ?_)
        refine j_aload_n C dX4_begin_32 rfl (lv_at hl 0 rfl) ?_
        refine j_getR (k := 48) (k2 := 52) C (f_RX4_21_4) (xl (by decide)) (rfl) (rfl) dX4_begin_33 ?_
        refine j_iload_n C dX4_begin_36 rfl (lv_at hl 1 rfl) ?_
        refine j_iconst (v := 0) C dX4_begin_37 (by decide) ?_
        refine j_iast (k := 52) (n := 5) C (xl (by decide)) (rfl) (rfl) (vp_in_nI hlt (by decide)) dX4_begin_38 (fun V5 eV5 => ?_)
        refine j_iinc (v := nI (i + 1)) (lv2 := [(3, .int (nI (i + 1))), (0, .ref (ad (48)))]) C dX4_begin_39 hl (k0 := 1) rfl (nI_1 _) (by decide) rfl (fun ls hl => ?_)
        refine j_goto (tgt := 12) C dX4_begin_42 (by decide) ?_
        exact ih_loop (i + 1) V5 (by omega) (by rw [eV5, eV4, eV3, hV, nI_clamp (by omega), bgL]) (by omega) ls (lv_sub hl [1, 0] rfl)
  exact loop 6 0 V2 (by omega) (by rw [eV2, eV1, bgL]) (by omega) ls (lv_sub hl [1, 0] rfl)
abbrev rm_X4_noteWins : Room := { frames := 0, cells := 0, slots := 0, locals := 0 }
set_option maxHeartbeats 4000000 in
set_option maxRecDepth 100000 in
theorem k_X4_noteWins (l : Launch) (ad tk : Nat → Nat) (nt : Nat) (V : Vt) (z0 z1 : Int32) (t : Nat) (e0 : z0 = nI t) (ht : t < 5)  : Ct l yX4_noteWins cX4_noteWins 3 none rm_X4_noteWins (xS ad tk nt) V [.ref (ad (48)), .int (z0), .int (z1)] (rU fun V2 => V2 = up2 V 50 t z1) := by
  refine Ct_of (by decide) (Nat.le_of_ble_eq_true rfl) ?_
  intro p e s m below meth c A D cy ls C hl
  have hl : lv_has ls 3 [(0, .ref (ad (48))), (1, .int (z0)), (2, .int (z1))] := hl
  refine j_iload_n C dX4_noteWins_0 rfl (lv_at hl 1 rfl) ?_
  refine j_if_lt (tgt := 20) C dX4_noteWins_1 (by decide) (fun c_1_ => ?_) (fun c_1_ => ?_)
  · have n_1_ := Int32.not_le.mpr c_1_
    refine j_vret C ⟨rfl, rfl, ?_⟩ dX4_noteWins_20
    exfalso
    rw [e0] at *
    first | exact absurd (by assumption) (nI_pos (n := t) (by omega)) | exact absurd (nI_lt (b := 5) ht (by decide)) (by assumption)
  · have n_1_ := Int32.not_lt.mp c_1_
    refine j_iload_n C dX4_noteWins_4 rfl (lv_at hl 1 rfl) ?_
    refine j_aload_n C dX4_noteWins_5 rfl (lv_at hl 0 rfl) ?_
    refine j_getR (k := 48) (k2 := 50) C (f_RX4_15_4) (xl (by decide)) (rfl) (rfl) dX4_noteWins_6 ?_
    refine j_alen (k := 50) (n := 5) C (xl (by decide)) (Or.inl (rfl)) (rfl) dX4_noteWins_9 ?_
    refine j_icmp_ge (tgt := 20) C dX4_noteWins_10 (by decide) (fun c_2_ => ?_) (fun c_2_ => ?_)
    · have n_2_ := Int32.not_lt.mpr c_2_
      refine j_vret C ⟨rfl, rfl, ?_⟩ dX4_noteWins_20
      exfalso
      rw [e0] at *
      first | exact absurd (by assumption) (nI_pos (n := t) (by omega)) | exact absurd (nI_lt (b := 5) ht (by decide)) (by assumption)
    · have n_2_ := Int32.not_le.mp c_2_
      refine j_aload_n C dX4_noteWins_13 rfl (lv_at hl 0 rfl) ?_
      refine j_getR (k := 48) (k2 := 50) C (f_RX4_15_4) (xl (by decide)) (rfl) (rfl) dX4_noteWins_14 ?_
      refine j_iload_n C dX4_noteWins_17 rfl (lv_at hl 1 rfl) ?_
      refine j_iload_n C dX4_noteWins_18 rfl (lv_at hl 2 rfl) ?_
      refine j_iast (k := 50) (n := 5) C (xl (by decide)) (rfl) (rfl) (by rw [e0]; exact vp_in_nI ht (by decide)) dX4_noteWins_19 (fun V1 eV1 => ?_)
      refine j_vret C ⟨rfl, rfl, ?_⟩ dX4_noteWins_20
      rw [eV1, e0, nI_clamp (by omega)]
abbrev rm_X4_giveGirl : Room := { frames := 0, cells := 0, slots := 0, locals := 0 }
set_option maxHeartbeats 4000000 in
set_option maxRecDepth 100000 in
theorem k_X4_giveGirl (l : Launch) (ad tk : Nat → Nat) (nt : Nat) (V : Vt) (z0 z1 : Int32) (t : Nat) (e0 : z0 = nI t) (ht : t < 5)  : Ct l yX4_giveGirl cX4_giveGirl 3 none rm_X4_giveGirl (xS ad tk nt) V [.ref (ad (48)), .int (z0), .int (z1)] (rU fun V2 => V2 = up2 V 51 t z1) := by
  refine Ct_of (by decide) (Nat.le_of_ble_eq_true rfl) ?_
  intro p e s m below meth c A D cy ls C hl
  have hl : lv_has ls 3 [(0, .ref (ad (48))), (1, .int (z0)), (2, .int (z1))] := hl
  refine j_iload_n C dX4_giveGirl_0 rfl (lv_at hl 1 rfl) ?_
  refine j_if_lt (tgt := 20) C dX4_giveGirl_1 (by decide) (fun c_1_ => ?_) (fun c_1_ => ?_)
  · have n_1_ := Int32.not_le.mpr c_1_
    refine j_vret C ⟨rfl, rfl, ?_⟩ dX4_giveGirl_20
    exfalso
    rw [e0] at *
    first | exact absurd (by assumption) (nI_pos (n := t) (by omega)) | exact absurd (nI_lt (b := 5) ht (by decide)) (by assumption)
  · have n_1_ := Int32.not_lt.mp c_1_
    refine j_iload_n C dX4_giveGirl_4 rfl (lv_at hl 1 rfl) ?_
    refine j_aload_n C dX4_giveGirl_5 rfl (lv_at hl 0 rfl) ?_
    refine j_getR (k := 48) (k2 := 51) C (f_RX4_18_4) (xl (by decide)) (rfl) (rfl) dX4_giveGirl_6 ?_
    refine j_alen (k := 51) (n := 5) C (xl (by decide)) (Or.inl (rfl)) (rfl) dX4_giveGirl_9 ?_
    refine j_icmp_ge (tgt := 20) C dX4_giveGirl_10 (by decide) (fun c_2_ => ?_) (fun c_2_ => ?_)
    · have n_2_ := Int32.not_lt.mpr c_2_
      refine j_vret C ⟨rfl, rfl, ?_⟩ dX4_giveGirl_20
      exfalso
      rw [e0] at *
      first | exact absurd (by assumption) (nI_pos (n := t) (by omega)) | exact absurd (nI_lt (b := 5) ht (by decide)) (by assumption)
    · have n_2_ := Int32.not_le.mp c_2_
      refine j_aload_n C dX4_giveGirl_13 rfl (lv_at hl 0 rfl) ?_
      refine j_getR (k := 48) (k2 := 51) C (f_RX4_18_4) (xl (by decide)) (rfl) (rfl) dX4_giveGirl_14 ?_
      refine j_iload_n C dX4_giveGirl_17 rfl (lv_at hl 1 rfl) ?_
      refine j_iload_n C dX4_giveGirl_18 rfl (lv_at hl 2 rfl) ?_
      refine j_iast (k := 51) (n := 5) C (xl (by decide)) (rfl) (rfl) (by rw [e0]; exact vp_in_nI ht (by decide)) dX4_giveGirl_19 (fun V1 eV1 => ?_)
      refine j_vret C ⟨rfl, rfl, ?_⟩ dX4_giveGirl_20
      rw [eV1, e0, nI_clamp (by omega)]
abbrev rm_X4_isInTable : Room := { frames := 1, cells := 0, slots := 0, locals := 22 }
set_option maxHeartbeats 4000000 in
set_option maxRecDepth 100000 in
theorem k_X4_isInTable (l : Launch) (σ : Sh) (V : Vt) (z0 z1 : Int32) : Ct l yX4_isInTable cX4_isInTable 2 (some .boolean) rm_X4_isInTable σ V [.int (z0), .int (z1)] (rI fun x V2 => V2 = V ∧ x = bI ((0 ≤ z0 ∧ z0 ≤ 4) ∧ 0 ≤ z1 ∧ z1 ≤ 3)) := by
  refine Ct_of (by decide) (Nat.le_of_ble_eq_true rfl) ?_
  intro p e s m below meth c A D cy ls C hl
  have hl : lv_has ls 2 [(0, .int (z0)), (1, .int (z1))] := hl
  refine j_iload_n C dX4_isInTable_0 rfl (lv_at hl 0 rfl) ?_
  refine j_iconst (v := 0) C dX4_isInTable_1 (by decide) ?_
  refine j_iconst (v := 4) C dX4_isInTable_2 (by decide) ?_
  refine j_callN C [.int (z0), .int (0), .int (4)] [] (k_X11_isWithin l (σ) V (z0) (0) (4)) v_RX4_38 ⟨rfl, rfl, Nat.le_of_ble_eq_true rfl, Nat.le_of_ble_eq_true rfl⟩ rfl hl.1 rfl (Nat.le_of_ble_eq_true rfl) ⟨Nat.le_of_ble_eq_true rfl, Nat.le_of_ble_eq_true rfl⟩ dX4_isInTable_3 (kI fun x_1_ U1 h_1_ => ?_)
  obtain ⟨eU1, h_1_⟩ := h_1_
  have eU1 := eU1.symm
  subst eU1
  refine j_if_eq (tgt := 22) C dX4_isInTable_6 (by decide) (fun c_2_ => ?_) (fun c_2_ => ?_)
  · skip
    refine j_iconst (v := 0) C dX4_isInTable_22 (by decide) ?_
    refine j_zret C rfl ⟨rfl, _, rfl, ?_⟩ dX4_isInTable_23
    refine ⟨rfl, ?_⟩
    first | (rw [bI_f (fun q => bI_0.mp (h_1_ ▸ c_2_) q.1)]; done) | (simp_all [bI]; done)
  · skip
    refine j_iload_n C dX4_isInTable_9 rfl (lv_at hl 1 rfl) ?_
    refine j_iconst (v := 0) C dX4_isInTable_10 (by decide) ?_
    refine j_iconst (v := 3) C dX4_isInTable_11 (by decide) ?_
    refine j_callN C [.int (z1), .int (0), .int (3)] [] (k_X11_isWithin l (σ) V (z1) (0) (3)) v_RX4_38 ⟨rfl, rfl, Nat.le_of_ble_eq_true rfl, Nat.le_of_ble_eq_true rfl⟩ rfl hl.1 rfl (Nat.le_of_ble_eq_true rfl) ⟨Nat.le_of_ble_eq_true rfl, Nat.le_of_ble_eq_true rfl⟩ dX4_isInTable_12 (kI fun x_3_ U3 h_3_ => ?_)
    obtain ⟨eU3, h_3_⟩ := h_3_
    have eU3 := eU3.symm
    subst eU3
    refine j_if_eq (tgt := 22) C dX4_isInTable_15 (by decide) (fun c_4_ => ?_) (fun c_4_ => ?_)
    · skip
      refine j_iconst (v := 0) C dX4_isInTable_22 (by decide) ?_
      refine j_zret C rfl ⟨rfl, _, rfl, ?_⟩ dX4_isInTable_23
      refine ⟨rfl, ?_⟩
      first | (rw [bI_f (fun q => bI_0.mp (h_1_ ▸ c_2_) q.1)]; done) | (simp_all [bI]; done)
    · skip
      refine j_iconst (v := 1) C dX4_isInTable_18 (by decide) ?_
      refine j_goto (tgt := 23) C dX4_isInTable_19 (by decide) ?_
      refine j_zret C rfl ⟨rfl, _, rfl, ?_⟩ dX4_isInTable_23
      refine ⟨rfl, ?_⟩
      first | (rw [bI_f (fun q => bI_0.mp (h_1_ ▸ c_2_) q.1)]; done) | (simp_all [bI]; done)
abbrev rm_X4_nearness : Room := { frames := 2, cells := 0, slots := 0, locals := 43 }
set_option maxHeartbeats 4000000 in
set_option maxRecDepth 100000 in
theorem k_X4_nearness (l : Launch) (ad tk : Nat → Nat) (nt : Nat) (V : Vt) (z0 z1 : Int32) (t g : Nat) (e0 : z0 = nI t) (e1 : z1 = nI g) (ht : t < 5) (hgg : g < 4)  : Ct l yX4_nearness cX4_nearness 3 (some .int) rm_X4_nearness (xS ad tk nt) V [.ref (ad (48)), .int (z0), .int (z1)] (rI fun x V2 => V2 = V ∧ x = V 49 (t * 4 + g)) := by
  refine Ct_of (by decide) (Nat.le_of_ble_eq_true rfl) ?_
  intro p e s m below meth c A D cy ls C hl
  have hl : lv_has ls 3 [(0, .ref (ad (48))), (1, .int (z0)), (2, .int (z1))] := hl
  refine j_iload_n C dX4_nearness_0 rfl (lv_at hl 1 rfl) ?_
  refine j_iload_n C dX4_nearness_1 rfl (lv_at hl 2 rfl) ?_
  refine j_callS C [.int (z0), .int (z1)] [] (k_X4_isInTable l (xS ad tk nt) V (z0) (z1)) v_RX4_34 ⟨rfl, rfl, Nat.le_of_ble_eq_true rfl, Nat.le_of_ble_eq_true rfl⟩ rfl hl.1 rfl (Nat.le_of_ble_eq_true rfl) ⟨Nat.le_of_ble_eq_true rfl, Nat.le_of_ble_eq_true rfl⟩ dX4_nearness_2 (kI fun x_1_ U1 h_1_ => ?_)
  obtain ⟨eU1, h_1_⟩ := h_1_
  have eU1 := eU1.symm
  subst eU1
  refine j_if_eq (tgt := 21) C dX4_nearness_5 (by decide) (fun c_2_ => ?_) (fun c_2_ => ?_)
  · skip
    refine j_iconst (v := 0) C dX4_nearness_21 (by decide) ?_
    refine j_iret C ⟨rfl, _, rfl, ?_⟩ dX4_nearness_22
    refine ⟨rfl, ?_⟩
    exfalso
    rw [e0, e1] at h_1_
    exact absurd (h_1_ ▸ c_2_) (by rw [bI_t (inT ht hgg)]; decide)
  · skip
    refine j_aload_n C dX4_nearness_8 rfl (lv_at hl 0 rfl) ?_
    refine j_getR (k := 48) (k2 := 49) C (f_RX4_9_4) (xl (by decide)) (rfl) (rfl) dX4_nearness_9 ?_
    refine j_iload_n C dX4_nearness_12 rfl (lv_at hl 1 rfl) ?_
    refine j_iconst (v := 4) C dX4_nearness_13 (by decide) ?_
    refine j_imul C dX4_nearness_14 ?_
    refine j_iload_n C dX4_nearness_15 rfl (lv_at hl 2 rfl) ?_
    refine j_iadd C dX4_nearness_16 ?_
    refine j_iald (k := 49) (n := 20) C (xl (by decide)) (rfl) (rfl) (by rw [e0, e1, tgI]; exact vp_in_nI (by omega) (by decide)) dX4_nearness_17 ?_
    refine j_goto (tgt := 22) C dX4_nearness_18 (by decide) ?_
    refine j_iret C ⟨rfl, _, rfl, ?_⟩ dX4_nearness_22
    refine ⟨rfl, ?_⟩
    rw [e0, e1, tgI, nI_clamp (by omega)]
abbrev rm_X4_noteNearness : Room := { frames := 2, cells := 0, slots := 0, locals := 43 }
set_option maxHeartbeats 4000000 in
set_option maxRecDepth 100000 in
theorem k_X4_noteNearness (l : Launch) (ad tk : Nat → Nat) (nt : Nat) (V : Vt) (z0 z1 z2 : Int32) (t g : Nat) (e0 : z0 = nI t) (e1 : z1 = nI g) (ht : t < 5) (hgg : g < 4)  : Ct l yX4_noteNearness cX4_noteNearness 4 none rm_X4_noteNearness (xS ad tk nt) V [.ref (ad (48)), .int (z0), .int (z1), .int (z2)] (rU fun V2 => V2 = up2 V 49 (t * 4 + g) z2) := by
  refine Ct_of (by decide) (Nat.le_of_ble_eq_true rfl) ?_
  intro p e s m below meth c A D cy ls C hl
  have hl : lv_has ls 4 [(0, .ref (ad (48))), (1, .int (z0)), (2, .int (z1)), (3, .int (z2))] := hl
  refine j_iload_n C dX4_noteNearness_0 rfl (lv_at hl 1 rfl) ?_
  refine j_iload_n C dX4_noteNearness_1 rfl (lv_at hl 2 rfl) ?_
  refine j_callS C [.int (z0), .int (z1)] [] (k_X4_isInTable l (xS ad tk nt) V (z0) (z1)) v_RX4_34 ⟨rfl, rfl, Nat.le_of_ble_eq_true rfl, Nat.le_of_ble_eq_true rfl⟩ rfl hl.1 rfl (Nat.le_of_ble_eq_true rfl) ⟨Nat.le_of_ble_eq_true rfl, Nat.le_of_ble_eq_true rfl⟩ dX4_noteNearness_2 (kI fun x_1_ U1 h_1_ => ?_)
  obtain ⟨eU1, h_1_⟩ := h_1_
  have eU1 := eU1.symm
  subst eU1
  refine j_if_eq (tgt := 19) C dX4_noteNearness_5 (by decide) (fun c_2_ => ?_) (fun c_2_ => ?_)
  · skip
    refine j_vret C ⟨rfl, rfl, ?_⟩ dX4_noteNearness_19
    exfalso
    rw [e0, e1] at h_1_
    exact absurd (h_1_ ▸ c_2_) (by rw [bI_t (inT ht hgg)]; decide)
  · skip
    refine j_aload_n C dX4_noteNearness_8 rfl (lv_at hl 0 rfl) ?_
    refine j_getR (k := 48) (k2 := 49) C (f_RX4_9_4) (xl (by decide)) (rfl) (rfl) dX4_noteNearness_9 ?_
    refine j_iload_n C dX4_noteNearness_12 rfl (lv_at hl 1 rfl) ?_
    refine j_iconst (v := 4) C dX4_noteNearness_13 (by decide) ?_
    refine j_imul C dX4_noteNearness_14 ?_
    refine j_iload_n C dX4_noteNearness_15 rfl (lv_at hl 2 rfl) ?_
    refine j_iadd C dX4_noteNearness_16 ?_
    refine j_iload_n C dX4_noteNearness_17 rfl (lv_at hl 3 rfl) ?_
    refine j_iast (k := 49) (n := 20) C (xl (by decide)) (rfl) (rfl) (by rw [e0, e1, tgI]; exact vp_in_nI (by omega) (by decide)) dX4_noteNearness_18 (fun V1 eV1 => ?_)
    refine j_vret C ⟨rfl, rfl, ?_⟩ dX4_noteNearness_19
    rw [eV1, e0, e1, tgI, nI_clamp (by omega)]
abbrev rm_X4_girlOf : Room := { frames := 0, cells := 0, slots := 0, locals := 0 }
set_option maxHeartbeats 4000000 in
set_option maxRecDepth 100000 in
theorem k_X4_girlOf (l : Launch) (ad tk : Nat → Nat) (nt : Nat) (V : Vt) (z : Int32) (tn : Nat) (hTn : V 48 0 = nI tn) (t5 : tn ≤ 5)  : Ct l yX4_girlOf cX4_girlOf 2 (some .int) rm_X4_girlOf (xS ad tk nt) V [.ref (ad (48)), .int (z)] (rI fun x V2 => V2 = V ∧ x = atR (V 51) tn z) := by
  refine Ct_of (by decide) (Nat.le_of_ble_eq_true rfl) ?_
  intro p e s m below meth c A D cy ls C hl
  have hl : lv_has ls 2 [(0, .ref (ad (48))), (1, .int (z))] := hl
  refine j_iload_n C dX4_girlOf_0 rfl (lv_at hl 1 rfl) ?_
  refine j_if_lt (tgt := 21) C dX4_girlOf_1 (by decide) (fun c_1_ => ?_) (fun c_1_ => ?_)
  · have n_1_ := Int32.not_le.mpr c_1_
    refine j_bipush (v := (-9)) C dX4_girlOf_21 (by decide) ?_
    refine j_goto (tgt := 32) C dX4_girlOf_23 (by decide) ?_
    refine j_iret C ⟨rfl, _, rfl, ?_⟩ dX4_girlOf_32
    refine ⟨rfl, ?_⟩
    rw [hTn] at *
    unfold atR
    rw [if_neg (fun q => by first | exact q.1 (by assumption) | exact absurd q.2 (by assumption) | exact absurd (Int32.lt_of_lt_of_le q.2 (nI_le t5 (by decide))) (by assumption))]
  · have n_1_ := Int32.not_lt.mp c_1_
    refine j_iload_n C dX4_girlOf_4 rfl (lv_at hl 1 rfl) ?_
    refine j_aload_n C dX4_girlOf_5 rfl (lv_at hl 0 rfl) ?_
    refine j_getI (k := 48) C (f_RX4_27_4) (xl (by decide)) (rfl) dX4_girlOf_6 ?_
    refine j_icmp_ge (tgt := 21) C dX4_girlOf_9 (by decide) (fun c_2_ => ?_) (fun c_2_ => ?_)
    · have n_2_ := Int32.not_lt.mpr c_2_
      refine j_bipush (v := (-9)) C dX4_girlOf_21 (by decide) ?_
      refine j_goto (tgt := 32) C dX4_girlOf_23 (by decide) ?_
      refine j_iret C ⟨rfl, _, rfl, ?_⟩ dX4_girlOf_32
      refine ⟨rfl, ?_⟩
      rw [hTn] at *
      unfold atR
      rw [if_neg (fun q => by first | exact q.1 (by assumption) | exact absurd q.2 (by assumption) | exact absurd (Int32.lt_of_lt_of_le q.2 (nI_le t5 (by decide))) (by assumption))]
    · have n_2_ := Int32.not_le.mp c_2_
      refine j_iload_n C dX4_girlOf_12 rfl (lv_at hl 1 rfl) ?_
      refine j_aload_n C dX4_girlOf_13 rfl (lv_at hl 0 rfl) ?_
      refine j_getR (k := 48) (k2 := 51) C (f_RX4_18_4) (xl (by decide)) (rfl) (rfl) dX4_girlOf_14 ?_
      refine j_alen (k := 51) (n := 5) C (xl (by decide)) (Or.inl (rfl)) (rfl) dX4_girlOf_17 ?_
      refine j_icmp_lt (tgt := 26) C dX4_girlOf_18 (by decide) (fun c_3_ => ?_) (fun c_3_ => ?_)
      · have n_3_ := Int32.not_le.mpr c_3_
        refine j_aload_n C dX4_girlOf_26 rfl (lv_at hl 0 rfl) ?_
        refine j_getR (k := 48) (k2 := 51) C (f_RX4_18_4) (xl (by decide)) (rfl) (rfl) dX4_girlOf_27 ?_
        refine j_iload_n C dX4_girlOf_30 rfl (lv_at hl 1 rfl) ?_
        refine j_iald (k := 51) (n := 5) C (xl (by decide)) (rfl) (rfl) (inR (by assumption) (by assumption) (by decide)) dX4_girlOf_31 ?_
        refine j_iret C ⟨rfl, _, rfl, ?_⟩ dX4_girlOf_32
        refine ⟨rfl, ?_⟩
        rw [hTn] at *
        unfold atR
        rw [if_pos ⟨by assumption, by assumption⟩]
      · have n_3_ := Int32.not_lt.mp c_3_
        refine j_bipush (v := (-9)) C dX4_girlOf_21 (by decide) ?_
        refine j_goto (tgt := 32) C dX4_girlOf_23 (by decide) ?_
        refine j_iret C ⟨rfl, _, rfl, ?_⟩ dX4_girlOf_32
        refine ⟨rfl, ?_⟩
        rw [hTn] at *
        unfold atR
        rw [if_neg (fun q => by first | exact q.1 (by assumption) | exact absurd q.2 (by assumption) | exact absurd (Int32.lt_of_lt_of_le q.2 (nI_le t5 (by decide))) (by assumption))]
abbrev rm_X4_pairs : Room := { frames := 1, cells := 0, slots := 0, locals := 21 }
set_option maxHeartbeats 4000000 in
set_option maxRecDepth 100000 in
theorem k_X4_pairs (l : Launch) (ad tk : Nat → Nat) (nt : Nat) (V : Vt) (tn : Nat) (hTn : V 48 0 = nI tn) (t5 : tn ≤ 5)  : Ct l yX4_pairs cX4_pairs 3 (some .int) rm_X4_pairs (xS ad tk nt) V [.ref (ad (48))] (rI fun x V2 => V2 = V ∧ x = nI (cntI (fun t => ¬ V 51 t = -9) tn)) := by
  refine Ct_of (by decide) (Nat.le_of_ble_eq_true rfl) ?_
  intro p e s m below meth c A D cy ls C hl
  have hl : lv_has ls 3 [(0, .ref (ad (48)))] := hl
  refine j_iconst (v := 0) C dX4_pairs_0 (by decide) ?_
  refine j_istore_n (lv2 := [(1, .int (0)), (0, .ref (ad (48)))]) C dX4_pairs_1 rfl hl (by decide) rfl (fun ls hl => ?_)
  refine j_iconst (v := 0) C dX4_pairs_2 (by decide) ?_
  refine j_istore_n (lv2 := [(2, .int (0)), (1, .int (0)), (0, .ref (ad (48)))]) C dX4_pairs_3 rfl hl (by decide) rfl (fun ls hl => ?_)
  have loop : ∀ (n_9_ : Nat) (t : Nat) (b : Int32), t ≤ tn → b = nI (cntI (fun t => ¬ V 51 t = -9) t) → tn - t < n_9_ → ∀ (ls : Array Slot), lv_has ls 3 [(0, .ref (ad (48))), (1, .int (b)), (2, .int (nI t))] → J p l e rm_X4_pairs s m [.ref (ad (48))].toArray below meth c A D cy 0 0 (MQ below (gPost D cy A (fun o9 σ2 V2 => σ2 = xS ad tk nt ∧ (rI fun x V2 => V2 = V ∧ x = nI (cntI (fun t => ¬ V 51 t = -9) tn)) o9 V2)) [.ref (ad (48))].toArray s 0 0 A) (xS ad tk nt) V (F0 m 4 ls []) := by
    intro n_9_
    induction n_9_ with
    | zero =>
      intro t b hi hb hm
      exact absurd hm (by omega)
    | succ n_9_ ih_loop =>
      intro t b hi hb hm ls hl
      refine j_iload_n C dX4_pairs_4 rfl (lv_at hl 2 rfl) ?_
      refine j_aload_n C dX4_pairs_5 rfl (lv_at hl 0 rfl) ?_
      refine j_getI (k := 48) C (f_RX4_27_4) (xl (by decide)) (rfl) dX4_pairs_6 ?_
      refine j_icmp_ge (tgt := 31) C dX4_pairs_9 (by decide) (fun c_1_ => ?_) (fun c_1_ => ?_)
      · have n_1_ := Int32.not_lt.mpr c_1_
        obtain rfl : t = tn := by rw [hTn] at c_1_; have q := leN (by omega) (by omega) c_1_; omega
        refine j_iload_n C dX4_pairs_31 rfl (lv_at hl 1 rfl) ?_
        refine j_iret C ⟨rfl, _, rfl, ?_⟩ dX4_pairs_32
        exact ⟨rfl, hb⟩
      · have n_1_ := Int32.not_le.mp c_1_
        have hlt : t < tn := by rw [hTn] at c_1_; exact ltN (by omega) c_1_
        refine j_aload_n C dX4_pairs_12 rfl (lv_at hl 0 rfl) ?_
        refine j_iload_n C dX4_pairs_13 rfl (lv_at hl 2 rfl) ?_
        refine j_callV (k := 48) C [.int (nI t)] [] (k_X4_girlOf l ad tk nt V (nI t) tn hTn t5) v_RX4_42 (xl (by decide)) (rfl) rfl ⟨rfl, rfl, Nat.le_of_ble_eq_true rfl, Nat.le_of_ble_eq_true rfl⟩ rfl hl.1 rfl (Nat.le_of_ble_eq_true rfl) ⟨Nat.le_of_ble_eq_true rfl, Nat.le_of_ble_eq_true rfl⟩ dX4_pairs_14 (kI fun x_2_ U2 h_2_ => ?_)
        obtain ⟨eU2, h_2_⟩ := h_2_
        have eU2 := eU2.symm
        subst eU2
        rw [atR_in hlt (by omega)] at h_2_
        refine j_bipush (v := (-9)) C dX4_pairs_17 (by decide) ?_
        refine j_icmp_eq (tgt := 25) C dX4_pairs_19 (by decide) (fun c_3_ => ?_) (fun c_3_ => ?_)
        · skip
          refine j_iinc (v := nI (t + 1)) (lv2 := [(2, .int (nI (t + 1))), (0, .ref (ad (48))), (1, .int (b))]) C dX4_pairs_25 hl (k0 := 2) rfl (nI_1 _) (by decide) rfl (fun ls hl => ?_)
          refine j_goto (tgt := 4) C dX4_pairs_28 (by decide) ?_
          exact ih_loop (t + 1) (b) (by omega) (by rw [cntI]; simp_all [nI_1]) (by omega) ls (lv_sub hl [1, 2, 0] rfl)
        · skip
          refine j_iinc (v := b + 1) (lv2 := [(1, .int (b + 1)), (0, .ref (ad (48))), (2, .int (nI t))]) C dX4_pairs_22 hl (k0 := 1) rfl rfl (by decide) rfl (fun ls hl => ?_)
          refine j_iinc (v := nI (t + 1)) (lv2 := [(2, .int (nI (t + 1))), (1, .int (b + 1)), (0, .ref (ad (48)))]) C dX4_pairs_25 hl (k0 := 2) rfl (nI_1 _) (by decide) rfl (fun ls hl => ?_)
          refine j_goto (tgt := 4) C dX4_pairs_28 (by decide) ?_
          exact ih_loop (t + 1) (b + 1) (by omega) (by rw [cntI]; simp_all [nI_1]) (by omega) ls (lv_sub hl [2, 1, 0] rfl)
  exact loop (tn + 1) 0 0 (by omega) rfl (by omega) ls (lv_sub hl [2, 1, 0] rfl)
def smI (f : Nat → Int32) : Nat → Int32
  | 0 => 0
  | t + 1 => smI f t + f t
abbrev rm_X4_nearnessTogether : Room := { frames := 3, cells := 0, slots := 0, locals := 65 }
set_option maxHeartbeats 4000000 in
set_option maxRecDepth 100000 in
theorem k_X4_nearnessTogether (l : Launch) (ad tk : Nat → Nat) (nt : Nat) (V : Vt) (tn : Nat) (hTn : V 48 0 = nI tn) (t5 : tn ≤ 5) (hgv : ∀ t, t < tn → V 51 t = -9 ∨ ∃ g, g < 4 ∧ V 51 t = nI g)  : Ct l yX4_nearnessTogether cX4_nearnessTogether 3 (some .int) rm_X4_nearnessTogether (xS ad tk nt) V [.ref (ad (48))] (rI fun x V2 => V2 = V ∧ x = smI (fun t => if V 51 t = -9 then 0 else V 49 (t * 4 + (V 51 t).toNatClampNeg)) tn) := by
  refine Ct_of (by decide) (Nat.le_of_ble_eq_true rfl) ?_
  intro p e s m below meth c A D cy ls C hl
  have hl : lv_has ls 3 [(0, .ref (ad (48)))] := hl
  refine j_iconst (v := 0) C dX4_nearnessTogether_0 (by decide) ?_
  refine j_istore_n (lv2 := [(1, .int (0)), (0, .ref (ad (48)))]) C dX4_nearnessTogether_1 rfl hl (by decide) rfl (fun ls hl => ?_)
  refine j_iconst (v := 0) C dX4_nearnessTogether_2 (by decide) ?_
  refine j_istore_n (lv2 := [(2, .int (0)), (1, .int (0)), (0, .ref (ad (48)))]) C dX4_nearnessTogether_3 rfl hl (by decide) rfl (fun ls hl => ?_)
  have loop : ∀ (n_9_ : Nat) (t : Nat) (b : Int32), t ≤ tn → b = smI (fun t => if V 51 t = -9 then 0 else V 49 (t * 4 + (V 51 t).toNatClampNeg)) t → tn - t < n_9_ → ∀ (ls : Array Slot), lv_has ls 3 [(0, .ref (ad (48))), (1, .int (b)), (2, .int (nI t))] → J p l e rm_X4_nearnessTogether s m [.ref (ad (48))].toArray below meth c A D cy 0 0 (MQ below (gPost D cy A (fun o9 σ2 V2 => σ2 = xS ad tk nt ∧ (rI fun x V2 => V2 = V ∧ x = smI (fun t => if V 51 t = -9 then 0 else V 49 (t * 4 + (V 51 t).toNatClampNeg)) tn) o9 V2)) [.ref (ad (48))].toArray s 0 0 A) (xS ad tk nt) V (F0 m 4 ls []) := by
    intro n_9_
    induction n_9_ with
    | zero =>
      intro t b hi hb hm
      exact absurd hm (by omega)
    | succ n_9_ ih_loop =>
      intro t b hi hb hm ls hl
      refine j_iload_n C dX4_nearnessTogether_4 rfl (lv_at hl 2 rfl) ?_
      refine j_aload_n C dX4_nearnessTogether_5 rfl (lv_at hl 0 rfl) ?_
      refine j_getI (k := 48) C (f_RX4_27_4) (xl (by decide)) (rfl) dX4_nearnessTogether_6 ?_
      refine j_icmp_ge (tgt := 45) C dX4_nearnessTogether_9 (by decide) (fun c_1_ => ?_) (fun c_1_ => ?_)
      · have n_1_ := Int32.not_lt.mpr c_1_
        obtain rfl : t = tn := by rw [hTn] at c_1_; have q := leN (by omega) (by omega) c_1_; omega
        refine j_iload_n C dX4_nearnessTogether_45 rfl (lv_at hl 1 rfl) ?_
        refine j_iret C ⟨rfl, _, rfl, ?_⟩ dX4_nearnessTogether_46
        exact ⟨rfl, hb⟩
      · have n_1_ := Int32.not_le.mp c_1_
        have hlt : t < tn := by rw [hTn] at c_1_; exact ltN (by omega) c_1_
        refine j_iload_n C dX4_nearnessTogether_12 rfl (lv_at hl 1 rfl) ?_
        refine j_aload_n C dX4_nearnessTogether_13 rfl (lv_at hl 0 rfl) ?_
        refine j_iload_n C dX4_nearnessTogether_14 rfl (lv_at hl 2 rfl) ?_
        refine j_callV (k := 48) C [.int (nI t)] [.int (b)] (k_X4_girlOf l ad tk nt V (nI t) tn hTn t5) v_RX4_42 (xl (by decide)) (rfl) rfl ⟨rfl, rfl, Nat.le_of_ble_eq_true rfl, Nat.le_of_ble_eq_true rfl⟩ rfl hl.1 rfl (Nat.le_of_ble_eq_true rfl) ⟨Nat.le_of_ble_eq_true rfl, Nat.le_of_ble_eq_true rfl⟩ dX4_nearnessTogether_15 (kI fun x_2_ U2 h_2_ => ?_)
        obtain ⟨eU2, h_2_⟩ := h_2_
        have eU2 := eU2.symm
        subst eU2
        rw [atR_in hlt (by omega)] at h_2_
        refine j_bipush (v := (-9)) C dX4_nearnessTogether_18 (by decide) ?_
        refine j_icmp_ne (tgt := 27) C dX4_nearnessTogether_20 (by decide) (fun c_3_ => ?_) (fun c_3_ => ?_)
        · skip
          obtain ⟨g9, hg9, hw9⟩ : ∃ g, g < 4 ∧ V 51 t = nI g := by
            rcases hgv t hlt with h | h
            · exact absurd h (h_2_ ▸ c_3_)
            · exact h
          rw [h_2_] at c_3_
          refine j_aload_n C dX4_nearnessTogether_27 rfl (lv_at hl 0 rfl) ?_
          refine j_iload_n C dX4_nearnessTogether_28 rfl (lv_at hl 2 rfl) ?_
          refine j_aload_n C dX4_nearnessTogether_29 rfl (lv_at hl 0 rfl) ?_
          refine j_iload_n C dX4_nearnessTogether_30 rfl (lv_at hl 2 rfl) ?_
          refine j_callV (k := 48) C [.int (nI t)] [.int (nI t), .ref (ad (48)), .int (b)] (k_X4_girlOf l ad tk nt V (nI t) tn hTn t5) v_RX4_42 (xl (by decide)) (rfl) rfl ⟨rfl, rfl, Nat.le_of_ble_eq_true rfl, Nat.le_of_ble_eq_true rfl⟩ rfl hl.1 rfl (Nat.le_of_ble_eq_true rfl) ⟨Nat.le_of_ble_eq_true rfl, Nat.le_of_ble_eq_true rfl⟩ dX4_nearnessTogether_31 (kI fun x_4_ U4 h_4_ => ?_)
          obtain ⟨eU4, h_4_⟩ := h_4_
          have eU4 := eU4.symm
          subst eU4
          rw [atR_in hlt (by omega)] at h_4_
          refine j_callV (k := 48) C [.int (nI t), .int (x_4_)] [.int (b)] (k_X4_nearness l ad tk nt V (nI t) (x_4_) t g9 rfl (h_4_.trans hw9) (by omega) hg9) v_RX4_46 (xl (by decide)) (rfl) rfl ⟨rfl, rfl, Nat.le_of_ble_eq_true rfl, Nat.le_of_ble_eq_true rfl⟩ rfl hl.1 rfl (Nat.le_of_ble_eq_true rfl) ⟨Nat.le_of_ble_eq_true rfl, Nat.le_of_ble_eq_true rfl⟩ dX4_nearnessTogether_34 (kI fun x_5_ U5 h_5_ => ?_)
          obtain ⟨eU5, h_5_⟩ := h_5_
          have eU5 := eU5.symm
          subst eU5
          refine j_iadd C dX4_nearnessTogether_37 ?_
          refine j_istore_n (lv2 := [(1, .int (b + x_5_)), (0, .ref (ad (48))), (2, .int (nI t))]) C dX4_nearnessTogether_38 rfl hl (by decide) rfl (fun ls hl => ?_)
          refine j_iinc (v := nI (t + 1)) (lv2 := [(2, .int (nI (t + 1))), (1, .int (b + x_5_)), (0, .ref (ad (48)))]) C dX4_nearnessTogether_39 hl (k0 := 2) rfl (nI_1 _) (by decide) rfl (fun ls hl => ?_)
          refine j_goto (tgt := 4) C dX4_nearnessTogether_42 (by decide) ?_
          exact ih_loop (t + 1) (b + x_5_) (by omega) (by rw [smI, ← hb]; rw [if_neg (by assumption), hw9, nI_clamp (by omega), h_5_]) (by omega) ls (lv_sub hl [2, 1, 0] rfl)
        · skip
          rw [h_2_] at c_3_
          refine j_iconst (v := 0) C dX4_nearnessTogether_23 (by decide) ?_
          refine j_goto (tgt := 37) C dX4_nearnessTogether_24 (by decide) ?_
          refine j_iadd C dX4_nearnessTogether_37 ?_
          refine j_istore_n (lv2 := [(1, .int (b + 0)), (0, .ref (ad (48))), (2, .int (nI t))]) C dX4_nearnessTogether_38 rfl hl (by decide) rfl (fun ls hl => ?_)
          refine j_iinc (v := nI (t + 1)) (lv2 := [(2, .int (nI (t + 1))), (1, .int (b + 0)), (0, .ref (ad (48)))]) C dX4_nearnessTogether_39 hl (k0 := 2) rfl (nI_1 _) (by decide) rfl (fun ls hl => ?_)
          refine j_goto (tgt := 4) C dX4_nearnessTogether_42 (by decide) ?_
          exact ih_loop (t + 1) (b + 0) (by omega) (by rw [smI, ← hb]; rw [if_pos (by assumption)]) (by omega) ls (lv_sub hl [2, 1, 0] rfl)
  exact loop (tn + 1) 0 0 (by omega) rfl (by omega) ls (lv_sub hl [2, 1, 0] rfl)
abbrev rm_X4_worthFrom : Room := { frames := 0, cells := 0, slots := 0, locals := 0 }
set_option maxHeartbeats 4000000 in
set_option maxRecDepth 100000 in
theorem k_X4_worthFrom (l : Launch) (ad tk : Nat → Nat) (nt : Nat) (V : Vt) (z0 z1 : Int32) (tn : Nat) (hTn : V 48 0 = nI tn) (t5 : tn ≤ 5) (t k9 : Nat) (e0 : z0 = nI t) (e1 : z1 = nI k9) (ht6 : t ≤ 5) (hk9 : k9 < 16)  : Ct l yX4_worthFrom cX4_worthFrom 5 (some .int) rm_X4_worthFrom (xS ad tk nt) V [.ref (ad (48)), .int (z0), .int (z1)] (rI fun x V2 => V2 = V ∧ x = if t < tn then V 53 (t * 16 + k9) else 0) := by
  refine Ct_of (by decide) (Nat.le_of_ble_eq_true rfl) ?_
  intro p e s m below meth c A D cy ls C hl
  have hl : lv_has ls 5 [(0, .ref (ad (48))), (1, .int (z0)), (2, .int (z1))] := hl
  refine j_iload_n C dX4_worthFrom_0 rfl (lv_at hl 1 rfl) ?_
  refine j_if_lt (tgt := 26) C dX4_worthFrom_1 (by decide) (fun c_1_ => ?_) (fun c_1_ => ?_)
  · have n_1_ := Int32.not_le.mpr c_1_
    refine j_iconst (v := 0) C dX4_worthFrom_26 (by decide) ?_
    refine j_istore_n (lv2 := [(3, .int (0)), (0, .ref (ad (48))), (1, .int (z0)), (2, .int (z1))]) C dX4_worthFrom_27 rfl hl (by decide) rfl (fun ls hl => ?_)
    refine j_iload_n C dX4_worthFrom_28 rfl (lv_at hl 2 rfl) ?_
    refine j_bipush (v := 16) C dX4_worthFrom_29 (by decide) ?_
    refine j_imul C dX4_worthFrom_31 ?_
    refine j_iload_n C dX4_worthFrom_32 rfl (lv_at hl 3 rfl) ?_
    refine j_iadd C dX4_worthFrom_33 ?_
    refine j_istore (lv2 := [(4, .int ((z0 * 16) + z1)), (3, .int (0)), (0, .ref (ad (48))), (1, .int (z0)), (2, .int (z1))]) C dX4_worthFrom_34 hl (by decide) rfl (fun ls hl => ?_)
    refine j_iload_n C dX4_worthFrom_36 rfl (lv_at hl 1 rfl) ?_
    refine j_if_eq (tgt := 60) C dX4_worthFrom_37 (by decide) (fun c_2_ => ?_) (fun c_2_ => ?_)
    · skip
      refine j_iconst (v := 0) C dX4_worthFrom_60 (by decide) ?_
      refine j_iret C ⟨rfl, _, rfl, ?_⟩ dX4_worthFrom_61
      exact absurd c_1_ (by rw [e0]; exact nI_pos (by omega))
    · skip
      refine j_iload C dX4_worthFrom_40 (lv_at hl 0 rfl) ?_
      refine j_aload_n C dX4_worthFrom_42 rfl (lv_at hl 2 rfl) ?_
      refine j_getR (k := 48) (k2 := 53) C (f_RX4_24_4) (xl (by decide)) (rfl) (rfl) dX4_worthFrom_43 ?_
      refine j_alen (k := 53) (n := 80) C (xl (by decide)) (Or.inl (rfl)) (rfl) dX4_worthFrom_46 ?_
      refine j_icmp_ge (tgt := 60) C dX4_worthFrom_47 (by decide) (fun c_3_ => ?_) (fun c_3_ => ?_)
      · have n_3_ := Int32.not_lt.mpr c_3_
        refine j_iconst (v := 0) C dX4_worthFrom_60 (by decide) ?_
        refine j_iret C ⟨rfl, _, rfl, ?_⟩ dX4_worthFrom_61
        exact absurd c_1_ (by rw [e0]; exact nI_pos (by omega))
      · have n_3_ := Int32.not_le.mp c_3_
        refine j_aload_n C dX4_worthFrom_50 rfl (lv_at hl 2 rfl) ?_
        refine j_getR (k := 48) (k2 := 53) C (f_RX4_24_4) (xl (by decide)) (rfl) (rfl) dX4_worthFrom_51 ?_
        refine j_iload C dX4_worthFrom_54 (lv_at hl 0 rfl) ?_
        refine j_iald (k := 53) (n := 80) C (xl (by decide)) (rfl) (rfl) (by exact absurd c_1_ (by rw [e0]; exact nI_pos (by omega))) dX4_worthFrom_56 ?_
        refine j_goto (tgt := 61) C dX4_worthFrom_57 (by decide) ?_
        refine j_iret C ⟨rfl, _, rfl, ?_⟩ dX4_worthFrom_61
        exact absurd c_1_ (by rw [e0]; exact nI_pos (by omega))
  · have n_1_ := Int32.not_lt.mp c_1_
    refine j_iload_n C dX4_worthFrom_4 rfl (lv_at hl 1 rfl) ?_
    refine j_aload_n C dX4_worthFrom_5 rfl (lv_at hl 0 rfl) ?_
    refine j_getI (k := 48) C (f_RX4_27_4) (xl (by decide)) (rfl) dX4_worthFrom_6 ?_
    refine j_icmp_ge (tgt := 26) C dX4_worthFrom_9 (by decide) (fun c_4_ => ?_) (fun c_4_ => ?_)
    · have n_4_ := Int32.not_lt.mpr c_4_
      refine j_iconst (v := 0) C dX4_worthFrom_26 (by decide) ?_
      refine j_istore_n (lv2 := [(3, .int (0)), (0, .ref (ad (48))), (1, .int (z0)), (2, .int (z1))]) C dX4_worthFrom_27 rfl hl (by decide) rfl (fun ls hl => ?_)
      refine j_iload_n C dX4_worthFrom_28 rfl (lv_at hl 2 rfl) ?_
      refine j_bipush (v := 16) C dX4_worthFrom_29 (by decide) ?_
      refine j_imul C dX4_worthFrom_31 ?_
      refine j_iload_n C dX4_worthFrom_32 rfl (lv_at hl 3 rfl) ?_
      refine j_iadd C dX4_worthFrom_33 ?_
      refine j_istore (lv2 := [(4, .int ((z0 * 16) + z1)), (3, .int (0)), (0, .ref (ad (48))), (1, .int (z0)), (2, .int (z1))]) C dX4_worthFrom_34 hl (by decide) rfl (fun ls hl => ?_)
      refine j_iload_n C dX4_worthFrom_36 rfl (lv_at hl 1 rfl) ?_
      refine j_if_eq (tgt := 60) C dX4_worthFrom_37 (by decide) (fun c_5_ => ?_) (fun c_5_ => ?_)
      · skip
        refine j_iconst (v := 0) C dX4_worthFrom_60 (by decide) ?_
        refine j_iret C ⟨rfl, _, rfl, ?_⟩ dX4_worthFrom_61
        refine ⟨rfl, ?_⟩
        rw [if_neg (fun q => absurd (e0 ▸ hTn ▸ c_4_) (nI_ge q (by omega)))]
      · skip
        refine j_iload C dX4_worthFrom_40 (lv_at hl 0 rfl) ?_
        refine j_aload_n C dX4_worthFrom_42 rfl (lv_at hl 2 rfl) ?_
        refine j_getR (k := 48) (k2 := 53) C (f_RX4_24_4) (xl (by decide)) (rfl) (rfl) dX4_worthFrom_43 ?_
        refine j_alen (k := 53) (n := 80) C (xl (by decide)) (Or.inl (rfl)) (rfl) dX4_worthFrom_46 ?_
        refine j_icmp_ge (tgt := 60) C dX4_worthFrom_47 (by decide) (fun c_6_ => ?_) (fun c_6_ => ?_)
        · have n_6_ := Int32.not_lt.mpr c_6_
          refine j_iconst (v := 0) C dX4_worthFrom_60 (by decide) ?_
          refine j_iret C ⟨rfl, _, rfl, ?_⟩ dX4_worthFrom_61
          exact absurd rfl c_5_
        · have n_6_ := Int32.not_le.mp c_6_
          refine j_aload_n C dX4_worthFrom_50 rfl (lv_at hl 2 rfl) ?_
          refine j_getR (k := 48) (k2 := 53) C (f_RX4_24_4) (xl (by decide)) (rfl) (rfl) dX4_worthFrom_51 ?_
          refine j_iload C dX4_worthFrom_54 (lv_at hl 0 rfl) ?_
          refine j_iald (k := 53) (n := 80) C (xl (by decide)) (rfl) (rfl) (by exact absurd rfl c_5_) dX4_worthFrom_56 ?_
          refine j_goto (tgt := 61) C dX4_worthFrom_57 (by decide) ?_
          refine j_iret C ⟨rfl, _, rfl, ?_⟩ dX4_worthFrom_61
          exact absurd rfl c_5_
    · have n_4_ := Int32.not_le.mp c_4_
      refine j_iload_n C dX4_worthFrom_12 rfl (lv_at hl 2 rfl) ?_
      refine j_if_lt (tgt := 26) C dX4_worthFrom_13 (by decide) (fun c_7_ => ?_) (fun c_7_ => ?_)
      · have n_7_ := Int32.not_le.mpr c_7_
        refine j_iconst (v := 0) C dX4_worthFrom_26 (by decide) ?_
        refine j_istore_n (lv2 := [(3, .int (0)), (0, .ref (ad (48))), (1, .int (z0)), (2, .int (z1))]) C dX4_worthFrom_27 rfl hl (by decide) rfl (fun ls hl => ?_)
        refine j_iload_n C dX4_worthFrom_28 rfl (lv_at hl 2 rfl) ?_
        refine j_bipush (v := 16) C dX4_worthFrom_29 (by decide) ?_
        refine j_imul C dX4_worthFrom_31 ?_
        refine j_iload_n C dX4_worthFrom_32 rfl (lv_at hl 3 rfl) ?_
        refine j_iadd C dX4_worthFrom_33 ?_
        refine j_istore (lv2 := [(4, .int ((z0 * 16) + z1)), (3, .int (0)), (0, .ref (ad (48))), (1, .int (z0)), (2, .int (z1))]) C dX4_worthFrom_34 hl (by decide) rfl (fun ls hl => ?_)
        refine j_iload_n C dX4_worthFrom_36 rfl (lv_at hl 1 rfl) ?_
        refine j_if_eq (tgt := 60) C dX4_worthFrom_37 (by decide) (fun c_8_ => ?_) (fun c_8_ => ?_)
        · skip
          refine j_iconst (v := 0) C dX4_worthFrom_60 (by decide) ?_
          refine j_iret C ⟨rfl, _, rfl, ?_⟩ dX4_worthFrom_61
          exact absurd c_7_ (by rw [e1]; exact nI_pos (by omega))
        · skip
          refine j_iload C dX4_worthFrom_40 (lv_at hl 0 rfl) ?_
          refine j_aload_n C dX4_worthFrom_42 rfl (lv_at hl 2 rfl) ?_
          refine j_getR (k := 48) (k2 := 53) C (f_RX4_24_4) (xl (by decide)) (rfl) (rfl) dX4_worthFrom_43 ?_
          refine j_alen (k := 53) (n := 80) C (xl (by decide)) (Or.inl (rfl)) (rfl) dX4_worthFrom_46 ?_
          refine j_icmp_ge (tgt := 60) C dX4_worthFrom_47 (by decide) (fun c_9_ => ?_) (fun c_9_ => ?_)
          · have n_9_ := Int32.not_lt.mpr c_9_
            refine j_iconst (v := 0) C dX4_worthFrom_60 (by decide) ?_
            refine j_iret C ⟨rfl, _, rfl, ?_⟩ dX4_worthFrom_61
            exact absurd c_7_ (by rw [e1]; exact nI_pos (by omega))
          · have n_9_ := Int32.not_le.mp c_9_
            refine j_aload_n C dX4_worthFrom_50 rfl (lv_at hl 2 rfl) ?_
            refine j_getR (k := 48) (k2 := 53) C (f_RX4_24_4) (xl (by decide)) (rfl) (rfl) dX4_worthFrom_51 ?_
            refine j_iload C dX4_worthFrom_54 (lv_at hl 0 rfl) ?_
            refine j_iald (k := 53) (n := 80) C (xl (by decide)) (rfl) (rfl) (by exact absurd c_7_ (by rw [e1]; exact nI_pos (by omega))) dX4_worthFrom_56 ?_
            refine j_goto (tgt := 61) C dX4_worthFrom_57 (by decide) ?_
            refine j_iret C ⟨rfl, _, rfl, ?_⟩ dX4_worthFrom_61
            exact absurd c_7_ (by rw [e1]; exact nI_pos (by omega))
      · have n_7_ := Int32.not_lt.mp c_7_
        refine j_iload_n C dX4_worthFrom_16 rfl (lv_at hl 2 rfl) ?_
        refine j_bipush (v := 16) C dX4_worthFrom_17 (by decide) ?_
        refine j_icmp_ge (tgt := 26) C dX4_worthFrom_19 (by decide) (fun c_10_ => ?_) (fun c_10_ => ?_)
        · have n_10_ := Int32.not_lt.mpr c_10_
          refine j_iconst (v := 0) C dX4_worthFrom_26 (by decide) ?_
          refine j_istore_n (lv2 := [(3, .int (0)), (0, .ref (ad (48))), (1, .int (z0)), (2, .int (z1))]) C dX4_worthFrom_27 rfl hl (by decide) rfl (fun ls hl => ?_)
          refine j_iload_n C dX4_worthFrom_28 rfl (lv_at hl 2 rfl) ?_
          refine j_bipush (v := 16) C dX4_worthFrom_29 (by decide) ?_
          refine j_imul C dX4_worthFrom_31 ?_
          refine j_iload_n C dX4_worthFrom_32 rfl (lv_at hl 3 rfl) ?_
          refine j_iadd C dX4_worthFrom_33 ?_
          refine j_istore (lv2 := [(4, .int ((z0 * 16) + z1)), (3, .int (0)), (0, .ref (ad (48))), (1, .int (z0)), (2, .int (z1))]) C dX4_worthFrom_34 hl (by decide) rfl (fun ls hl => ?_)
          refine j_iload_n C dX4_worthFrom_36 rfl (lv_at hl 1 rfl) ?_
          refine j_if_eq (tgt := 60) C dX4_worthFrom_37 (by decide) (fun c_11_ => ?_) (fun c_11_ => ?_)
          · skip
            refine j_iconst (v := 0) C dX4_worthFrom_60 (by decide) ?_
            refine j_iret C ⟨rfl, _, rfl, ?_⟩ dX4_worthFrom_61
            exact absurd (e1 ▸ c_10_) (nI_ge (b := 16) hk9 (by omega))
          · skip
            refine j_iload C dX4_worthFrom_40 (lv_at hl 0 rfl) ?_
            refine j_aload_n C dX4_worthFrom_42 rfl (lv_at hl 2 rfl) ?_
            refine j_getR (k := 48) (k2 := 53) C (f_RX4_24_4) (xl (by decide)) (rfl) (rfl) dX4_worthFrom_43 ?_
            refine j_alen (k := 53) (n := 80) C (xl (by decide)) (Or.inl (rfl)) (rfl) dX4_worthFrom_46 ?_
            refine j_icmp_ge (tgt := 60) C dX4_worthFrom_47 (by decide) (fun c_12_ => ?_) (fun c_12_ => ?_)
            · have n_12_ := Int32.not_lt.mpr c_12_
              refine j_iconst (v := 0) C dX4_worthFrom_60 (by decide) ?_
              refine j_iret C ⟨rfl, _, rfl, ?_⟩ dX4_worthFrom_61
              exact absurd (e1 ▸ c_10_) (nI_ge (b := 16) hk9 (by omega))
            · have n_12_ := Int32.not_le.mp c_12_
              refine j_aload_n C dX4_worthFrom_50 rfl (lv_at hl 2 rfl) ?_
              refine j_getR (k := 48) (k2 := 53) C (f_RX4_24_4) (xl (by decide)) (rfl) (rfl) dX4_worthFrom_51 ?_
              refine j_iload C dX4_worthFrom_54 (lv_at hl 0 rfl) ?_
              refine j_iald (k := 53) (n := 80) C (xl (by decide)) (rfl) (rfl) (by exact absurd (e1 ▸ c_10_) (nI_ge (b := 16) hk9 (by omega))) dX4_worthFrom_56 ?_
              refine j_goto (tgt := 61) C dX4_worthFrom_57 (by decide) ?_
              refine j_iret C ⟨rfl, _, rfl, ?_⟩ dX4_worthFrom_61
              exact absurd (e1 ▸ c_10_) (nI_ge (b := 16) hk9 (by omega))
        · have n_10_ := Int32.not_le.mp c_10_
          refine j_iconst (v := 1) C dX4_worthFrom_22 (by decide) ?_
          refine j_goto (tgt := 27) C dX4_worthFrom_23 (by decide) ?_
          refine j_istore_n (lv2 := [(3, .int (1)), (0, .ref (ad (48))), (1, .int (z0)), (2, .int (z1))]) C dX4_worthFrom_27 rfl hl (by decide) rfl (fun ls hl => ?_)
          refine j_iload_n C dX4_worthFrom_28 rfl (lv_at hl 2 rfl) ?_
          refine j_bipush (v := 16) C dX4_worthFrom_29 (by decide) ?_
          refine j_imul C dX4_worthFrom_31 ?_
          refine j_iload_n C dX4_worthFrom_32 rfl (lv_at hl 3 rfl) ?_
          refine j_iadd C dX4_worthFrom_33 ?_
          refine j_istore (lv2 := [(4, .int ((z0 * 16) + z1)), (3, .int (1)), (0, .ref (ad (48))), (1, .int (z0)), (2, .int (z1))]) C dX4_worthFrom_34 hl (by decide) rfl (fun ls hl => ?_)
          refine j_iload_n C dX4_worthFrom_36 rfl (lv_at hl 1 rfl) ?_
          refine j_if_eq (tgt := 60) C dX4_worthFrom_37 (by decide) (fun c_13_ => ?_) (fun c_13_ => ?_)
          · skip
            refine j_iconst (v := 0) C dX4_worthFrom_60 (by decide) ?_
            refine j_iret C ⟨rfl, _, rfl, ?_⟩ dX4_worthFrom_61
            exact absurd c_13_ (by decide)
          · skip
            refine j_iload C dX4_worthFrom_40 (lv_at hl 0 rfl) ?_
            refine j_aload_n C dX4_worthFrom_42 rfl (lv_at hl 2 rfl) ?_
            refine j_getR (k := 48) (k2 := 53) C (f_RX4_24_4) (xl (by decide)) (rfl) (rfl) dX4_worthFrom_43 ?_
            refine j_alen (k := 53) (n := 80) C (xl (by decide)) (Or.inl (rfl)) (rfl) dX4_worthFrom_46 ?_
            refine j_icmp_ge (tgt := 60) C dX4_worthFrom_47 (by decide) (fun c_14_ => ?_) (fun c_14_ => ?_)
            · have n_14_ := Int32.not_lt.mpr c_14_
              refine j_iconst (v := 0) C dX4_worthFrom_60 (by decide) ?_
              refine j_iret C ⟨rfl, _, rfl, ?_⟩ dX4_worthFrom_61
              exact absurd (show nI 80 ≤ nI (t * 16 + k9) by rw [← tkI, ← e0, ← e1]; exact c_14_) (nI_ge (by have := (show t < tn from ltN (by omega) (by rw [← e0, ← hTn]; exact c_4_)); omega) (by omega))
            · have n_14_ := Int32.not_le.mp c_14_
              refine j_aload_n C dX4_worthFrom_50 rfl (lv_at hl 2 rfl) ?_
              refine j_getR (k := 48) (k2 := 53) C (f_RX4_24_4) (xl (by decide)) (rfl) (rfl) dX4_worthFrom_51 ?_
              refine j_iload C dX4_worthFrom_54 (lv_at hl 0 rfl) ?_
              refine j_iald (k := 53) (n := 80) C (xl (by decide)) (rfl) (rfl) (by rw [e0, e1, tkI]; exact vp_in_nI (by have := (show t < tn from ltN (by omega) (by rw [← e0, ← hTn]; exact c_4_)); omega) (by decide)) dX4_worthFrom_56 ?_
              refine j_goto (tgt := 61) C dX4_worthFrom_57 (by decide) ?_
              refine j_iret C ⟨rfl, _, rfl, ?_⟩ dX4_worthFrom_61
              refine ⟨rfl, ?_⟩
              rw [if_pos (show t < tn from ltN (by omega) (by rw [← e0, ← hTn]; exact c_4_)), e0, e1, tkI, nI_clamp (by have := (show t < tn from ltN (by omega) (by rw [← e0, ← hTn]; exact c_4_)); omega)]
theorem sh1 {g : Nat} (h : g < 5) : (1 : Int32) <<< (nI g &&& 31) = nI (2 ^ g) := by
  rcases (show g = 0 ∨ g = 1 ∨ g = 2 ∨ g = 3 ∨ g = 4 by omega) with rfl | rfl | rfl | rfl | rfl <;> decide
theorem orI (a b : Nat) : nI a ||| nI b = nI (a ||| b) := by
  apply Int32.toBitVec_inj.mp
  rw [Int32.toBitVec_or]
  exact (BitVec.ofNat_or ..).symm
theorem bitI {w g : Nat} (hw : w < 16) (hg : g < 4) : (nI w >>> (nI g &&& 31)) &&& 1 = bI (w.testBit g = true) := by
  have h : ∀ w, w < 16 → ∀ g, g < 4 → (nI w >>> (nI g &&& 31)) &&& 1 = bI (w.testBit g = true) := by decide +kernel
  exact h w hw g hg
theorem or16 {a g : Nat} (ha : a < 16) (hg : g < 4) : a ||| 2 ^ g < 16 := by
  have h : ∀ a, a < 16 → ∀ g, g < 4 → a ||| 2 ^ g < 16 := by decide +kernel
  exact h a ha g hg
/-- the worth that thrower t reaches with girl g (none: NONE), the girls in k9 taken -/
def wWI (V : Vt) (tn t k9 : Nat) (g : Int32) : Int32 :=
  if g = -9 then (if t + 1 < tn then V 53 ((t + 1) * 16 + k9) else 0)
  else 1000 - V 49 (t * 4 + g.toNatClampNeg) + (if t + 1 < tn then V 53 ((t + 1) * 16 + (k9 ||| 2 ^ g.toNatClampNeg)) else 0)
def fbR (V : Vt) (tn t k9 w g : Nat) : Int32 := if w.testBit g = true ∧ k9.testBit g = false then wWI V tn t k9 (nI g) else -1
def fbL (V : Vt) (tn t k9 w : Nat) : Nat → Int32 × Int32
  | 0 => (-9, -1)
  | g + 1 => if (fbL V tn t k9 w g).2 < fbR V tn t k9 w g then (nI g, fbR V tn t k9 w g) else fbL V tn t k9 w g
theorem fbL_y {V : Vt} {tn t k9 w g : Nat} (h : (fbL V tn t k9 w g).2 < fbR V tn t k9 w g) : fbL V tn t k9 w (g + 1) = (nI g, fbR V tn t k9 w g) := by rw [fbL, if_pos h]
theorem fbL_n {V : Vt} {tn t k9 w g : Nat} (h : ¬ (fbL V tn t k9 w g).2 < fbR V tn t k9 w g) : fbL V tn t k9 w (g + 1) = fbL V tn t k9 w g := by rw [fbL, if_neg h]
def fbI (V : Vt) (tn gn t k9 w : Nat) : Int32 := if (fbL V tn t k9 w gn).2 < wWI V tn t k9 (-9) then -9 else (fbL V tn t k9 w gn).1
abbrev rm_X4_worthWith : Room := { frames := 3, cells := 0, slots := 0, locals := 65 }
set_option maxHeartbeats 4000000 in
set_option maxRecDepth 100000 in
theorem k_X4_worthWith (l : Launch) (ad tk : Nat → Nat) (nt : Nat) (V : Vt) (z0 z1 z2 : Int32) (tn : Nat) (hTn : V 48 0 = nI tn) (t5 : tn ≤ 5) (t k9 : Nat) (e0 : z0 = nI t) (e1 : z1 = nI k9) (ht6 : t < 5) (hk9 : k9 < 16) (e2 : z2 = -9 ∨ ∃ g, g < 4 ∧ z2 = nI g)  : Ct l yX4_worthWith cX4_worthWith 4 (some .int) rm_X4_worthWith (xS ad tk nt) V [.ref (ad (48)), .int (z0), .int (z1), .int (z2)] (rI fun x V2 => V2 = V ∧ x = wWI V tn t k9 z2) := by
  refine Ct_of (by decide) (Nat.le_of_ble_eq_true rfl) ?_
  intro p e s m below meth c A D cy ls C hl
  have hl : lv_has ls 4 [(0, .ref (ad (48))), (1, .int (z0)), (2, .int (z1)), (3, .int (z2))] := hl
  refine j_iload_n C dX4_worthWith_0 rfl (lv_at hl 3 rfl) ?_
  refine j_bipush (v := (-9)) C dX4_worthWith_1 (by decide) ?_
  refine j_icmp_ne (tgt := 15) C dX4_worthWith_3 (by decide) (fun c_1_ => ?_) (fun c_1_ => ?_)
  · skip
    obtain ⟨g9, hg9, eg9⟩ : ∃ g, g < 4 ∧ z2 = nI g := e2.elim (fun q => absurd q c_1_) id
    refine j_sipush (v := 1000) C dX4_worthWith_15 (by decide) ?_
    refine j_aload_n C dX4_worthWith_18 rfl (lv_at hl 0 rfl) ?_
    refine j_iload_n C dX4_worthWith_19 rfl (lv_at hl 1 rfl) ?_
    refine j_iload_n C dX4_worthWith_20 rfl (lv_at hl 3 rfl) ?_
    refine j_callV (k := 48) C [.int (z0), .int (z2)] [.int (1000)] (k_X4_nearness l ad tk nt V (z0) (z2) t g9 e0 eg9 ht6 hg9) v_RX4_46 (xl (by decide)) (rfl) rfl ⟨rfl, rfl, Nat.le_of_ble_eq_true rfl, Nat.le_of_ble_eq_true rfl⟩ rfl hl.1 rfl (Nat.le_of_ble_eq_true rfl) ⟨Nat.le_of_ble_eq_true rfl, Nat.le_of_ble_eq_true rfl⟩ dX4_worthWith_21 (kI fun x_2_ U2 h_2_ => ?_)
    obtain ⟨eU2, h_2_⟩ := h_2_
    have eU2 := eU2.symm
    subst eU2
    refine j_isub C dX4_worthWith_24 ?_
    refine j_aload_n C dX4_worthWith_25 rfl (lv_at hl 0 rfl) ?_
    refine j_iload_n C dX4_worthWith_26 rfl (lv_at hl 1 rfl) ?_
    refine j_iconst (v := 1) C dX4_worthWith_27 (by decide) ?_
    refine j_iadd C dX4_worthWith_28 ?_
    refine j_iload_n C dX4_worthWith_29 rfl (lv_at hl 2 rfl) ?_
    refine j_iconst (v := 1) C dX4_worthWith_30 (by decide) ?_
    refine j_iload_n C dX4_worthWith_31 rfl (lv_at hl 3 rfl) ?_
    refine j_ishl C dX4_worthWith_32 ?_
    refine j_ior C dX4_worthWith_33 ?_
    refine j_callV (k := 48) C [.int (z0 + 1), .int (z1 ||| (1 <<< (z2 &&& 31)))] [.int (1000 - x_2_)] (k_X4_worthFrom l ad tk nt V (z0 + 1) (z1 ||| (1 <<< (z2 &&& 31))) tn hTn t5 (t + 1) (k9 ||| 2 ^ g9) (by rw [e0, nI_1]) (by rw [e1, eg9, sh1 (by omega), orI]) (by omega) (or16 hk9 hg9)) v_RX4_68 (xl (by decide)) (rfl) rfl ⟨rfl, rfl, Nat.le_of_ble_eq_true rfl, Nat.le_of_ble_eq_true rfl⟩ rfl hl.1 rfl (Nat.le_of_ble_eq_true rfl) ⟨Nat.le_of_ble_eq_true rfl, Nat.le_of_ble_eq_true rfl⟩ dX4_worthWith_34 (kI fun x_3_ U3 h_3_ => ?_)
    obtain ⟨eU3, h_3_⟩ := h_3_
    have eU3 := eU3.symm
    subst eU3
    refine j_iadd C dX4_worthWith_37 ?_
    refine j_iret C ⟨rfl, _, rfl, ?_⟩ dX4_worthWith_38
    refine ⟨rfl, ?_⟩
    unfold wWI
    rw [if_neg c_1_, eg9, nI_clamp (by omega), h_2_, h_3_]
  · skip
    refine j_aload_n C dX4_worthWith_6 rfl (lv_at hl 0 rfl) ?_
    refine j_iload_n C dX4_worthWith_7 rfl (lv_at hl 1 rfl) ?_
    refine j_iconst (v := 1) C dX4_worthWith_8 (by decide) ?_
    refine j_iadd C dX4_worthWith_9 ?_
    refine j_iload_n C dX4_worthWith_10 rfl (lv_at hl 2 rfl) ?_
    refine j_callV (k := 48) C [.int (z0 + 1), .int (z1)] [] (k_X4_worthFrom l ad tk nt V (z0 + 1) (z1) tn hTn t5 (t + 1) k9 (by rw [e0, nI_1]) e1 (by omega) hk9) v_RX4_68 (xl (by decide)) (rfl) rfl ⟨rfl, rfl, Nat.le_of_ble_eq_true rfl, Nat.le_of_ble_eq_true rfl⟩ rfl hl.1 rfl (Nat.le_of_ble_eq_true rfl) ⟨Nat.le_of_ble_eq_true rfl, Nat.le_of_ble_eq_true rfl⟩ dX4_worthWith_11 (kI fun x_4_ U4 h_4_ => ?_)
    obtain ⟨eU4, h_4_⟩ := h_4_
    have eU4 := eU4.symm
    subst eU4
    refine j_iret C ⟨rfl, _, rfl, ?_⟩ dX4_worthWith_14
    refine ⟨rfl, ?_⟩
    unfold wWI
    rw [if_pos c_1_, h_4_]
abbrev rm_X4_isFreeToWin : Room := { frames := 0, cells := 0, slots := 0, locals := 0 }
set_option maxHeartbeats 4000000 in
set_option maxRecDepth 100000 in
theorem k_X4_isFreeToWin (l : Launch) (ad tk : Nat → Nat) (nt : Nat) (V : Vt) (z0 z1 z2 : Int32) (t k9 g w : Nat) (e0 : z0 = nI t) (e1 : z1 = nI k9) (e2 : z2 = nI g) (ht : t < 5) (hk9 : k9 < 16) (hgg : g < 4) (hw : V 50 t = nI w) (hw6 : w < 16)  : Ct l yX4_isFreeToWin cX4_isFreeToWin 5 (some .boolean) rm_X4_isFreeToWin (xS ad tk nt) V [.ref (ad (48)), .int (z0), .int (z1), .int (z2)] (rI fun x V2 => V2 = V ∧ x = bI (w.testBit g = true ∧ k9.testBit g = false)) := by
  refine Ct_of (by decide) (Nat.le_of_ble_eq_true rfl) ?_
  intro p e s m below meth c A D cy ls C hl
  have hl : lv_has ls 5 [(0, .ref (ad (48))), (1, .int (z0)), (2, .int (z1)), (3, .int (z2))] := hl
  refine j_iload_n C dX4_isFreeToWin_0 rfl (lv_at hl 1 rfl) ?_
  refine j_if_lt (tgt := 13) C dX4_isFreeToWin_1 (by decide) (fun c_1_ => ?_) (fun c_1_ => ?_)
  · have n_1_ := Int32.not_le.mpr c_1_
    refine j_iconst (v := 0) C dX4_isFreeToWin_13 (by decide) ?_
    refine j_goto (tgt := 23) C dX4_isFreeToWin_14 (by decide) ?_
    refine j_istore (lv2 := [(4, .int (0)), (0, .ref (ad (48))), (1, .int (z0)), (2, .int (z1)), (3, .int (z2))]) C dX4_isFreeToWin_23 hl (by decide) rfl (fun ls hl => ?_)
    refine j_iload C dX4_isFreeToWin_25 (lv_at hl 0 rfl) ?_
    refine j_iload_n C dX4_isFreeToWin_27 rfl (lv_at hl 4 rfl) ?_
    refine j_ishr C dX4_isFreeToWin_28 ?_
    refine j_iconst (v := 1) C dX4_isFreeToWin_29 (by decide) ?_
    refine j_iand C dX4_isFreeToWin_30 ?_
    refine j_iconst (v := 1) C dX4_isFreeToWin_31 (by decide) ?_
    refine j_icmp_ne (tgt := 47) C dX4_isFreeToWin_32 (by decide) (fun c_2_ => ?_) (fun c_2_ => ?_)
    · skip
      refine j_iconst (v := 0) C dX4_isFreeToWin_47 (by decide) ?_
      refine j_zret C rfl ⟨rfl, _, rfl, ?_⟩ dX4_isFreeToWin_48
      exact absurd c_1_ (by rw [e0]; exact nI_pos (by omega))
    · skip
      refine j_iload_n C dX4_isFreeToWin_35 rfl (lv_at hl 3 rfl) ?_
      refine j_iload_n C dX4_isFreeToWin_36 rfl (lv_at hl 4 rfl) ?_
      refine j_ishr C dX4_isFreeToWin_37 ?_
      refine j_iconst (v := 1) C dX4_isFreeToWin_38 (by decide) ?_
      refine j_iand C dX4_isFreeToWin_39 ?_
      refine j_if_ne (tgt := 47) C dX4_isFreeToWin_40 (by decide) (fun c_3_ => ?_) (fun c_3_ => ?_)
      · skip
        refine j_iconst (v := 0) C dX4_isFreeToWin_47 (by decide) ?_
        refine j_zret C rfl ⟨rfl, _, rfl, ?_⟩ dX4_isFreeToWin_48
        exact absurd c_1_ (by rw [e0]; exact nI_pos (by omega))
      · skip
        refine j_iconst (v := 1) C dX4_isFreeToWin_43 (by decide) ?_
        refine j_goto (tgt := 48) C dX4_isFreeToWin_44 (by decide) ?_
        refine j_zret C rfl ⟨rfl, _, rfl, ?_⟩ dX4_isFreeToWin_48
        exact absurd c_1_ (by rw [e0]; exact nI_pos (by omega))
  · have n_1_ := Int32.not_lt.mp c_1_
    refine j_iload_n C dX4_isFreeToWin_4 rfl (lv_at hl 1 rfl) ?_
    refine j_aload_n C dX4_isFreeToWin_5 rfl (lv_at hl 0 rfl) ?_
    refine j_getR (k := 48) (k2 := 50) C (f_RX4_15_4) (xl (by decide)) (rfl) (rfl) dX4_isFreeToWin_6 ?_
    refine j_alen (k := 50) (n := 5) C (xl (by decide)) (Or.inl (rfl)) (rfl) dX4_isFreeToWin_9 ?_
    refine j_icmp_lt (tgt := 17) C dX4_isFreeToWin_10 (by decide) (fun c_4_ => ?_) (fun c_4_ => ?_)
    · have n_4_ := Int32.not_le.mpr c_4_
      refine j_aload_n C dX4_isFreeToWin_17 rfl (lv_at hl 0 rfl) ?_
      refine j_getR (k := 48) (k2 := 50) C (f_RX4_15_4) (xl (by decide)) (rfl) (rfl) dX4_isFreeToWin_18 ?_
      refine j_iload_n C dX4_isFreeToWin_21 rfl (lv_at hl 1 rfl) ?_
      refine j_iald (k := 50) (n := 5) C (xl (by decide)) (rfl) (rfl) (by rw [e0]; exact vp_in_nI ht (by decide)) dX4_isFreeToWin_22 ?_
      refine j_istore (lv2 := [(4, .int (V 50 (z0).toNatClampNeg)), (0, .ref (ad (48))), (1, .int (z0)), (2, .int (z1)), (3, .int (z2))]) C dX4_isFreeToWin_23 hl (by decide) rfl (fun ls hl => ?_)
      refine j_iload C dX4_isFreeToWin_25 (lv_at hl 0 rfl) ?_
      refine j_iload_n C dX4_isFreeToWin_27 rfl (lv_at hl 4 rfl) ?_
      refine j_ishr C dX4_isFreeToWin_28 ?_
      refine j_iconst (v := 1) C dX4_isFreeToWin_29 (by decide) ?_
      refine j_iand C dX4_isFreeToWin_30 ?_
      refine j_iconst (v := 1) C dX4_isFreeToWin_31 (by decide) ?_
      refine j_icmp_ne (tgt := 47) C dX4_isFreeToWin_32 (by decide) (fun c_5_ => ?_) (fun c_5_ => ?_)
      · skip
        refine j_iconst (v := 0) C dX4_isFreeToWin_47 (by decide) ?_
        refine j_zret C rfl ⟨rfl, _, rfl, ?_⟩ dX4_isFreeToWin_48
        refine ⟨rfl, ?_⟩
        rw [e0, e2, nI_clamp (by omega), hw, bitI hw6 hgg] at c_5_
        rw [bI_f (fun q => c_5_ (bI_t q.1))]
      · skip
        refine j_iload_n C dX4_isFreeToWin_35 rfl (lv_at hl 3 rfl) ?_
        refine j_iload_n C dX4_isFreeToWin_36 rfl (lv_at hl 4 rfl) ?_
        refine j_ishr C dX4_isFreeToWin_37 ?_
        refine j_iconst (v := 1) C dX4_isFreeToWin_38 (by decide) ?_
        refine j_iand C dX4_isFreeToWin_39 ?_
        refine j_if_ne (tgt := 47) C dX4_isFreeToWin_40 (by decide) (fun c_6_ => ?_) (fun c_6_ => ?_)
        · skip
          refine j_iconst (v := 0) C dX4_isFreeToWin_47 (by decide) ?_
          refine j_zret C rfl ⟨rfl, _, rfl, ?_⟩ dX4_isFreeToWin_48
          refine ⟨rfl, ?_⟩
          rw [e0, e2, nI_clamp (by omega), hw, bitI hw6 hgg] at c_5_
          rw [e1, e2, bitI hk9 hgg] at c_6_
          rw [bI_f (fun q => c_6_ (bI_f (by rw [q.2]; decide)))]
        · skip
          refine j_iconst (v := 1) C dX4_isFreeToWin_43 (by decide) ?_
          refine j_goto (tgt := 48) C dX4_isFreeToWin_44 (by decide) ?_
          refine j_zret C rfl ⟨rfl, _, rfl, ?_⟩ dX4_isFreeToWin_48
          refine ⟨rfl, ?_⟩
          rw [e0, e2, nI_clamp (by omega), hw, bitI hw6 hgg] at c_5_
          rw [e1, e2, bitI hk9 hgg] at c_6_
          rw [bI_t ⟨(show w.testBit g = true from by by_cases q : w.testBit g = true; exact q; rw [bI_f q] at c_5_; exact absurd c_5_ (by decide)), by simpa using bI_0.mp c_6_⟩]
    · have n_4_ := Int32.not_lt.mp c_4_
      refine j_iconst (v := 0) C dX4_isFreeToWin_13 (by decide) ?_
      refine j_goto (tgt := 23) C dX4_isFreeToWin_14 (by decide) ?_
      refine j_istore (lv2 := [(4, .int (0)), (0, .ref (ad (48))), (1, .int (z0)), (2, .int (z1)), (3, .int (z2))]) C dX4_isFreeToWin_23 hl (by decide) rfl (fun ls hl => ?_)
      refine j_iload C dX4_isFreeToWin_25 (lv_at hl 0 rfl) ?_
      refine j_iload_n C dX4_isFreeToWin_27 rfl (lv_at hl 4 rfl) ?_
      refine j_ishr C dX4_isFreeToWin_28 ?_
      refine j_iconst (v := 1) C dX4_isFreeToWin_29 (by decide) ?_
      refine j_iand C dX4_isFreeToWin_30 ?_
      refine j_iconst (v := 1) C dX4_isFreeToWin_31 (by decide) ?_
      refine j_icmp_ne (tgt := 47) C dX4_isFreeToWin_32 (by decide) (fun c_7_ => ?_) (fun c_7_ => ?_)
      · skip
        refine j_iconst (v := 0) C dX4_isFreeToWin_47 (by decide) ?_
        refine j_zret C rfl ⟨rfl, _, rfl, ?_⟩ dX4_isFreeToWin_48
        exact absurd (nI_lt (b := 5) ht (by decide)) (e0 ▸ c_4_)
      · skip
        refine j_iload_n C dX4_isFreeToWin_35 rfl (lv_at hl 3 rfl) ?_
        refine j_iload_n C dX4_isFreeToWin_36 rfl (lv_at hl 4 rfl) ?_
        refine j_ishr C dX4_isFreeToWin_37 ?_
        refine j_iconst (v := 1) C dX4_isFreeToWin_38 (by decide) ?_
        refine j_iand C dX4_isFreeToWin_39 ?_
        refine j_if_ne (tgt := 47) C dX4_isFreeToWin_40 (by decide) (fun c_8_ => ?_) (fun c_8_ => ?_)
        · skip
          refine j_iconst (v := 0) C dX4_isFreeToWin_47 (by decide) ?_
          refine j_zret C rfl ⟨rfl, _, rfl, ?_⟩ dX4_isFreeToWin_48
          exact absurd (nI_lt (b := 5) ht (by decide)) (e0 ▸ c_4_)
        · skip
          refine j_iconst (v := 1) C dX4_isFreeToWin_43 (by decide) ?_
          refine j_goto (tgt := 48) C dX4_isFreeToWin_44 (by decide) ?_
          refine j_zret C rfl ⟨rfl, _, rfl, ?_⟩ dX4_isFreeToWin_48
          exact absurd (nI_lt (b := 5) ht (by decide)) (e0 ▸ c_4_)
theorem fbL_rng (V : Vt) (tn t k9 w : Nat) : ∀ g, (fbL V tn t k9 w g).1 = -9 ∨ ∃ q, q < g ∧ (fbL V tn t k9 w g).1 = nI q
  | 0 => Or.inl rfl
  | g + 1 => by
    by_cases hq : (fbL V tn t k9 w g).2 < fbR V tn t k9 w g
    · rw [fbL_y hq]
      exact Or.inr ⟨g, by omega, rfl⟩
    · rw [fbL_n hq]
      rcases fbL_rng V tn t k9 w g with h | ⟨q, h, e⟩
      · exact Or.inl h
      · exact Or.inr ⟨q, by omega, e⟩
theorem fbI_rng (V : Vt) (tn gn t k9 w : Nat) : fbI V tn gn t k9 w = -9 ∨ ∃ q, q < gn ∧ fbI V tn gn t k9 w = nI q := by
  unfold fbI
  split
  · exact Or.inl rfl
  · exact fbL_rng V tn t k9 w gn
abbrev rm_X4_firstBest : Room := { frames := 4, cells := 0, slots := 0, locals := 88 }
set_option maxHeartbeats 4000000 in
set_option maxRecDepth 100000 in
theorem k_X4_firstBest (l : Launch) (ad tk : Nat → Nat) (nt : Nat) (V : Vt) (z0 z1 : Int32) (tn : Nat) (hTn : V 48 0 = nI tn) (t5 : tn ≤ 5) (gn : Nat) (hGn : V 48 1 = nI gn) (g4 : gn ≤ 4) (t k9 w : Nat) (e0 : z0 = nI t) (e1 : z1 = nI k9) (ht : t < 5) (hk9 : k9 < 16) (hw : V 50 t = nI w) (hw6 : w < 16)  : Ct l yX4_firstBest cX4_firstBest 7 (some .int) rm_X4_firstBest (xS ad tk nt) V [.ref (ad (48)), .int (z0), .int (z1)] (rI fun x V2 => V2 = V ∧ x = fbI V tn gn t k9 w) := by
  refine Ct_of (by decide) (Nat.le_of_ble_eq_true rfl) ?_
  intro p e s m below meth c A D cy ls C hl
  have hl : lv_has ls 7 [(0, .ref (ad (48))), (1, .int (z0)), (2, .int (z1))] := hl
  refine j_bipush (v := (-9)) C dX4_firstBest_0 (by decide) ?_
  refine j_istore_n (lv2 := [(3, .int ((-9))), (0, .ref (ad (48))), (1, .int (z0)), (2, .int (z1))]) C dX4_firstBest_2 rfl hl (by decide) rfl (fun ls hl => ?_)
  refine j_iconst (v := (-1)) C dX4_firstBest_3 (by decide) ?_
  refine j_istore (lv2 := [(4, .int ((-1))), (3, .int ((-9))), (0, .ref (ad (48))), (1, .int (z0)), (2, .int (z1))]) C dX4_firstBest_4 hl (by decide) rfl (fun ls hl => ?_)
  refine j_iconst (v := 0) C dX4_firstBest_6 (by decide) ?_
  refine j_istore (lv2 := [(5, .int (0)), (4, .int ((-1))), (3, .int ((-9))), (0, .ref (ad (48))), (1, .int (z0)), (2, .int (z1))]) C dX4_firstBest_7 hl (by decide) rfl (fun ls hl => ?_)
  have loop : ∀ (n_9_ : Nat) (g : Nat) (b : Int32) (v : Int32), g ≤ gn → b = (fbL V tn t k9 w g).1 → v = (fbL V tn t k9 w g).2 → gn - g < n_9_ → ∀ (ls : Array Slot), lv_has ls 7 [(0, .ref (ad (48))), (1, .int (z0)), (2, .int (z1)), (3, .int (b)), (4, .int (v)), (5, .int (nI g))] → J p l e rm_X4_firstBest s m [.ref (ad (48)), .int (z0), .int (z1)].toArray below meth c A D cy 0 0 (MQ below (gPost D cy A (fun o9 σ2 V2 => σ2 = xS ad tk nt ∧ (rI fun x V2 => V2 = V ∧ x = fbI V tn gn t k9 w) o9 V2)) [.ref (ad (48)), .int (z0), .int (z1)].toArray s 0 0 A) (xS ad tk nt) V (F0 m 9 ls []) := by
    intro n_9_
    induction n_9_ with
    | zero =>
      intro g b v hi hb hv hm
      exact absurd hm (by omega)
    | succ n_9_ ih_loop =>
      intro g b v hi hb hv hm ls hl
      refine j_iload C dX4_firstBest_9 (lv_at hl 5 rfl) ?_
      refine j_aload_n C dX4_firstBest_11 rfl (lv_at hl 0 rfl) ?_
      refine j_getI (k := 48) C (f_RX4_31_4) (xl (by decide)) (rfl) dX4_firstBest_12 ?_
      refine j_icmp_ge (tgt := 63) C dX4_firstBest_15 (by decide) (fun c_1_ => ?_) (fun c_1_ => ?_)
      · have n_1_ := Int32.not_lt.mpr c_1_
        obtain rfl : g = gn := by rw [hGn] at c_1_; have q := leN (by omega) (by omega) c_1_; omega
        refine j_aload_n C dX4_firstBest_63 rfl (lv_at hl 0 rfl) ?_
        refine j_iload_n C dX4_firstBest_64 rfl (lv_at hl 1 rfl) ?_
        refine j_iload_n C dX4_firstBest_65 rfl (lv_at hl 2 rfl) ?_
        refine j_bipush (v := (-9)) C dX4_firstBest_66 (by decide) ?_
        refine j_callV (k := 48) C [.int (z0), .int (z1), .int ((-9))] [] (k_X4_worthWith l ad tk nt V (z0) (z1) ((-9)) tn hTn t5 t k9 e0 e1 ht hk9 (Or.inl rfl)) v_RX4_53 (xl (by decide)) (rfl) rfl ⟨rfl, rfl, Nat.le_of_ble_eq_true rfl, Nat.le_of_ble_eq_true rfl⟩ rfl hl.1 rfl (Nat.le_of_ble_eq_true rfl) ⟨Nat.le_of_ble_eq_true rfl, Nat.le_of_ble_eq_true rfl⟩ dX4_firstBest_68 (kI fun x_2_ U2 h_2_ => ?_)
        obtain ⟨eU2, h_2_⟩ := h_2_
        have eU2 := eU2.symm
        subst eU2
        refine j_iload C dX4_firstBest_71 (lv_at hl 4 rfl) ?_
        refine j_icmp_le (tgt := 81) C dX4_firstBest_73 (by decide) (fun c_3_ => ?_) (fun c_3_ => ?_)
        · have n_3_ := Int32.not_lt.mpr c_3_
          refine j_iload_n C dX4_firstBest_81 rfl (lv_at hl 3 rfl) ?_
          refine j_iret C ⟨rfl, _, rfl, ?_⟩ dX4_firstBest_82
          refine ⟨rfl, ?_⟩
          unfold fbI
          rw [← hb, ← hv, ← h_2_]
          rw [if_neg (by assumption)]
        · have n_3_ := Int32.not_le.mp c_3_
          refine j_bipush (v := (-9)) C dX4_firstBest_76 (by decide) ?_
          refine j_goto (tgt := 82) C dX4_firstBest_78 (by decide) ?_
          refine j_iret C ⟨rfl, _, rfl, ?_⟩ dX4_firstBest_82
          refine ⟨rfl, ?_⟩
          unfold fbI
          rw [← hb, ← hv, ← h_2_]
          rw [if_pos (by assumption)]
      · have n_1_ := Int32.not_le.mp c_1_
        have hlt : g < gn := by rw [hGn] at c_1_; exact ltN (by omega) c_1_
        refine j_aload_n C dX4_firstBest_18 rfl (lv_at hl 0 rfl) ?_
        refine j_iload_n C dX4_firstBest_19 rfl (lv_at hl 1 rfl) ?_
        refine j_iload_n C dX4_firstBest_20 rfl (lv_at hl 2 rfl) ?_
        refine j_iload C dX4_firstBest_21 (lv_at hl 5 rfl) ?_
        refine j_callV (k := 48) C [.int (z0), .int (z1), .int (nI g)] [] (k_X4_isFreeToWin l ad tk nt V (z0) (z1) (nI g) t k9 g w e0 e1 rfl ht hk9 (by omega) hw hw6) v_RX4_65 (xl (by decide)) (rfl) rfl ⟨rfl, rfl, Nat.le_of_ble_eq_true rfl, Nat.le_of_ble_eq_true rfl⟩ rfl hl.1 rfl (Nat.le_of_ble_eq_true rfl) ⟨Nat.le_of_ble_eq_true rfl, Nat.le_of_ble_eq_true rfl⟩ dX4_firstBest_23 (kI fun x_4_ U4 h_4_ => ?_)
        obtain ⟨eU4, h_4_⟩ := h_4_
        have eU4 := eU4.symm
        subst eU4
        refine j_if_eq (tgt := 40) C dX4_firstBest_26 (by decide) (fun c_5_ => ?_) (fun c_5_ => ?_)
        · skip
          have er9 : fbR V tn t k9 w g = -1 := if_neg (bI_0.mp (h_4_ ▸ c_5_))
          refine j_iconst (v := (-1)) C dX4_firstBest_40 (by decide) ?_
          refine j_istore (lv2 := [(6, .int ((-1))), (0, .ref (ad (48))), (1, .int (z0)), (2, .int (z1)), (3, .int (b)), (4, .int (v)), (5, .int (nI g))]) C dX4_firstBest_41 hl (by decide) rfl (fun ls hl => ?_)
          refine j_iload C dX4_firstBest_43 (lv_at hl 0 rfl) ?_
          refine j_iload C dX4_firstBest_45 (lv_at hl 5 rfl) ?_
          refine j_icmp_le (tgt := 57) C dX4_firstBest_47 (by decide) (fun c_6_ => ?_) (fun c_6_ => ?_)
          · have n_6_ := Int32.not_lt.mpr c_6_
            refine j_iinc (v := nI (g + 1)) (lv2 := [(5, .int (nI (g + 1))), (6, .int ((-1))), (0, .ref (ad (48))), (1, .int (z0)), (2, .int (z1)), (3, .int (b)), (4, .int (v))]) C dX4_firstBest_57 hl (k0 := 6) rfl (nI_1 _) (by decide) rfl (fun ls hl => ?_)
            refine j_goto (tgt := 9) C dX4_firstBest_60 (by decide) ?_
            exact ih_loop (g + 1) (b) (v) (by omega) (by rw [fbL_n (by rw [er9, ← hv]; assumption)]; exact hb) (by rw [fbL_n (by rw [er9, ← hv]; assumption)]; exact hv) (by omega) ls (lv_sub hl [2, 3, 4, 5, 6, 0] rfl)
          · have n_6_ := Int32.not_le.mp c_6_
            refine j_iload C dX4_firstBest_50 (lv_at hl 6 rfl) ?_
            refine j_istore_n (lv2 := [(3, .int (nI g)), (6, .int ((-1))), (0, .ref (ad (48))), (1, .int (z0)), (2, .int (z1)), (4, .int (v)), (5, .int (nI g))]) C dX4_firstBest_52 rfl hl (by decide) rfl (fun ls hl => ?_)
            refine j_iload C dX4_firstBest_53 (lv_at hl 1 rfl) ?_
            refine j_istore (lv2 := [(4, .int ((-1))), (3, .int (nI g)), (6, .int ((-1))), (0, .ref (ad (48))), (1, .int (z0)), (2, .int (z1)), (5, .int (nI g))]) C dX4_firstBest_55 hl (by decide) rfl (fun ls hl => ?_)
            refine j_iinc (v := nI (g + 1)) (lv2 := [(5, .int (nI (g + 1))), (4, .int ((-1))), (3, .int (nI g)), (6, .int ((-1))), (0, .ref (ad (48))), (1, .int (z0)), (2, .int (z1))]) C dX4_firstBest_57 hl (k0 := 6) rfl (nI_1 _) (by decide) rfl (fun ls hl => ?_)
            refine j_goto (tgt := 9) C dX4_firstBest_60 (by decide) ?_
            exact ih_loop (g + 1) (nI g) ((-1)) (by omega) (by rw [fbL_y (by rw [er9, ← hv]; assumption)]) (by rw [fbL_y (by rw [er9, ← hv]; assumption)]; exact er9.symm) (by omega) ls (lv_sub hl [4, 5, 6, 2, 1, 0] rfl)
        · skip
          have ef9 := Decidable.not_not.mp (mt bI_0.mpr (h_4_ ▸ c_5_))
          refine j_aload_n C dX4_firstBest_29 rfl (lv_at hl 0 rfl) ?_
          refine j_iload_n C dX4_firstBest_30 rfl (lv_at hl 1 rfl) ?_
          refine j_iload_n C dX4_firstBest_31 rfl (lv_at hl 2 rfl) ?_
          refine j_iload C dX4_firstBest_32 (lv_at hl 5 rfl) ?_
          refine j_callV (k := 48) C [.int (z0), .int (z1), .int (nI g)] [] (k_X4_worthWith l ad tk nt V (z0) (z1) (nI g) tn hTn t5 t k9 e0 e1 ht hk9 (Or.inr ⟨g, by omega, rfl⟩)) v_RX4_53 (xl (by decide)) (rfl) rfl ⟨rfl, rfl, Nat.le_of_ble_eq_true rfl, Nat.le_of_ble_eq_true rfl⟩ rfl hl.1 rfl (Nat.le_of_ble_eq_true rfl) ⟨Nat.le_of_ble_eq_true rfl, Nat.le_of_ble_eq_true rfl⟩ dX4_firstBest_34 (kI fun x_7_ U7 h_7_ => ?_)
          obtain ⟨eU7, h_7_⟩ := h_7_
          have eU7 := eU7.symm
          subst eU7
          have er9 : fbR V tn t k9 w g = x_7_ := (if_pos ef9).trans h_7_.symm
          refine j_goto (tgt := 41) C dX4_firstBest_37 (by decide) ?_
          refine j_istore (lv2 := [(6, .int (x_7_)), (0, .ref (ad (48))), (1, .int (z0)), (2, .int (z1)), (3, .int (b)), (4, .int (v)), (5, .int (nI g))]) C dX4_firstBest_41 hl (by decide) rfl (fun ls hl => ?_)
          refine j_iload C dX4_firstBest_43 (lv_at hl 0 rfl) ?_
          refine j_iload C dX4_firstBest_45 (lv_at hl 5 rfl) ?_
          refine j_icmp_le (tgt := 57) C dX4_firstBest_47 (by decide) (fun c_8_ => ?_) (fun c_8_ => ?_)
          · have n_8_ := Int32.not_lt.mpr c_8_
            refine j_iinc (v := nI (g + 1)) (lv2 := [(5, .int (nI (g + 1))), (6, .int (x_7_)), (0, .ref (ad (48))), (1, .int (z0)), (2, .int (z1)), (3, .int (b)), (4, .int (v))]) C dX4_firstBest_57 hl (k0 := 6) rfl (nI_1 _) (by decide) rfl (fun ls hl => ?_)
            refine j_goto (tgt := 9) C dX4_firstBest_60 (by decide) ?_
            exact ih_loop (g + 1) (b) (v) (by omega) (by rw [fbL_n (by rw [er9, ← hv]; assumption)]; exact hb) (by rw [fbL_n (by rw [er9, ← hv]; assumption)]; exact hv) (by omega) ls (lv_sub hl [2, 3, 4, 5, 6, 0] rfl)
          · have n_8_ := Int32.not_le.mp c_8_
            refine j_iload C dX4_firstBest_50 (lv_at hl 6 rfl) ?_
            refine j_istore_n (lv2 := [(3, .int (nI g)), (6, .int (x_7_)), (0, .ref (ad (48))), (1, .int (z0)), (2, .int (z1)), (4, .int (v)), (5, .int (nI g))]) C dX4_firstBest_52 rfl hl (by decide) rfl (fun ls hl => ?_)
            refine j_iload C dX4_firstBest_53 (lv_at hl 1 rfl) ?_
            refine j_istore (lv2 := [(4, .int (x_7_)), (3, .int (nI g)), (6, .int (x_7_)), (0, .ref (ad (48))), (1, .int (z0)), (2, .int (z1)), (5, .int (nI g))]) C dX4_firstBest_55 hl (by decide) rfl (fun ls hl => ?_)
            refine j_iinc (v := nI (g + 1)) (lv2 := [(5, .int (nI (g + 1))), (4, .int (x_7_)), (3, .int (nI g)), (6, .int (x_7_)), (0, .ref (ad (48))), (1, .int (z0)), (2, .int (z1))]) C dX4_firstBest_57 hl (k0 := 6) rfl (nI_1 _) (by decide) rfl (fun ls hl => ?_)
            refine j_goto (tgt := 9) C dX4_firstBest_60 (by decide) ?_
            exact ih_loop (g + 1) (nI g) (x_7_) (by omega) (by rw [fbL_y (by rw [er9, ← hv]; assumption)]) (by rw [fbL_y (by rw [er9, ← hv]; assumption)]; exact er9.symm) (by omega) ls (lv_sub hl [4, 5, 6, 2, 1, 0] rfl)
  exact loop (gn + 1) 0 (-9) (-1) (by omega) rfl rfl (by omega) ls (lv_sub hl [3, 4, 5, 2, 1, 0] rfl)
