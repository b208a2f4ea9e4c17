abbrev rm_X11_hurl : Room := { frames := 3, cells := 0, slots := 0, locals := 67 }
set_option maxHeartbeats 4000000 in
set_option maxRecDepth 100000 in
theorem k_X11_hurl (l : Launch) (ad tk : Nat → Nat) (nt : Nat) (V : Vt) (ng : Nat) (rr : Nat → Nat) (c_0_ : Nat) (hX : XI tk nt V ng rr c_0_) (z0 z1 : Int32) : Ct l yX11_hurl cX11_hurl 6 (some .int) rm_X11_hurl (xS ad tk nt) V [.ref (ad (55)), .int (z0), .int (z1)] (rI fun x V2 => (V2 = if ¬ z0 < 0 ∧ z0 < nI nt then (if ¬ z1 < 0 ∧ z1 < nI ng then (if (rr z1.toNatClampNeg) < 8 then up2 (up2 (up2 V ((0 + 2 + 3 * z1.toNatClampNeg) + 1) (rr z1.toNatClampNeg) z0) ((0 + 2 + 3 * z1.toNatClampNeg) + 2) (rr z1.toNatClampNeg) (near (rch (kdI (tk z0.toNatClampNeg)) (V (56 + z0.toNatClampNeg) 1)) (V (0 + 2 + 3 * z1.toNatClampNeg) 0) (V (0 + 2 + 3 * z1.toNatClampNeg) 1) (V 0 0))) (0 + 2 + 3 * z1.toNatClampNeg) 2 (nI ((rr z1.toNatClampNeg) + 1)) else V) else V) else V) ∧ x = if ¬ z0 < 0 ∧ z0 < nI nt then (if ¬ z1 < 0 ∧ z1 < nI ng then (if (rr z1.toNatClampNeg) < 8 then near (rch (kdI (tk z0.toNatClampNeg)) (V (56 + z0.toNatClampNeg) 1)) (V (0 + 2 + 3 * z1.toNatClampNeg) 0) (V (0 + 2 + 3 * z1.toNatClampNeg) 1) (V 0 0) else -4) else -1) else -1) := by
  refine Ct_of (by decide) (Nat.le_of_ble_eq_true rfl) ?_
  intro p e s m below meth c A D cy ls C hl
  have hl : lv_has ls 6 [(0, .ref (ad (55))), (1, .int (z0)), (2, .int (z1))] := hl
  have ng4 := hX.1.2.1
  have nt5 := hX.2.2.1
  refine j_aload_n C dX11_hurl_0 rfl (lv_at hl 0 rfl) ?_
  refine j_iload_n C dX11_hurl_1 rfl (lv_at hl 1 rfl) ?_
  refine j_callV (k := 55) C [.int (z0)] [] (k_X11_throwerOf l ad tk nt V hX.2.1 hX.2.2.1 (z0)) v_RX11_124 (xl (by decide)) (rfl) rfl ⟨rfl, rfl, Nat.le_of_ble_eq_true rfl, Nat.le_of_ble_eq_true rfl⟩ rfl hl.1 rfl (Nat.le_of_ble_eq_true rfl) ⟨Nat.le_of_ble_eq_true rfl, Nat.le_of_ble_eq_true rfl⟩ dX11_hurl_2 (kA fun x_1_ U1 h_1_ => ?_)
  obtain ⟨eU1, h_1_⟩ := h_1_
  have eU1 := eU1.symm
  subst eU1
  rcases h_1_ with ⟨j_1_, hj1, ej1, ev1⟩ | ⟨ho1, ev1⟩
  · subst ev1
    refine j_astore_n (lv2 := [(3, .ref (ad (56 + j_1_))), (0, .ref (ad (55))), (1, .int (z0)), (2, .int (z1))]) C dX11_hurl_5 rfl hl (by decide) rfl (fun ls hl => ?_)
    refine j_aload_n C dX11_hurl_6 rfl (lv_at hl 1 rfl) ?_
    refine j_getR (k := 55) (k2 := 0) C (f_RX11_12_11) (xl (by decide)) (rfl) (rfl) dX11_hurl_7 ?_
    refine j_iload_n C dX11_hurl_10 rfl (lv_at hl 3 rfl) ?_
    refine j_callV (k := 0) C [.int (z1)] [] (k_X0_girlAt l ad tk nt V 0 (Or.inl rfl) ng hX.1.1 hX.1.2.1 (z1)) v_RX11_99 (xl (xC (tk := tk) (nt := nt) (k := 0) (Or.inl rfl)).1.1) ((xC (tk := tk) (nt := nt) (k := 0) (Or.inl rfl)).2.1) rfl ⟨rfl, rfl, Nat.le_of_ble_eq_true rfl, Nat.le_of_ble_eq_true rfl⟩ rfl hl.1 rfl (Nat.le_of_ble_eq_true rfl) ⟨Nat.le_of_ble_eq_true rfl, Nat.le_of_ble_eq_true rfl⟩ dX11_hurl_11 (kA fun x_2_ U2 h_2_ => ?_)
    obtain ⟨eU2, h_2_⟩ := h_2_
    have eU2 := eU2.symm
    subst eU2
    rcases h_2_ with ⟨j_2_, hj2, ej2, ev2⟩ | ⟨ho2, ev2⟩
    · subst ev2
      refine j_astore (lv2 := [(4, .ref (ad (0 + 2 + 3 * j_2_))), (3, .ref (ad (56 + j_1_))), (0, .ref (ad (55))), (1, .int (z0)), (2, .int (z1))]) C dX11_hurl_14 hl (by decide) rfl (fun ls hl => ?_)
      refine j_aload_n C dX11_hurl_16 rfl (lv_at hl 1 rfl) ?_
      refine j_ifnull C dX11_hurl_17 ?_
      refine j_aload C dX11_hurl_20 (lv_at hl 0 rfl) ?_
      refine j_ifnonnull (tgt := 27) C dX11_hurl_22 (by decide) ?_
      refine j_aload C dX11_hurl_27 (lv_at hl 0 rfl) ?_
      refine j_callV (k := 0 + 2 + 3 * j_2_) C [] [] (k_X2_isFull l ad tk nt V (0 + 2 + 3 * j_2_) (xCg (nt := nt) (Or.inl rfl) (by omega : j_2_ < 4)).1  ) v_RX11_154 (xl (xG (tk := tk) (nt := nt) (xCg (nt := nt) (Or.inl rfl) (by omega : j_2_ < 4)).1).1.1) ((xG (tk := tk) (nt := nt) (xCg (nt := nt) (Or.inl rfl) (by omega : j_2_ < 4)).1).2.1) rfl ⟨rfl, rfl, Nat.le_of_ble_eq_true rfl, Nat.le_of_ble_eq_true rfl⟩ rfl hl.1 rfl (Nat.le_of_ble_eq_true rfl) ⟨Nat.le_of_ble_eq_true rfl, Nat.le_of_ble_eq_true rfl⟩ dX11_hurl_29 (kI fun x_3_ U3 h_3_ => ?_)
      obtain ⟨eU3, h_3_⟩ := h_3_
      have eU3 := eU3.symm
      subst eU3
      refine j_if_eq (tgt := 38) C dX11_hurl_32 (by decide) (fun c_4_ => ?_) (fun c_4_ => ?_)
      · skip
        refine j_aload C dX11_hurl_38 (lv_at hl 0 rfl) ?_
        refine j_aload_n C dX11_hurl_40 rfl (lv_at hl 1 rfl) ?_
        refine j_callT (k := 56 + j_1_) C [] [.ref (ad (0 + 2 + 3 * j_2_))] (k_X6_reach l ad tk nt V j_1_ hj1 (XI_T hX hj1) ) v_RX11_134 o_RX11_134_3 o_RX11_134_8 rfl (xt hj1) (xT (XI_T hX hj1)) ⟨rfl, rfl, Nat.le_of_ble_eq_true rfl, Nat.le_of_ble_eq_true rfl⟩ rfl hl.1 rfl (Nat.le_of_ble_eq_true rfl) ⟨Nat.le_of_ble_eq_true rfl, Nat.le_of_ble_eq_true rfl⟩ dX11_hurl_41 (kI fun x_5_ U5 h_5_ => ?_)
        obtain ⟨eU5, h_5_⟩ := h_5_
        have eU5 := eU5.symm
        subst eU5
        refine j_aload_n C dX11_hurl_44 rfl (lv_at hl 2 rfl) ?_
        refine j_getR (k := 55) (k2 := 0) C (f_RX11_12_11) (xl (by decide)) (rfl) (rfl) dX11_hurl_45 ?_
        refine j_getI (k := 0) C (f_RX11_147_0) (xl (xC (tk := tk) (nt := nt) (k := 0) (Or.inl rfl)).1.1) ((xC (tk := tk) (nt := nt) (k := 0) (Or.inl rfl)).2.1) dX11_hurl_48 ?_
        refine j_callV (k := 0 + 2 + 3 * j_2_) C [.int (x_5_), .int (V 0 0)] [] (k_X2_nearness l ad tk nt V (0 + 2 + 3 * j_2_) (xCg (nt := nt) (Or.inl rfl) (by omega : j_2_ < 4)).1 (x_5_) (V 0 0) ) v_RX11_150 (xl (xG (tk := tk) (nt := nt) (xCg (nt := nt) (Or.inl rfl) (by omega : j_2_ < 4)).1).1.1) ((xG (tk := tk) (nt := nt) (xCg (nt := nt) (Or.inl rfl) (by omega : j_2_ < 4)).1).2.1) rfl ⟨rfl, rfl, Nat.le_of_ble_eq_true rfl, Nat.le_of_ble_eq_true rfl⟩ rfl hl.1 rfl (Nat.le_of_ble_eq_true rfl) ⟨Nat.le_of_ble_eq_true rfl, Nat.le_of_ble_eq_true rfl⟩ dX11_hurl_51 (kI fun x_6_ U6 h_6_ => ?_)
        obtain ⟨eU6, h_6_⟩ := h_6_
        have eU6 := eU6.symm
        subst eU6
        refine j_istore (lv2 := [(5, .int (x_6_)), (4, .ref (ad (0 + 2 + 3 * j_2_))), (3, .ref (ad (56 + j_1_))), (0, .ref (ad (55))), (1, .int (z0)), (2, .int (z1))]) C dX11_hurl_54 hl (by decide) rfl (fun ls hl => ?_)
        refine j_aload C dX11_hurl_56 (lv_at hl 1 rfl) ?_
        refine j_iload_n C dX11_hurl_58 rfl (lv_at hl 4 rfl) ?_
        refine j_iload C dX11_hurl_59 (lv_at hl 0 rfl) ?_
        refine j_callV (k := 0 + 2 + 3 * j_2_) C [.int (z0), .int (x_6_)] [] (k_X2_lay l ad tk nt V (0 + 2 + 3 * j_2_) (xCg (nt := nt) (Or.inl rfl) (by omega : j_2_ < 4)).1 (rr j_2_) (hX.1.2.2 j_2_ hj2).1 (full_no (hX.1.2.2 j_2_ hj2).1 (hX.1.2.2 j_2_ hj2).2 h_3_ c_4_) (z0) (x_6_)) v_RX11_158 (xl (xG (tk := tk) (nt := nt) (xCg (nt := nt) (Or.inl rfl) (by omega : j_2_ < 4)).1).1.1) ((xG (tk := tk) (nt := nt) (xCg (nt := nt) (Or.inl rfl) (by omega : j_2_ < 4)).1).2.1) rfl ⟨rfl, rfl, Nat.le_of_ble_eq_true rfl, Nat.le_of_ble_eq_true rfl⟩ rfl hl.1 rfl (Nat.le_of_ble_eq_true rfl) ⟨Nat.le_of_ble_eq_true rfl, Nat.le_of_ble_eq_true rfl⟩ dX11_hurl_61 (kU fun U7 h_7_ => ?_)
        refine j_iload C dX11_hurl_64 (lv_at hl 0 rfl) ?_
        refine j_iret C ⟨rfl, _, rfl, ?_⟩ dX11_hurl_66
        obtain ⟨hin1, hcl1⟩ := inz ej1 hj1 (by omega)
        obtain ⟨hin2, hcl2⟩ := inz ej2 hj2 (by omega)
        have e8 := full_no (hX.1.2.2 j_2_ hj2).1 (hX.1.2.2 j_2_ hj2).2 h_3_ c_4_
        rw [h_5_] at h_6_
        rw [h_6_] at h_7_
        refine ⟨?_, ?_⟩
        · simp only [if_pos hin1, hcl1, if_pos hin2, hcl2, if_pos e8]
          exact h_7_
        · simp only [if_pos hin1, hcl1, if_pos hin2, hcl2, if_pos e8]
          exact h_6_
      · skip
        refine j_bipush (v := (-4)) C dX11_hurl_35 (by decide) ?_
        refine j_iret C ⟨rfl, _, rfl, ?_⟩ dX11_hurl_37
        obtain ⟨hin1, hcl1⟩ := inz ej1 hj1 (by omega)
        obtain ⟨hin2, hcl2⟩ := inz ej2 hj2 (by omega)
        have e8 := full_yes (hX.1.2.2 j_2_ hj2).1 (hX.1.2.2 j_2_ hj2).2 h_3_ c_4_
        have n_8_ : ¬ rr j_2_ < 8 := by omega
        refine ⟨?_, ?_⟩ <;> simp only [if_pos hin1, hcl1, if_pos hin2, hcl2, if_neg n_8_]
    · subst ev2
      refine j_astoreN (lv2 := [(4, .null), (3, .ref (ad (56 + j_1_))), (0, .ref (ad (55))), (1, .int (z0)), (2, .int (z1))]) C dX11_hurl_14 hl (by decide) rfl (fun ls hl => ?_)
      refine j_aload_n C dX11_hurl_16 rfl (lv_at hl 1 rfl) ?_
      refine j_ifnull C dX11_hurl_17 ?_
      refine j_aloadN C dX11_hurl_20 (lv_at hl 0 rfl) ?_
      refine j_ifnonnullN C dX11_hurl_22 ?_
      refine j_iconst (v := (-1)) C dX11_hurl_25 (by decide) ?_
      refine j_iret C ⟨rfl, _, rfl, ?_⟩ dX11_hurl_26
      have hot2 := outR ho2
      obtain ⟨hin1, hcl1⟩ := inz ej1 hj1 (by omega)
      refine ⟨?_, ?_⟩ <;> simp only [if_neg hot2, if_pos hin1, hcl1]
  · subst ev1
    refine j_astore_nN (lv2 := [(3, .null), (0, .ref (ad (55))), (1, .int (z0)), (2, .int (z1))]) C dX11_hurl_5 rfl hl (by decide) rfl (fun ls hl => ?_)
    refine j_aload_n C dX11_hurl_6 rfl (lv_at hl 1 rfl) ?_
    refine j_getR (k := 55) (k2 := 0) C (f_RX11_12_11) (xl (by decide)) (rfl) (rfl) dX11_hurl_7 ?_
    refine j_iload_n C dX11_hurl_10 rfl (lv_at hl 3 rfl) ?_
    refine j_callV (k := 0) C [.int (z1)] [] (k_X0_girlAt l ad tk nt V 0 (Or.inl rfl) ng hX.1.1 hX.1.2.1 (z1)) v_RX11_99 (xl (xC (tk := tk) (nt := nt) (k := 0) (Or.inl rfl)).1.1) ((xC (tk := tk) (nt := nt) (k := 0) (Or.inl rfl)).2.1) rfl ⟨rfl, rfl, Nat.le_of_ble_eq_true rfl, Nat.le_of_ble_eq_true rfl⟩ rfl hl.1 rfl (Nat.le_of_ble_eq_true rfl) ⟨Nat.le_of_ble_eq_true rfl, Nat.le_of_ble_eq_true rfl⟩ dX11_hurl_11 (kA fun x_8_ U8 h_8_ => ?_)
    obtain ⟨eU8, h_8_⟩ := h_8_
    have eU8 := eU8.symm
    subst eU8
    rcases h_8_ with ⟨j_8_, hj8, ej8, ev8⟩ | ⟨ho8, ev8⟩
    · subst ev8
      refine j_astore (lv2 := [(4, .ref (ad (0 + 2 + 3 * j_8_))), (3, .null), (0, .ref (ad (55))), (1, .int (z0)), (2, .int (z1))]) C dX11_hurl_14 hl (by decide) rfl (fun ls hl => ?_)
      refine j_aload_nN C dX11_hurl_16 rfl (lv_at hl 1 rfl) ?_
      refine j_ifnullN (tgt := 25) C dX11_hurl_17 (by decide) ?_
      refine j_iconst (v := (-1)) C dX11_hurl_25 (by decide) ?_
      refine j_iret C ⟨rfl, _, rfl, ?_⟩ dX11_hurl_26
      have hot1 := outR ho1
      obtain ⟨hin8, hcl8⟩ := inz ej8 hj8 (by omega)
      refine ⟨?_, ?_⟩ <;> simp only [if_neg hot1, if_pos hin8, hcl8]
    · subst ev8
      refine j_astoreN (lv2 := [(4, .null), (3, .null), (0, .ref (ad (55))), (1, .int (z0)), (2, .int (z1))]) C dX11_hurl_14 hl (by decide) rfl (fun ls hl => ?_)
      refine j_aload_nN C dX11_hurl_16 rfl (lv_at hl 1 rfl) ?_
      refine j_ifnullN (tgt := 25) C dX11_hurl_17 (by decide) ?_
      refine j_iconst (v := (-1)) C dX11_hurl_25 (by decide) ?_
      refine j_iret C ⟨rfl, _, rfl, ?_⟩ dX11_hurl_26
      have hot1 := outR ho1
      have hot8 := outR ho8
      refine ⟨?_, ?_⟩ <;> simp only [if_neg hot1, if_neg hot8]
abbrev rm_X11_lift : Room := { frames := 2, cells := 0, slots := 0, locals := 42 }
set_option maxHeartbeats 4000000 in
set_option maxRecDepth 100000 in
theorem k_X11_lift (l : Launch) (ad tk : Nat → Nat) (nt : Nat) (V : Vt) (ng : Nat) (rr : Nat → Nat) (c_0_ : Nat) (hX : XI tk nt V ng rr c_0_) (z0 : Int32) : Ct l yX11_lift cX11_lift 3 (some .int) rm_X11_lift (xS ad tk nt) V [.ref (ad (55)), .int (z0)] (rI fun x V2 => (V2 = if ¬ z0 < 0 ∧ z0 < nI ng then (if (rr z0.toNatClampNeg) = 0 then V else up2 V (0 + 2 + 3 * z0.toNatClampNeg) 2 (nI ((rr z0.toNatClampNeg) - 1))) else V) ∧ x = if ¬ z0 < 0 ∧ z0 < nI ng then (if (rr z0.toNatClampNeg) = 0 then -3 else V ((0 + 2 + 3 * z0.toNatClampNeg) + 1) ((rr z0.toNatClampNeg) - 1)) else -1) := by
  refine Ct_of (by decide) (Nat.le_of_ble_eq_true rfl) ?_
  intro p e s m below meth c A D cy ls C hl
  have hl : lv_has ls 3 [(0, .ref (ad (55))), (1, .int (z0))] := hl
  have ng4 := hX.1.2.1
  have nt5 := hX.2.2.1
  refine j_aload_n C dX11_lift_0 rfl (lv_at hl 0 rfl) ?_
  refine j_getR (k := 55) (k2 := 0) C (f_RX11_12_11) (xl (by decide)) (rfl) (rfl) dX11_lift_1 ?_
  refine j_iload_n C dX11_lift_4 rfl (lv_at hl 1 rfl) ?_
  refine j_callV (k := 0) C [.int (z0)] [] (k_X0_girlAt l ad tk nt V 0 (Or.inl rfl) ng hX.1.1 hX.1.2.1 (z0)) v_RX11_99 (xl (xC (tk := tk) (nt := nt) (k := 0) (Or.inl rfl)).1.1) ((xC (tk := tk) (nt := nt) (k := 0) (Or.inl rfl)).2.1) rfl ⟨rfl, rfl, Nat.le_of_ble_eq_true rfl, Nat.le_of_ble_eq_true rfl⟩ rfl hl.1 rfl (Nat.le_of_ble_eq_true rfl) ⟨Nat.le_of_ble_eq_true rfl, Nat.le_of_ble_eq_true rfl⟩ dX11_lift_5 (kA fun x_1_ U1 h_1_ => ?_)
  obtain ⟨eU1, h_1_⟩ := h_1_
  have eU1 := eU1.symm
  subst eU1
  rcases h_1_ with ⟨j_1_, hj1, ej1, ev1⟩ | ⟨ho1, ev1⟩
  · subst ev1
    refine j_astore_n (lv2 := [(2, .ref (ad (0 + 2 + 3 * j_1_))), (0, .ref (ad (55))), (1, .int (z0))]) C dX11_lift_8 rfl hl (by decide) rfl (fun ls hl => ?_)
    refine j_aload_n C dX11_lift_9 rfl (lv_at hl 0 rfl) ?_
    refine j_ifnonnull (tgt := 15) C dX11_lift_10 (by decide) ?_
    refine j_aload_n C dX11_lift_15 rfl (lv_at hl 0 rfl) ?_
    refine j_getI (k := 0 + 2 + 3 * j_1_) C (f_RX11_111_2) (xl (xG (tk := tk) (nt := nt) (xCg (nt := nt) (Or.inl rfl) (by omega : j_1_ < 4)).1).1.1) ((xG (tk := tk) (nt := nt) (xCg (nt := nt) (Or.inl rfl) (by omega : j_1_ < 4)).1).2.1) dX11_lift_16 ?_
    refine j_if_ne (tgt := 25) C dX11_lift_19 (by decide) (fun c_2_ => ?_) (fun c_2_ => ?_)
    · skip
      have nz8 : ¬ rr j_1_ = 0 := fun q => c_2_ (by rw [(hX.1.2.2 j_1_ hj1).1, q]; rfl)
      obtain ⟨r8, er8⟩ : ∃ r8, rr j_1_ = r8 + 1 := ⟨rr j_1_ - 1, by omega⟩
      refine j_aload_n C dX11_lift_25 rfl (lv_at hl 0 rfl) ?_
      refine j_callV (k := 0 + 2 + 3 * j_1_) C [] [] (k_X2_takeLast l ad tk nt V (0 + 2 + 3 * j_1_) (xCg (nt := nt) (Or.inl rfl) (by omega : j_1_ < 4)).1 r8 (by rw [(hX.1.2.2 j_1_ hj1).1, er8]) (by have := (hX.1.2.2 j_1_ hj1).2; omega) ) v_RX11_162 (xl (xG (tk := tk) (nt := nt) (xCg (nt := nt) (Or.inl rfl) (by omega : j_1_ < 4)).1).1.1) ((xG (tk := tk) (nt := nt) (xCg (nt := nt) (Or.inl rfl) (by omega : j_1_ < 4)).1).2.1) rfl ⟨rfl, rfl, Nat.le_of_ble_eq_true rfl, Nat.le_of_ble_eq_true rfl⟩ rfl hl.1 rfl (Nat.le_of_ble_eq_true rfl) ⟨Nat.le_of_ble_eq_true rfl, Nat.le_of_ble_eq_true rfl⟩ dX11_lift_26 (kI fun x_3_ U3 h_3_ => ?_)
      obtain ⟨eU3, h_3_⟩ := h_3_
      refine j_iret C ⟨rfl, _, rfl, ?_⟩ dX11_lift_29
      obtain ⟨hin1, hcl1⟩ := inz ej1 hj1 (by omega)
      refine ⟨?_, ?_⟩
      · simp only [if_pos hin1, hcl1, if_neg nz8, er8, Nat.add_sub_cancel]
        exact eU3
      · simp only [if_pos hin1, hcl1, if_neg nz8, er8, Nat.add_sub_cancel]
        exact h_3_
    · skip
      refine j_bipush (v := (-3)) C dX11_lift_22 (by decide) ?_
      refine j_iret C ⟨rfl, _, rfl, ?_⟩ dX11_lift_24
      obtain ⟨hin1, hcl1⟩ := inz ej1 hj1 (by omega)
      have e8 : rr j_1_ = 0 := nI_inj (by have := (hX.1.2.2 j_1_ hj1).2; omega) (show 0 < 2 ^ 31 by decide) ((hX.1.2.2 j_1_ hj1).1.symm.trans c_2_)
      refine ⟨?_, ?_⟩ <;> simp only [if_pos hin1, hcl1, if_pos e8]
  · subst ev1
    refine j_astore_nN (lv2 := [(2, .null), (0, .ref (ad (55))), (1, .int (z0))]) C dX11_lift_8 rfl hl (by decide) rfl (fun ls hl => ?_)
    refine j_aload_nN C dX11_lift_9 rfl (lv_at hl 0 rfl) ?_
    refine j_ifnonnullN C dX11_lift_10 ?_
    refine j_iconst (v := (-1)) C dX11_lift_13 (by decide) ?_
    refine j_iret C ⟨rfl, _, rfl, ?_⟩ dX11_lift_14
    have hot1 := outR ho1
    refine ⟨?_, ?_⟩ <;> rw [if_neg hot1]
abbrev rm_X11_reading : Room := { frames := 1, cells := 0, slots := 0, locals := 24 }
set_option maxHeartbeats 4000000 in
set_option maxRecDepth 100000 in
theorem k_X11_reading (l : Launch) (ad tk : Nat → Nat) (nt : Nat) (V : Vt) (ng : Nat) (rr : Nat → Nat) (c_0_ : Nat) (hX : XI tk nt V ng rr c_0_) (z0 z1 z2 : Int32) : Ct l yX11_reading cX11_reading 4 (some .int) rm_X11_reading (xS ad tk nt) V [.ref (ad (55)), .int (z0), .int (z1), .int (z2)] (rI fun x V2 => (V2 = if ¬ z0 < 0 ∧ z0 < nI nt then (if ¬ z1 < 0 ∧ z1 < nI ng then (if 0 ≤ z2 ∧ z2 ≤ 20 then (if c_0_ < 8 then up2 (up2 (up2 (up2 V 30 c_0_ z0) 31 c_0_ z1) 32 c_0_ z2) 29 0 (nI (c_0_ + 1)) else V) else V) else V) else V) ∧ x = if ¬ z0 < 0 ∧ z0 < nI nt then (if ¬ z1 < 0 ∧ z1 < nI ng then (if 0 ≤ z2 ∧ z2 ≤ 20 then (if c_0_ < 8 then nI c_0_ else -4) else -2) else -1) else -1) := by
  refine Ct_of (by decide) (Nat.le_of_ble_eq_true rfl) ?_
  intro p e s m below meth c A D cy ls C hl
  have hl : lv_has ls 4 [(0, .ref (ad (55))), (1, .int (z0)), (2, .int (z1)), (3, .int (z2))] := hl
  have ng4 := hX.1.2.1
  have nt5 := hX.2.2.1
  refine j_aload_n C dX11_reading_0 rfl (lv_at hl 0 rfl) ?_
  refine j_iload_n C dX11_reading_1 rfl (lv_at hl 1 rfl) ?_
  refine j_callV (k := 55) C [.int (z0)] [] (k_X11_throwerOf l ad tk nt V hX.2.1 hX.2.2.1 (z0)) v_RX11_124 (xl (by decide)) (rfl) rfl ⟨rfl, rfl, Nat.le_of_ble_eq_true rfl, Nat.le_of_ble_eq_true rfl⟩ rfl hl.1 rfl (Nat.le_of_ble_eq_true rfl) ⟨Nat.le_of_ble_eq_true rfl, Nat.le_of_ble_eq_true rfl⟩ dX11_reading_2 (kA fun x_1_ U1 h_1_ => ?_)
  obtain ⟨eU1, h_1_⟩ := h_1_
  have eU1 := eU1.symm
  subst eU1
  rcases h_1_ with ⟨j_1_, hj1, ej1, ev1⟩ | ⟨ho1, ev1⟩
  · subst ev1
    refine j_ifnull C dX11_reading_5 ?_
    refine j_aload_n C dX11_reading_8 rfl (lv_at hl 0 rfl) ?_
    refine j_getR (k := 55) (k2 := 0) C (f_RX11_12_11) (xl (by decide)) (rfl) (rfl) dX11_reading_9 ?_
    refine j_iload_n C dX11_reading_12 rfl (lv_at hl 2 rfl) ?_
    refine j_callV (k := 0) C [.int (z1)] [] (k_X0_girlAt l ad tk nt V 0 (Or.inl rfl) ng hX.1.1 hX.1.2.1 (z1)) v_RX11_99 (xl (xC (tk := tk) (nt := nt) (k := 0) (Or.inl rfl)).1.1) ((xC (tk := tk) (nt := nt) (k := 0) (Or.inl rfl)).2.1) rfl ⟨rfl, rfl, Nat.le_of_ble_eq_true rfl, Nat.le_of_ble_eq_true rfl⟩ rfl hl.1 rfl (Nat.le_of_ble_eq_true rfl) ⟨Nat.le_of_ble_eq_true rfl, Nat.le_of_ble_eq_true rfl⟩ dX11_reading_13 (kA fun x_2_ U2 h_2_ => ?_)
    obtain ⟨eU2, h_2_⟩ := h_2_
    have eU2 := eU2.symm
    subst eU2
    rcases h_2_ with ⟨j_2_, hj2, ej2, ev2⟩ | ⟨ho2, ev2⟩
    · subst ev2
      refine j_ifnonnull (tgt := 21) C dX11_reading_16 (by decide) ?_
      refine j_iload_n C dX11_reading_21 rfl (lv_at hl 3 rfl) ?_
      refine j_iconst (v := 0) C dX11_reading_22 (by decide) ?_
      refine j_bipush (v := 20) C dX11_reading_23 (by decide) ?_
      refine j_callS C [.int (z2), .int (0), .int (20)] [] (k_X11_isWithin l (xS ad tk nt) V (z2) (0) (20)) v_RX11_143 ⟨rfl, rfl, Nat.le_of_ble_eq_true rfl, Nat.le_of_ble_eq_true rfl⟩ rfl hl.1 rfl (Nat.le_of_ble_eq_true rfl) ⟨Nat.le_of_ble_eq_true rfl, Nat.le_of_ble_eq_true rfl⟩ dX11_reading_25 (kI fun x_3_ U3 h_3_ => ?_)
      obtain ⟨eU3, h_3_⟩ := h_3_
      have eU3 := eU3.symm
      subst eU3
      refine j_if_ne (tgt := 34) C dX11_reading_28 (by decide) (fun c_4_ => ?_) (fun c_4_ => ?_)
      · skip
        have b4 := Decidable.not_not.mp (mt bI_0.mpr (h_3_ ▸ c_4_))
        refine j_aload_n C dX11_reading_34 rfl (lv_at hl 0 rfl) ?_
        refine j_getR (k := 55) (k2 := 29) C (f_RX11_27_11) (xl (by decide)) (rfl) (rfl) dX11_reading_35 ?_
        refine j_callV (k := 29) C [] [] (k_X5_isFull l ad tk nt V  ) v_RX11_207 (xl (by decide)) (rfl) rfl ⟨rfl, rfl, Nat.le_of_ble_eq_true rfl, Nat.le_of_ble_eq_true rfl⟩ rfl hl.1 rfl (Nat.le_of_ble_eq_true rfl) ⟨Nat.le_of_ble_eq_true rfl, Nat.le_of_ble_eq_true rfl⟩ dX11_reading_38 (kI fun x_5_ U5 h_5_ => ?_)
        obtain ⟨eU5, h_5_⟩ := h_5_
        have eU5 := eU5.symm
        subst eU5
        refine j_if_eq (tgt := 47) C dX11_reading_41 (by decide) (fun c_6_ => ?_) (fun c_6_ => ?_)
        · skip
          have b6 := bI_0.mp (h_5_ ▸ c_6_)
          have hc8 : c_0_ < 8 := Nat.lt_of_not_le (fun q => b6 (by rw [hX.2.2.2.2.1]; exact nI_le (a := 8) q (by have := hX.2.2.2.2.2.1; omega)))
          refine j_aload_n C dX11_reading_47 rfl (lv_at hl 0 rfl) ?_
          refine j_getR (k := 55) (k2 := 29) C (f_RX11_27_11) (xl (by decide)) (rfl) (rfl) dX11_reading_48 ?_
          refine j_iload_n C dX11_reading_51 rfl (lv_at hl 1 rfl) ?_
          refine j_iload_n C dX11_reading_52 rfl (lv_at hl 2 rfl) ?_
          refine j_iload_n C dX11_reading_53 rfl (lv_at hl 3 rfl) ?_
          refine j_callV (k := 29) C [.int (z0), .int (z1), .int (z2)] [] (k_X5_take l ad tk nt V c_0_ hX.2.2.2.2.1 hc8 (z0) (z1) (z2)) v_RX11_208 (xl (by decide)) (rfl) rfl ⟨rfl, rfl, Nat.le_of_ble_eq_true rfl, Nat.le_of_ble_eq_true rfl⟩ rfl hl.1 rfl (Nat.le_of_ble_eq_true rfl) ⟨Nat.le_of_ble_eq_true rfl, Nat.le_of_ble_eq_true rfl⟩ dX11_reading_54 (kI fun x_7_ U7 h_7_ => ?_)
          obtain ⟨eU7, h_7_⟩ := h_7_
          refine j_iret C ⟨rfl, _, rfl, ?_⟩ dX11_reading_57
          obtain ⟨hin1, hcl1⟩ := inz ej1 hj1 (by omega)
          obtain ⟨hin2, hcl2⟩ := inz ej2 hj2 (by omega)
          refine ⟨?_, ?_⟩
          · simp only [if_pos hin1, if_pos hin2, if_pos b4, if_pos hc8]
            exact eU7
          · simp only [if_pos hin1, if_pos hin2, if_pos b4, if_pos hc8]
            exact h_7_
        · skip
          have b6 := Decidable.not_not.mp (mt bI_0.mpr (h_5_ ▸ c_6_))
          refine j_bipush (v := (-4)) C dX11_reading_44 (by decide) ?_
          refine j_iret C ⟨rfl, _, rfl, ?_⟩ dX11_reading_46
          obtain ⟨hin1, hcl1⟩ := inz ej1 hj1 (by omega)
          obtain ⟨hin2, hcl2⟩ := inz ej2 hj2 (by omega)
          have n_8_ : ¬ c_0_ < 8 := fun q => absurd (hX.2.2.2.2.1 ▸ b6) (nI_ge (b := 8) q (by decide))
          refine ⟨?_, ?_⟩ <;> simp only [if_pos hin1, if_pos hin2, if_pos b4, if_neg n_8_]
      · skip
        have b4 := bI_0.mp (h_3_ ▸ c_4_)
        refine j_bipush (v := (-2)) C dX11_reading_31 (by decide) ?_
        refine j_iret C ⟨rfl, _, rfl, ?_⟩ dX11_reading_33
        obtain ⟨hin1, hcl1⟩ := inz ej1 hj1 (by omega)
        obtain ⟨hin2, hcl2⟩ := inz ej2 hj2 (by omega)
        refine ⟨?_, ?_⟩ <;> simp only [if_pos hin1, if_pos hin2, if_neg b4]
    · subst ev2
      refine j_ifnonnullN C dX11_reading_16 ?_
      refine j_iconst (v := (-1)) C dX11_reading_19 (by decide) ?_
      refine j_iret C ⟨rfl, _, rfl, ?_⟩ dX11_reading_20
      obtain ⟨hin1, hcl1⟩ := inz ej1 hj1 (by omega)
      have hot2 := outR ho2
      refine ⟨?_, ?_⟩ <;> simp only [if_pos hin1, if_neg hot2]
  · subst ev1
    refine j_ifnullN (tgt := 19) C dX11_reading_5 (by decide) ?_
    refine j_iconst (v := (-1)) C dX11_reading_19 (by decide) ?_
    refine j_iret C ⟨rfl, _, rfl, ?_⟩ dX11_reading_20
    have hot1 := outR ho1
    refine ⟨?_, ?_⟩ <;> simp only [if_neg hot1]
