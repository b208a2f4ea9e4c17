abbrev rm_X11_copy : Room := { frames := 3, cells := 0, slots := 0, locals := 68 }
set_option maxHeartbeats 4000000 in
set_option maxRecDepth 100000 in
theorem k_X11_copy (l : Launch) (ad tk : Nat → Nat) (nt : Nat) (V : Vt) (ng : Nat) (rr : Nat → Nat) (c_0_ : Nat) (hX : XI tk nt V ng rr c_0_) (z0 z1 z2 z3 z4 : Int32) : Ct l yX11_copy cX11_copy 8 (some .int) rm_X11_copy (xS ad tk nt) V [.ref (ad (55)), .int (z0), .int (z1), .int (z2), .int (z3), .int (z4)] (rI fun x V2 => (V2 = if ¬ z0 < 0 ∧ z0 < nI 4 then (if ¬ z2 < 0 ∧ z2 < nI 4 then (if (up2 V 55 9 0) (34 + 2 * z0.toNatClampNeg) 0 = -1 then up2 (up2 V 55 9 0) 55 9 1 else (if (up2 V 55 9 0) (34 + 2 * z2.toNatClampNeg) 0 = -1 then up2 (up2 V 55 9 0) 55 9 1 else (if (up2 V 55 9 0) (34 + 2 * z0.toNatClampNeg) 0 = (up2 V 55 9 0) (34 + 2 * z2.toNatClampNeg) 0 then (if 0 ≤ z1 ∧ z1 ≤ (up2 V 55 9 0) (34 + 2 * z0.toNatClampNeg) 1 ∧ 0 ≤ z4 ∧ z4 ≤ (up2 V 55 9 0) (34 + 2 * z0.toNatClampNeg) 1 - z1 then (if 0 ≤ z3 ∧ z3 ≤ (up2 V 55 9 0) (34 + 2 * z2.toNatClampNeg) 1 ∧ 0 ≤ z4 ∧ z4 ≤ (up2 V 55 9 0) (34 + 2 * z2.toNatClampNeg) 1 - z3 then tkV (up2 V 55 9 0) ((34 + 2 * z2.toNatClampNeg) + 1) ((34 + 2 * z0.toNatClampNeg) + 1) ((up2 V 55 9 0) (34 + 2 * z2.toNatClampNeg) 0) z1.toNatClampNeg z3.toNatClampNeg 0 z4.toNatClampNeg else up2 (up2 V 55 9 0) 55 9 3) else up2 (up2 V 55 9 0) 55 9 3) else up2 (up2 V 55 9 0) 55 9 2))) else (up2 V 55 9 0)) else (up2 V 55 9 0)) ∧ x = if ¬ z0 < 0 ∧ z0 < nI 4 then (if ¬ z2 < 0 ∧ z2 < nI 4 then (if (up2 V 55 9 0) (34 + 2 * z0.toNatClampNeg) 0 = -1 then -11 else (if (up2 V 55 9 0) (34 + 2 * z2.toNatClampNeg) 0 = -1 then -11 else (if (up2 V 55 9 0) (34 + 2 * z0.toNatClampNeg) 0 = (up2 V 55 9 0) (34 + 2 * z2.toNatClampNeg) 0 then (if 0 ≤ z1 ∧ z1 ≤ (up2 V 55 9 0) (34 + 2 * z0.toNatClampNeg) 1 ∧ 0 ≤ z4 ∧ z4 ≤ (up2 V 55 9 0) (34 + 2 * z0.toNatClampNeg) 1 - z1 then (if 0 ≤ z3 ∧ z3 ≤ (up2 V 55 9 0) (34 + 2 * z2.toNatClampNeg) 1 ∧ 0 ≤ z4 ∧ z4 ≤ (up2 V 55 9 0) (34 + 2 * z2.toNatClampNeg) 1 - z3 then z4 else -13) else -13) else -12))) else -1) else -1) := by
  refine Ct_of (by decide) (Nat.le_of_ble_eq_true rfl) ?_
  intro p e s m below meth c A D cy ls C hl
  have hl : lv_has ls 8 [(0, .ref (ad (55))), (1, .int (z0)), (2, .int (z1)), (3, .int (z2)), (4, .int (z3)), (5, .int (z4))] := hl
  have ng4 := hX.1.2.1
  have nt5 := hX.2.2.1
  refine j_aload_n C dX11_copy_0 rfl (lv_at hl 0 rfl) ?_
  refine j_iconst (v := 0) C dX11_copy_1 (by decide) ?_
  refine j_putI (k := 55) C (f_RX11_66_11) p_11_9 (xl (by decide)) (rfl) dX11_copy_2 (fun V1 eV1 => ?_)
  have hX1 : XI tk nt V1 ng rr c_0_ := by rw [eV1]; exact XI_f hX
  refine j_aload_n C dX11_copy_5 rfl (lv_at hl 0 rfl) ?_
  refine j_iload_n C dX11_copy_6 rfl (lv_at hl 1 rfl) ?_
  refine j_callV (k := 55) C [.int (z0)] [] (k_X11_sheetOf l ad tk nt V1  (z0)) v_RX11_70 (xl (by decide)) (rfl) rfl ⟨rfl, rfl, Nat.le_of_ble_eq_true rfl, Nat.le_of_ble_eq_true rfl⟩ rfl hl.1 rfl (Nat.le_of_ble_eq_true rfl) ⟨Nat.le_of_ble_eq_true rfl, Nat.le_of_ble_eq_true rfl⟩ dX11_copy_7 (kA fun x_1_ U1 h_1_ => ?_)
  obtain ⟨eU1, h_1_⟩ := h_1_
  have eU1 := eU1.symm
  subst eU1
  rcases h_1_ with ⟨j_1_, hj1, ej1, ev1⟩ | ⟨ho1, ev1⟩
  · subst ev1
    obtain ⟨n_8_, hn8, en8⟩ := h60_n hX1 hj1
    refine j_astore (lv2 := [(6, .ref (ad (34 + 2 * j_1_))), (0, .ref (ad (55))), (1, .int (z0)), (2, .int (z1)), (3, .int (z2)), (4, .int (z3)), (5, .int (z4))]) C dX11_copy_10 hl (by decide) rfl (fun ls hl => ?_)
    refine j_aload_n C dX11_copy_12 rfl (lv_at hl 1 rfl) ?_
    refine j_iload_n C dX11_copy_13 rfl (lv_at hl 4 rfl) ?_
    refine j_callV (k := 55) C [.int (z2)] [] (k_X11_sheetOf l ad tk nt V1  (z2)) v_RX11_70 (xl (by decide)) (rfl) rfl ⟨rfl, rfl, Nat.le_of_ble_eq_true rfl, Nat.le_of_ble_eq_true rfl⟩ rfl hl.1 rfl (Nat.le_of_ble_eq_true rfl) ⟨Nat.le_of_ble_eq_true rfl, Nat.le_of_ble_eq_true rfl⟩ dX11_copy_14 (kA fun x_2_ U2 h_2_ => ?_)
    obtain ⟨eU2, h_2_⟩ := h_2_
    have eU2 := eU2.symm
    subst eU2
    rcases h_2_ with ⟨j_2_, hj2, ej2, ev2⟩ | ⟨ho2, ev2⟩
    · subst ev2
      obtain ⟨m8, hm8, em8⟩ := h60_n hX1 hj2
      refine j_astore (lv2 := [(7, .ref (ad (34 + 2 * j_2_))), (6, .ref (ad (34 + 2 * j_1_))), (0, .ref (ad (55))), (1, .int (z0)), (2, .int (z1)), (3, .int (z2)), (4, .int (z3)), (5, .int (z4))]) C dX11_copy_17 hl (by decide) rfl (fun ls hl => ?_)
      refine j_aload C dX11_copy_19 (lv_at hl 1 rfl) ?_
      refine j_ifnull C dX11_copy_21 ?_
      refine j_aload C dX11_copy_24 (lv_at hl 0 rfl) ?_
      refine j_ifnonnull (tgt := 31) C dX11_copy_26 (by decide) ?_
      refine j_aload C dX11_copy_31 (lv_at hl 1 rfl) ?_
      refine j_callV (k := 34 + 2 * j_1_) C [] [] (k_X7_hasNothing l ad tk nt V1 (34 + 2 * j_1_) (isH_j hj1)  ) v_RX11_230 (xl (xH (tk := tk) (nt := nt) (isH_j hj1)).1.1) ((xH (tk := tk) (nt := nt) (isH_j hj1)).2.1) rfl ⟨rfl, rfl, Nat.le_of_ble_eq_true rfl, Nat.le_of_ble_eq_true rfl⟩ rfl hl.1 rfl (Nat.le_of_ble_eq_true rfl) ⟨Nat.le_of_ble_eq_true rfl, Nat.le_of_ble_eq_true rfl⟩ dX11_copy_33 (kI fun x_3_ U3 h_3_ => ?_)
      obtain ⟨eU3, h_3_⟩ := h_3_
      have eU3 := eU3.symm
      subst eU3
      refine j_if_ne (tgt := 47) C dX11_copy_36 (by decide) (fun c_4_ => ?_) (fun c_4_ => ?_)
      · skip
        have b4 := Decidable.not_not.mp (mt bI_0.mpr (h_3_ ▸ c_4_))
        refine j_aload_n C dX11_copy_47 rfl (lv_at hl 2 rfl) ?_
        refine j_iconst (v := 1) C dX11_copy_48 (by decide) ?_
        refine j_callV (k := 55) C [.int (1)] [] (k_X11_comeTo l ad tk nt V1  (1)) v_RX11_86 (xl (by decide)) (rfl) rfl ⟨rfl, rfl, Nat.le_of_ble_eq_true rfl, Nat.le_of_ble_eq_true rfl⟩ rfl hl.1 rfl (Nat.le_of_ble_eq_true rfl) ⟨Nat.le_of_ble_eq_true rfl, Nat.le_of_ble_eq_true rfl⟩ dX11_copy_49 (kI fun x_5_ U5 h_5_ => ?_)
        obtain ⟨eU5, h_5_⟩ := h_5_
        refine j_iret C ⟨rfl, _, rfl, ?_⟩ dX11_copy_52
        simp only [← eV1]
        obtain ⟨hin1, hcl1⟩ := inz ej1 hj1 (by omega)
        obtain ⟨hin2, hcl2⟩ := inz ej2 hj2 (by omega)
        refine ⟨?_, ?_⟩
        · first | (simp only [if_pos hin1, hcl1, if_pos hin2, hcl2, if_pos b4]; done) | (simp only [if_pos hin1, hcl1, if_pos hin2, hcl2, if_pos b4]; exact eV1) | (simp only [if_pos hin1, hcl1, if_pos hin2, hcl2, if_pos b4]; rw [eV1]; done) | (simp only [if_pos hin1, hcl1, if_pos hin2, hcl2, if_pos b4]; exact eU5) | (simp only [if_pos hin1, hcl1, if_pos hin2, hcl2, if_pos b4]; rw [eU5]; done) | (simp only [if_pos hin1, hcl1, if_pos hin2, hcl2, if_pos b4]; exact h_5_) | (simp only [if_pos hin1, hcl1, if_pos hin2, hcl2, if_pos b4]; rw [h_5_]; done) | (simp only [if_pos hin1, hcl1, if_pos hin2, hcl2, if_pos b4]; rfl)
        · first | (simp only [if_pos hin1, hcl1, if_pos hin2, hcl2, if_pos b4]; done) | (simp only [if_pos hin1, hcl1, if_pos hin2, hcl2, if_pos b4]; exact h_3_) | (simp only [if_pos hin1, hcl1, if_pos hin2, hcl2, if_pos b4]; rw [h_3_]; done) | (simp only [if_pos hin1, hcl1, if_pos hin2, hcl2, if_pos b4]; exact h_5_) | (simp only [if_pos hin1, hcl1, if_pos hin2, hcl2, if_pos b4]; rw [h_5_]; done) | (simp only [if_pos hin1, hcl1, if_pos hin2, hcl2, if_pos b4]; rfl)
      · skip
        have b4 := bI_0.mp (h_3_ ▸ c_4_)
        refine j_aload C dX11_copy_39 (lv_at hl 0 rfl) ?_
        refine j_callV (k := 34 + 2 * j_2_) C [] [] (k_X7_hasNothing l ad tk nt V1 (34 + 2 * j_2_) (isH_j hj2)  ) v_RX11_230 (xl (xH (tk := tk) (nt := nt) (isH_j hj2)).1.1) ((xH (tk := tk) (nt := nt) (isH_j hj2)).2.1) rfl ⟨rfl, rfl, Nat.le_of_ble_eq_true rfl, Nat.le_of_ble_eq_true rfl⟩ rfl hl.1 rfl (Nat.le_of_ble_eq_true rfl) ⟨Nat.le_of_ble_eq_true rfl, Nat.le_of_ble_eq_true rfl⟩ dX11_copy_41 (kI fun x_6_ U6 h_6_ => ?_)
        obtain ⟨eU6, h_6_⟩ := h_6_
        have eU6 := eU6.symm
        subst eU6
        refine j_if_eq (tgt := 53) C dX11_copy_44 (by decide) (fun c_7_ => ?_) (fun c_7_ => ?_)
        · skip
          have b7 := bI_0.mp (h_6_ ▸ c_7_)
          refine j_aload C dX11_copy_53 (lv_at hl 1 rfl) ?_
          refine j_getI (k := 34 + 2 * j_1_) C (f_RX11_245_7) (xl (xH (tk := tk) (nt := nt) (isH_j hj1)).1.1) ((xH (tk := tk) (nt := nt) (isH_j hj1)).2.1) dX11_copy_55 ?_
          refine j_aload C dX11_copy_58 (lv_at hl 0 rfl) ?_
          refine j_getI (k := 34 + 2 * j_2_) C (f_RX11_245_7) (xl (xH (tk := tk) (nt := nt) (isH_j hj2)).1.1) ((xH (tk := tk) (nt := nt) (isH_j hj2)).2.1) dX11_copy_60 ?_
          refine j_icmp_eq (tgt := 72) C dX11_copy_63 (by decide) (fun c_8_ => ?_) (fun c_8_ => ?_)
          · skip
            refine j_aload C dX11_copy_72 (lv_at hl 1 rfl) ?_
            refine j_iload_n C dX11_copy_74 rfl (lv_at hl 4 rfl) ?_
            refine j_iload C dX11_copy_75 (lv_at hl 7 rfl) ?_
            refine j_callV (k := 34 + 2 * j_1_) C [.int (z1), .int (z4)] [] (k_X7_reaches l ad tk nt V1 (34 + 2 * j_1_) (isH_j hj1)  (z1) (z4)) v_RX11_82 (xl (xH (tk := tk) (nt := nt) (isH_j hj1)).1.1) ((xH (tk := tk) (nt := nt) (isH_j hj1)).2.1) rfl ⟨rfl, rfl, Nat.le_of_ble_eq_true rfl, Nat.le_of_ble_eq_true rfl⟩ rfl hl.1 rfl (Nat.le_of_ble_eq_true rfl) ⟨Nat.le_of_ble_eq_true rfl, Nat.le_of_ble_eq_true rfl⟩ dX11_copy_77 (kI fun x_9_ U9 h_9_ => ?_)
            obtain ⟨eU9, h_9_⟩ := h_9_
            have eU9 := eU9.symm
            subst eU9
            refine j_if_eq (tgt := 95) C dX11_copy_80 (by decide) (fun c_10_ => ?_) (fun c_10_ => ?_)
            · skip
              have b10 := bI_0.mp (h_9_ ▸ c_10_)
              refine j_aload_n C dX11_copy_95 rfl (lv_at hl 2 rfl) ?_
              refine j_iconst (v := 3) C dX11_copy_96 (by decide) ?_
              refine j_callV (k := 55) C [.int (3)] [] (k_X11_comeTo l ad tk nt V1  (3)) v_RX11_86 (xl (by decide)) (rfl) rfl ⟨rfl, rfl, Nat.le_of_ble_eq_true rfl, Nat.le_of_ble_eq_true rfl⟩ rfl hl.1 rfl (Nat.le_of_ble_eq_true rfl) ⟨Nat.le_of_ble_eq_true rfl, Nat.le_of_ble_eq_true rfl⟩ dX11_copy_97 (kI fun x_11_ U11 h_11_ => ?_)
              obtain ⟨eU11, h_11_⟩ := h_11_
              refine j_iret C ⟨rfl, _, rfl, ?_⟩ dX11_copy_100
              simp only [← eV1]
              obtain ⟨hin1, hcl1⟩ := inz ej1 hj1 (by omega)
              obtain ⟨hin2, hcl2⟩ := inz ej2 hj2 (by omega)
              refine ⟨?_, ?_⟩
              · first | (simp only [if_pos hin1, hcl1, if_pos hin2, hcl2, if_neg b4, if_neg b7, if_neg b10, if_pos c_8_]; done) | (simp only [if_pos hin1, hcl1, if_pos hin2, hcl2, if_neg b4, if_neg b7, if_neg b10, if_pos c_8_]; exact eV1) | (simp only [if_pos hin1, hcl1, if_pos hin2, hcl2, if_neg b4, if_neg b7, if_neg b10, if_pos c_8_]; rw [eV1]; done) | (simp only [if_pos hin1, hcl1, if_pos hin2, hcl2, if_neg b4, if_neg b7, if_neg b10, if_pos c_8_]; exact eU11) | (simp only [if_pos hin1, hcl1, if_pos hin2, hcl2, if_neg b4, if_neg b7, if_neg b10, if_pos c_8_]; rw [eU11]; done) | (simp only [if_pos hin1, hcl1, if_pos hin2, hcl2, if_neg b4, if_neg b7, if_neg b10, if_pos c_8_]; exact h_11_) | (simp only [if_pos hin1, hcl1, if_pos hin2, hcl2, if_neg b4, if_neg b7, if_neg b10, if_pos c_8_]; rw [h_11_]; done) | (simp only [if_pos hin1, hcl1, if_pos hin2, hcl2, if_neg b4, if_neg b7, if_neg b10, if_pos c_8_]; rfl)
              · first | (simp only [if_pos hin1, hcl1, if_pos hin2, hcl2, if_neg b4, if_neg b7, if_neg b10, if_pos c_8_]; done) | (simp only [if_pos hin1, hcl1, if_pos hin2, hcl2, if_neg b4, if_neg b7, if_neg b10, if_pos c_8_]; exact h_9_) | (simp only [if_pos hin1, hcl1, if_pos hin2, hcl2, if_neg b4, if_neg b7, if_neg b10, if_pos c_8_]; rw [h_9_]; done) | (simp only [if_pos hin1, hcl1, if_pos hin2, hcl2, if_neg b4, if_neg b7, if_neg b10, if_pos c_8_]; exact h_11_) | (simp only [if_pos hin1, hcl1, if_pos hin2, hcl2, if_neg b4, if_neg b7, if_neg b10, if_pos c_8_]; rw [h_11_]; done) | (simp only [if_pos hin1, hcl1, if_pos hin2, hcl2, if_neg b4, if_neg b7, if_neg b10, if_pos c_8_]; rfl)
            · skip
              have b10 := Decidable.not_not.mp (mt bI_0.mpr (h_9_ ▸ c_10_))
              refine j_aload C dX11_copy_83 (lv_at hl 0 rfl) ?_
              refine j_iload C dX11_copy_85 (lv_at hl 6 rfl) ?_
              refine j_iload C dX11_copy_87 (lv_at hl 7 rfl) ?_
              refine j_callV (k := 34 + 2 * j_2_) C [.int (z3), .int (z4)] [] (k_X7_reaches l ad tk nt V1 (34 + 2 * j_2_) (isH_j hj2)  (z3) (z4)) v_RX11_82 (xl (xH (tk := tk) (nt := nt) (isH_j hj2)).1.1) ((xH (tk := tk) (nt := nt) (isH_j hj2)).2.1) rfl ⟨rfl, rfl, Nat.le_of_ble_eq_true rfl, Nat.le_of_ble_eq_true rfl⟩ rfl hl.1 rfl (Nat.le_of_ble_eq_true rfl) ⟨Nat.le_of_ble_eq_true rfl, Nat.le_of_ble_eq_true rfl⟩ dX11_copy_89 (kI fun x_12_ U12 h_12_ => ?_)
              obtain ⟨eU12, h_12_⟩ := h_12_
              have eU12 := eU12.symm
              subst eU12
              refine j_if_ne (tgt := 101) C dX11_copy_92 (by decide) (fun c_13_ => ?_) (fun c_13_ => ?_)
              · skip
                have b13 := Decidable.not_not.mp (mt bI_0.mpr (h_12_ ▸ c_13_))
                obtain ⟨ia, na, ea1, ea2, ea3⟩ := re60 en8 hn8 b10
                obtain ⟨ib, nb, eb1, eb2, eb3⟩ := re60 em8 hm8 b13
                refine j_aload C dX11_copy_101 (lv_at hl 0 rfl) ?_
                refine j_aload C dX11_copy_103 (lv_at hl 1 rfl) ?_
                refine j_iload_n C dX11_copy_105 rfl (lv_at hl 4 rfl) ?_
                refine j_iload C dX11_copy_106 (lv_at hl 6 rfl) ?_
                refine j_iload C dX11_copy_108 (lv_at hl 7 rfl) ?_
                refine j_callV (k := 34 + 2 * j_2_) C [.ref (ad (34 + 2 * j_1_)), .int (z1), .int (z3), .int (z4)] [] (k_take2 l ad tk nt V1 (34 + 2 * j_2_) (isH_j hj2) (z1) (z3) (z4) (34 + 2 * j_1_) (isH_j hj1) m8 n_8_ ia ib na ea1 eb1 ea2 em8 hm8 en8 hn8 ea3 (by have q9 := nI_inj (by omega) (by omega) (ea2.symm.trans eb2); omega)) v_RX11_248 (xl (xH (tk := tk) (nt := nt) (isH_j hj2)).1.1) ((xH (tk := tk) (nt := nt) (isH_j hj2)).2.1) rfl ⟨rfl, rfl, Nat.le_of_ble_eq_true rfl, Nat.le_of_ble_eq_true rfl⟩ rfl hl.1 rfl (Nat.le_of_ble_eq_true rfl) ⟨Nat.le_of_ble_eq_true rfl, Nat.le_of_ble_eq_true rfl⟩ dX11_copy_110 (kU fun U14 h_14_ => ?_)
                refine j_iload C dX11_copy_113 (lv_at hl 7 rfl) ?_
                refine j_iret C ⟨rfl, _, rfl, ?_⟩ dX11_copy_115
                simp only [← eV1]
                rw [show ia = z1.toNatClampNeg by rw [ea1, nI_clamp (by omega)], show ib = z3.toNatClampNeg by rw [eb1, nI_clamp (by omega)], show na = z4.toNatClampNeg by rw [ea2, nI_clamp (by omega)]] at h_14_
                obtain ⟨hin1, hcl1⟩ := inz ej1 hj1 (by omega)
                obtain ⟨hin2, hcl2⟩ := inz ej2 hj2 (by omega)
                refine ⟨?_, ?_⟩
                · first | (simp only [if_pos hin1, hcl1, if_pos hin2, hcl2, if_neg b4, if_neg b7, if_pos b10, if_pos b13, if_pos c_8_]; done) | (simp only [if_pos hin1, hcl1, if_pos hin2, hcl2, if_neg b4, if_neg b7, if_pos b10, if_pos b13, if_pos c_8_]; exact eV1) | (simp only [if_pos hin1, hcl1, if_pos hin2, hcl2, if_neg b4, if_neg b7, if_pos b10, if_pos b13, if_pos c_8_]; rw [eV1]; done) | (simp only [if_pos hin1, hcl1, if_pos hin2, hcl2, if_neg b4, if_neg b7, if_pos b10, if_pos b13, if_pos c_8_]; exact h_14_) | (simp only [if_pos hin1, hcl1, if_pos hin2, hcl2, if_neg b4, if_neg b7, if_pos b10, if_pos b13, if_pos c_8_]; rw [h_14_]; done) | (simp only [if_pos hin1, hcl1, if_pos hin2, hcl2, if_neg b4, if_neg b7, if_pos b10, if_pos b13, if_pos c_8_]; rfl)
                · first | (simp only [if_pos hin1, hcl1, if_pos hin2, hcl2, if_neg b4, if_neg b7, if_pos b10, if_pos b13, if_pos c_8_]; done) | (simp only [if_pos hin1, hcl1, if_pos hin2, hcl2, if_neg b4, if_neg b7, if_pos b10, if_pos b13, if_pos c_8_]; exact h_12_) | (simp only [if_pos hin1, hcl1, if_pos hin2, hcl2, if_neg b4, if_neg b7, if_pos b10, if_pos b13, if_pos c_8_]; rw [h_12_]; done) | (simp only [if_pos hin1, hcl1, if_pos hin2, hcl2, if_neg b4, if_neg b7, if_pos b10, if_pos b13, if_pos c_8_]; exact h_14_) | (simp only [if_pos hin1, hcl1, if_pos hin2, hcl2, if_neg b4, if_neg b7, if_pos b10, if_pos b13, if_pos c_8_]; rw [h_14_]; done) | (simp only [if_pos hin1, hcl1, if_pos hin2, hcl2, if_neg b4, if_neg b7, if_pos b10, if_pos b13, if_pos c_8_]; rfl)
              · skip
                have b13 := bI_0.mp (h_12_ ▸ c_13_)
                refine j_aload_n C dX11_copy_95 rfl (lv_at hl 2 rfl) ?_
                refine j_iconst (v := 3) C dX11_copy_96 (by decide) ?_
                refine j_callV (k := 55) C [.int (3)] [] (k_X11_comeTo l ad tk nt V1  (3)) v_RX11_86 (xl (by decide)) (rfl) rfl ⟨rfl, rfl, Nat.le_of_ble_eq_true rfl, Nat.le_of_ble_eq_true rfl⟩ rfl hl.1 rfl (Nat.le_of_ble_eq_true rfl) ⟨Nat.le_of_ble_eq_true rfl, Nat.le_of_ble_eq_true rfl⟩ dX11_copy_97 (kI fun x_15_ U15 h_15_ => ?_)
                obtain ⟨eU15, h_15_⟩ := h_15_
                refine j_iret C ⟨rfl, _, rfl, ?_⟩ dX11_copy_100
                simp only [← eV1]
                obtain ⟨hin1, hcl1⟩ := inz ej1 hj1 (by omega)
                obtain ⟨hin2, hcl2⟩ := inz ej2 hj2 (by omega)
                refine ⟨?_, ?_⟩
                · first | (simp only [if_pos hin1, hcl1, if_pos hin2, hcl2, if_neg b4, if_neg b7, if_pos b10, if_neg b13, if_pos c_8_]; done) | (simp only [if_pos hin1, hcl1, if_pos hin2, hcl2, if_neg b4, if_neg b7, if_pos b10, if_neg b13, if_pos c_8_]; exact eV1) | (simp only [if_pos hin1, hcl1, if_pos hin2, hcl2, if_neg b4, if_neg b7, if_pos b10, if_neg b13, if_pos c_8_]; rw [eV1]; done) | (simp only [if_pos hin1, hcl1, if_pos hin2, hcl2, if_neg b4, if_neg b7, if_pos b10, if_neg b13, if_pos c_8_]; exact eU15) | (simp only [if_pos hin1, hcl1, if_pos hin2, hcl2, if_neg b4, if_neg b7, if_pos b10, if_neg b13, if_pos c_8_]; rw [eU15]; done) | (simp only [if_pos hin1, hcl1, if_pos hin2, hcl2, if_neg b4, if_neg b7, if_pos b10, if_neg b13, if_pos c_8_]; exact h_15_) | (simp only [if_pos hin1, hcl1, if_pos hin2, hcl2, if_neg b4, if_neg b7, if_pos b10, if_neg b13, if_pos c_8_]; rw [h_15_]; done) | (simp only [if_pos hin1, hcl1, if_pos hin2, hcl2, if_neg b4, if_neg b7, if_pos b10, if_neg b13, if_pos c_8_]; rfl)
                · first | (simp only [if_pos hin1, hcl1, if_pos hin2, hcl2, if_neg b4, if_neg b7, if_pos b10, if_neg b13, if_pos c_8_]; done) | (simp only [if_pos hin1, hcl1, if_pos hin2, hcl2, if_neg b4, if_neg b7, if_pos b10, if_neg b13, if_pos c_8_]; exact h_12_) | (simp only [if_pos hin1, hcl1, if_pos hin2, hcl2, if_neg b4, if_neg b7, if_pos b10, if_neg b13, if_pos c_8_]; rw [h_12_]; done) | (simp only [if_pos hin1, hcl1, if_pos hin2, hcl2, if_neg b4, if_neg b7, if_pos b10, if_neg b13, if_pos c_8_]; exact h_15_) | (simp only [if_pos hin1, hcl1, if_pos hin2, hcl2, if_neg b4, if_neg b7, if_pos b10, if_neg b13, if_pos c_8_]; rw [h_15_]; done) | (simp only [if_pos hin1, hcl1, if_pos hin2, hcl2, if_neg b4, if_neg b7, if_pos b10, if_neg b13, if_pos c_8_]; rfl)
          · skip
            refine j_aload_n C dX11_copy_66 rfl (lv_at hl 2 rfl) ?_
            refine j_iconst (v := 2) C dX11_copy_67 (by decide) ?_
            refine j_callV (k := 55) C [.int (2)] [] (k_X11_comeTo l ad tk nt V1  (2)) v_RX11_86 (xl (by decide)) (rfl) rfl ⟨rfl, rfl, Nat.le_of_ble_eq_true rfl, Nat.le_of_ble_eq_true rfl⟩ rfl hl.1 rfl (Nat.le_of_ble_eq_true rfl) ⟨Nat.le_of_ble_eq_true rfl, Nat.le_of_ble_eq_true rfl⟩ dX11_copy_68 (kI fun x_16_ U16 h_16_ => ?_)
            obtain ⟨eU16, h_16_⟩ := h_16_
            refine j_iret C ⟨rfl, _, rfl, ?_⟩ dX11_copy_71
            simp only [← eV1]
            obtain ⟨hin1, hcl1⟩ := inz ej1 hj1 (by omega)
            obtain ⟨hin2, hcl2⟩ := inz ej2 hj2 (by omega)
            refine ⟨?_, ?_⟩
            · first | (simp only [if_pos hin1, hcl1, if_pos hin2, hcl2, if_neg b4, if_neg b7, if_neg c_8_]; done) | (simp only [if_pos hin1, hcl1, if_pos hin2, hcl2, if_neg b4, if_neg b7, if_neg c_8_]; exact eV1) | (simp only [if_pos hin1, hcl1, if_pos hin2, hcl2, if_neg b4, if_neg b7, if_neg c_8_]; rw [eV1]; done) | (simp only [if_pos hin1, hcl1, if_pos hin2, hcl2, if_neg b4, if_neg b7, if_neg c_8_]; exact eU16) | (simp only [if_pos hin1, hcl1, if_pos hin2, hcl2, if_neg b4, if_neg b7, if_neg c_8_]; rw [eU16]; done) | (simp only [if_pos hin1, hcl1, if_pos hin2, hcl2, if_neg b4, if_neg b7, if_neg c_8_]; exact h_16_) | (simp only [if_pos hin1, hcl1, if_pos hin2, hcl2, if_neg b4, if_neg b7, if_neg c_8_]; rw [h_16_]; done) | (simp only [if_pos hin1, hcl1, if_pos hin2, hcl2, if_neg b4, if_neg b7, if_neg c_8_]; rfl)
            · first | (simp only [if_pos hin1, hcl1, if_pos hin2, hcl2, if_neg b4, if_neg b7, if_neg c_8_]; done) | (simp only [if_pos hin1, hcl1, if_pos hin2, hcl2, if_neg b4, if_neg b7, if_neg c_8_]; exact h_6_) | (simp only [if_pos hin1, hcl1, if_pos hin2, hcl2, if_neg b4, if_neg b7, if_neg c_8_]; rw [h_6_]; done) | (simp only [if_pos hin1, hcl1, if_pos hin2, hcl2, if_neg b4, if_neg b7, if_neg c_8_]; exact h_16_) | (simp only [if_pos hin1, hcl1, if_pos hin2, hcl2, if_neg b4, if_neg b7, if_neg c_8_]; rw [h_16_]; done) | (simp only [if_pos hin1, hcl1, if_pos hin2, hcl2, if_neg b4, if_neg b7, if_neg c_8_]; rfl)
        · skip
          have b7 := Decidable.not_not.mp (mt bI_0.mpr (h_6_ ▸ c_7_))
          refine j_aload_n C dX11_copy_47 rfl (lv_at hl 2 rfl) ?_
          refine j_iconst (v := 1) C dX11_copy_48 (by decide) ?_
          refine j_callV (k := 55) C [.int (1)] [] (k_X11_comeTo l ad tk nt V1  (1)) v_RX11_86 (xl (by decide)) (rfl) rfl ⟨rfl, rfl, Nat.le_of_ble_eq_true rfl, Nat.le_of_ble_eq_true rfl⟩ rfl hl.1 rfl (Nat.le_of_ble_eq_true rfl) ⟨Nat.le_of_ble_eq_true rfl, Nat.le_of_ble_eq_true rfl⟩ dX11_copy_49 (kI fun x_17_ U17 h_17_ => ?_)
          obtain ⟨eU17, h_17_⟩ := h_17_
          refine j_iret C ⟨rfl, _, rfl, ?_⟩ dX11_copy_52
          simp only [← eV1]
          obtain ⟨hin1, hcl1⟩ := inz ej1 hj1 (by omega)
          obtain ⟨hin2, hcl2⟩ := inz ej2 hj2 (by omega)
          refine ⟨?_, ?_⟩
          · first | (simp only [if_pos hin1, hcl1, if_pos hin2, hcl2, if_neg b4, if_pos b7]; done) | (simp only [if_pos hin1, hcl1, if_pos hin2, hcl2, if_neg b4, if_pos b7]; exact eV1) | (simp only [if_pos hin1, hcl1, if_pos hin2, hcl2, if_neg b4, if_pos b7]; rw [eV1]; done) | (simp only [if_pos hin1, hcl1, if_pos hin2, hcl2, if_neg b4, if_pos b7]; exact eU17) | (simp only [if_pos hin1, hcl1, if_pos hin2, hcl2, if_neg b4, if_pos b7]; rw [eU17]; done) | (simp only [if_pos hin1, hcl1, if_pos hin2, hcl2, if_neg b4, if_pos b7]; exact h_17_) | (simp only [if_pos hin1, hcl1, if_pos hin2, hcl2, if_neg b4, if_pos b7]; rw [h_17_]; done) | (simp only [if_pos hin1, hcl1, if_pos hin2, hcl2, if_neg b4, if_pos b7]; rfl)
          · first | (simp only [if_pos hin1, hcl1, if_pos hin2, hcl2, if_neg b4, if_pos b7]; done) | (simp only [if_pos hin1, hcl1, if_pos hin2, hcl2, if_neg b4, if_pos b7]; exact h_6_) | (simp only [if_pos hin1, hcl1, if_pos hin2, hcl2, if_neg b4, if_pos b7]; rw [h_6_]; done) | (simp only [if_pos hin1, hcl1, if_pos hin2, hcl2, if_neg b4, if_pos b7]; exact h_17_) | (simp only [if_pos hin1, hcl1, if_pos hin2, hcl2, if_neg b4, if_pos b7]; rw [h_17_]; done) | (simp only [if_pos hin1, hcl1, if_pos hin2, hcl2, if_neg b4, if_pos b7]; rfl)
    · subst ev2
      refine j_astoreN (lv2 := [(7, .null), (6, .ref (ad (34 + 2 * j_1_))), (0, .ref (ad (55))), (1, .int (z0)), (2, .int (z1)), (3, .int (z2)), (4, .int (z3)), (5, .int (z4))]) C dX11_copy_17 hl (by decide) rfl (fun ls hl => ?_)
      refine j_aload C dX11_copy_19 (lv_at hl 1 rfl) ?_
      refine j_ifnull C dX11_copy_21 ?_
      refine j_aloadN C dX11_copy_24 (lv_at hl 0 rfl) ?_
      refine j_ifnonnullN C dX11_copy_26 ?_
      refine j_iconst (v := (-1)) C dX11_copy_29 (by decide) ?_
      refine j_iret C ⟨rfl, _, rfl, ?_⟩ dX11_copy_30
      simp only [← eV1]
      obtain ⟨hin1, hcl1⟩ := inz ej1 hj1 (by omega)
      have hot2 := outR ho2
      refine ⟨?_, ?_⟩
      · first | (simp only [if_pos hin1, hcl1, if_neg hot2]; done) | (simp only [if_pos hin1, hcl1, if_neg hot2]; exact eV1) | (simp only [if_pos hin1, hcl1, if_neg hot2]; rw [eV1]; done) | (simp only [if_pos hin1, hcl1, if_neg hot2]; rfl)
      · first | (simp only [if_pos hin1, hcl1, if_neg hot2]; done) | (simp only [if_pos hin1, hcl1, if_neg hot2]; rfl)
  · subst ev1
    refine j_astoreN (lv2 := [(6, .null), (0, .ref (ad (55))), (1, .int (z0)), (2, .int (z1)), (3, .int (z2)), (4, .int (z3)), (5, .int (z4))]) C dX11_copy_10 hl (by decide) rfl (fun ls hl => ?_)
    refine j_aload_n C dX11_copy_12 rfl (lv_at hl 1 rfl) ?_
    refine j_iload_n C dX11_copy_13 rfl (lv_at hl 4 rfl) ?_
    refine j_callV (k := 55) C [.int (z2)] [] (k_X11_sheetOf l ad tk nt V1  (z2)) v_RX11_70 (xl (by decide)) (rfl) rfl ⟨rfl, rfl, Nat.le_of_ble_eq_true rfl, Nat.le_of_ble_eq_true rfl⟩ rfl hl.1 rfl (Nat.le_of_ble_eq_true rfl) ⟨Nat.le_of_ble_eq_true rfl, Nat.le_of_ble_eq_true rfl⟩ dX11_copy_14 (kA fun x_18_ U18 h_18_ => ?_)
    obtain ⟨eU18, h_18_⟩ := h_18_
    have eU18 := eU18.symm
    subst eU18
    rcases h_18_ with ⟨j_18_, hj18, ej18, ev18⟩ | ⟨ho18, ev18⟩
    · subst ev18
      obtain ⟨m8, hm8, em8⟩ := h60_n hX1 hj18
      refine j_astore (lv2 := [(7, .ref (ad (34 + 2 * j_18_))), (6, .null), (0, .ref (ad (55))), (1, .int (z0)), (2, .int (z1)), (3, .int (z2)), (4, .int (z3)), (5, .int (z4))]) C dX11_copy_17 hl (by decide) rfl (fun ls hl => ?_)
      refine j_aloadN C dX11_copy_19 (lv_at hl 1 rfl) ?_
      refine j_ifnullN (tgt := 29) C dX11_copy_21 (by decide) ?_
      refine j_iconst (v := (-1)) C dX11_copy_29 (by decide) ?_
      refine j_iret C ⟨rfl, _, rfl, ?_⟩ dX11_copy_30
      simp only [← eV1]
      have hot1 := outR ho1
      obtain ⟨hin18, hcl18⟩ := inz ej18 hj18 (by omega)
      refine ⟨?_, ?_⟩
      · first | (simp only [if_neg hot1, if_pos hin18, hcl18]; done) | (simp only [if_neg hot1, if_pos hin18, hcl18]; exact eV1) | (simp only [if_neg hot1, if_pos hin18, hcl18]; rw [eV1]; done) | (simp only [if_neg hot1, if_pos hin18, hcl18]; rfl)
      · first | (simp only [if_neg hot1, if_pos hin18, hcl18]; done) | (simp only [if_neg hot1, if_pos hin18, hcl18]; rfl)
    · subst ev18
      refine j_astoreN (lv2 := [(7, .null), (6, .null), (0, .ref (ad (55))), (1, .int (z0)), (2, .int (z1)), (3, .int (z2)), (4, .int (z3)), (5, .int (z4))]) C dX11_copy_17 hl (by decide) rfl (fun ls hl => ?_)
      refine j_aloadN C dX11_copy_19 (lv_at hl 1 rfl) ?_
      refine j_ifnullN (tgt := 29) C dX11_copy_21 (by decide) ?_
      refine j_iconst (v := (-1)) C dX11_copy_29 (by decide) ?_
      refine j_iret C ⟨rfl, _, rfl, ?_⟩ dX11_copy_30
      simp only [← eV1]
      have hot1 := outR ho1
      have hot18 := outR ho18
      refine ⟨?_, ?_⟩
      · first | (simp only [if_neg hot1, if_neg hot18]; done) | (simp only [if_neg hot1, if_neg hot18]; exact eV1) | (simp only [if_neg hot1, if_neg hot18]; rw [eV1]; done) | (simp only [if_neg hot1, if_neg hot18]; rfl)
      · first | (simp only [if_neg hot1, if_neg hot18]; done) | (simp only [if_neg hot1, if_neg hot18]; rfl)
