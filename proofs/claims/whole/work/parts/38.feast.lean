theorem whP_f {V : Vt} {ng : Nat} {rr : Nat → Nat} {z : Int32} (h_4_ : ng ≤ 4) (h : whP V ng rr) : whP (up2 V 55 9 z) ng rr := fun g hg j hj => by rw [up2_k _ _ (by omega)]; exact h g hg j hj
abbrev rm_X11_feast : Room := { frames := 6, cells := 0, slots := 0, locals := 138 }
set_option maxHeartbeats 4000000 in
set_option maxRecDepth 100000 in
theorem k_X11_feast (l : Launch) (ad tk : Nat → Nat) (nt : Nat) (V : Vt) (ng : Nat) (rr : Nat → Nat) (c_0_ : Nat) (hX : XI tk nt V ng rr c_0_) (hw : whP V ng rr) (z0 z1 z2 z3 z4 : Int32) : Ct l yX11_feast cX11_feast 9 (some .int) rm_X11_feast (xS ad tk nt) V [.ref (ad (55)), .int (z0), .int (z1), .int (z2), .int (z3), .int (z4)] (rI fun x V2 => if ¬ z0 < 0 ∧ z0 < nI 4 then (if 0 ≤ z1 ∧ z1 ≤ 2 then (if 0 ≤ z3 ∧ z3 ≤ 20 then (if (0 ≤ z4 ∧ z4 ≤ 4) ∨ (10 ≤ z4 ∧ z4 ≤ 13) then (if clF ((up2 V 55 9 0) (34 + 2 * z0.toNatClampNeg) 0) z1 (decide (0 ≤ z2 ∧ z2 ≤ (up2 V 55 9 0) (34 + 2 * z0.toNatClampNeg) 1 ∧ 0 ≤ 2 * z3 ∧ 2 * z3 ≤ (up2 V 55 9 0) (34 + 2 * z0.toNatClampNeg) 1 - z2)) = 0 then (if nt = 0 then (x = -3 ∧ V2 = (up2 V 55 9 0)) else if rfN nt (fun j => (up2 V 55 9 0) ((34 + 2 * z0.toNatClampNeg) + 1) (z2.toNatClampNeg + j)) z3.toNatClampNeg = 0 then (feX nt ng (rcX tk (up2 V 55 9 0)) (yS (up2 V 55 9 0)) (lS (up2 V 55 9 0)) (fe0 (up2 V 55 9 0) rr) (fun j => (up2 V 55 9 0) ((34 + 2 * z0.toNatClampNeg) + 1) (z2.toNatClampNeg + j)) z3.toNatClampNeg z4 x ∧ frF (up2 V 55 9 0) V2) else (x = rfN nt (fun j => (up2 V 55 9 0) ((34 + 2 * z0.toNatClampNeg) + 1) (z2.toNatClampNeg + j)) z3.toNatClampNeg ∧ V2 = (up2 V 55 9 0))) else (x = -10 - clF ((up2 V 55 9 0) (34 + 2 * z0.toNatClampNeg) 0) z1 (decide (0 ≤ z2 ∧ z2 ≤ (up2 V 55 9 0) (34 + 2 * z0.toNatClampNeg) 1 ∧ 0 ≤ 2 * z3 ∧ 2 * z3 ≤ (up2 V 55 9 0) (34 + 2 * z0.toNatClampNeg) 1 - z2)) ∧ V2 = up2 (up2 V 55 9 0) 55 9 (clF ((up2 V 55 9 0) (34 + 2 * z0.toNatClampNeg) 0) z1 (decide (0 ≤ z2 ∧ z2 ≤ (up2 V 55 9 0) (34 + 2 * z0.toNatClampNeg) 1 ∧ 0 ≤ 2 * z3 ∧ 2 * z3 ≤ (up2 V 55 9 0) (34 + 2 * z0.toNatClampNeg) 1 - z2))))) else (x = -2 ∧ V2 = (up2 V 55 9 0))) else (x = -2 ∧ V2 = (up2 V 55 9 0))) else (x = -2 ∧ V2 = (up2 V 55 9 0))) else (x = -1 ∧ V2 = (up2 V 55 9 0))) := by
  refine Ct_of (by decide) (Nat.le_of_ble_eq_true rfl) ?_
  intro p e s m below meth c A D cy ls C hl
  have hl : lv_has ls 9 [(0, .ref (ad (55))), (1, .int (z0)), (2, .int (z1)), (3, .int (z2)), (4, .int (z3)), (5, .int (z4))] := hl
  have ng4 := hX.1.2.1
  have nt5 := hX.2.2.1
  refine j_aload_n C dX11_feast_0 rfl (lv_at hl 0 rfl) ?_
  refine j_iconst (v := 0) C dX11_feast_1 (by decide) ?_
  refine j_putI (k := 55) C (f_RX11_66_11) p_11_9 (xl (by decide)) (rfl) dX11_feast_2 (fun V1 eV1 => ?_)
  have hX1 : XI tk nt V1 ng rr c_0_ := by rw [eV1]; exact XI_f hX
  refine j_aload_n C dX11_feast_5 rfl (lv_at hl 0 rfl) ?_
  refine j_iload_n C dX11_feast_6 rfl (lv_at hl 1 rfl) ?_
  refine j_callV (k := 55) C [.int (z0)] [] (k_X11_sheetOf l ad tk nt V1  (z0)) v_RX11_70 (xl (by decide)) (rfl) rfl ⟨rfl, rfl, Nat.le_of_ble_eq_true rfl, Nat.le_of_ble_eq_true rfl⟩ rfl hl.1 rfl (Nat.le_of_ble_eq_true rfl) ⟨Nat.le_of_ble_eq_true rfl, Nat.le_of_ble_eq_true rfl⟩ dX11_feast_7 (kA fun x_1_ U1 h_1_ => ?_)
  obtain ⟨eU1, h_1_⟩ := h_1_
  have eU1 := eU1.symm
  subst eU1
  rcases h_1_ with ⟨j_1_, hj1, ej1, ev1⟩ | ⟨ho1, ev1⟩
  · subst ev1
    obtain ⟨n_8_, hn8, en8⟩ := h60_n hX1 hj1
    refine j_astore (lv2 := [(6, .ref (ad (34 + 2 * j_1_))), (0, .ref (ad (55))), (1, .int (z0)), (2, .int (z1)), (3, .int (z2)), (4, .int (z3)), (5, .int (z4))]) C dX11_feast_10 hl (by decide) rfl (fun ls hl => ?_)
    refine j_aload C dX11_feast_12 (lv_at hl 0 rfl) ?_
    refine j_ifnonnull (tgt := 19) C dX11_feast_14 (by decide) ?_
    refine j_iload_n C dX11_feast_19 rfl (lv_at hl 3 rfl) ?_
    refine j_callS C [.int (z1)] [] (k_X11_isLane l (xS ad tk nt) V1 (z1)) v_RX11_74 ⟨rfl, rfl, Nat.le_of_ble_eq_true rfl, Nat.le_of_ble_eq_true rfl⟩ rfl hl.1 rfl (Nat.le_of_ble_eq_true rfl) ⟨Nat.le_of_ble_eq_true rfl, Nat.le_of_ble_eq_true rfl⟩ dX11_feast_20 (kI fun x_2_ U2 h_2_ => ?_)
    obtain ⟨eU2, h_2_⟩ := h_2_
    have eU2 := eU2.symm
    subst eU2
    refine j_if_eq (tgt := 45) C dX11_feast_23 (by decide) (fun c_3_ => ?_) (fun c_3_ => ?_)
    · skip
      have b3 := bI_0.mp (h_2_ ▸ c_3_)
      refine j_bipush (v := (-2)) C dX11_feast_45 (by decide) ?_
      refine j_iret C ⟨rfl, _, rfl, ?_⟩ dX11_feast_47
      simp only [← eV1]
      obtain ⟨hin1, hcl1⟩ := inz ej1 hj1 (by omega)
      rw [if_pos hin1, hcl1, if_neg b3]
      exact ⟨by trivial, by trivial⟩
    · skip
      have b3 := Decidable.not_not.mp (mt bI_0.mpr (h_2_ ▸ c_3_))
      refine j_iload C dX11_feast_26 (lv_at hl 5 rfl) ?_
      refine j_iconst (v := 0) C dX11_feast_28 (by decide) ?_
      refine j_bipush (v := 20) C dX11_feast_29 (by decide) ?_
      refine j_callS C [.int (z3), .int (0), .int (20)] [] (k_X11_isWithin l (xS ad tk nt) V1 (z3) (0) (20)) v_RX11_143 ⟨rfl, rfl, Nat.le_of_ble_eq_true rfl, Nat.le_of_ble_eq_true rfl⟩ rfl hl.1 rfl (Nat.le_of_ble_eq_true rfl) ⟨Nat.le_of_ble_eq_true rfl, Nat.le_of_ble_eq_true rfl⟩ dX11_feast_31 (kI fun x_4_ U4 h_4_ => ?_)
      obtain ⟨eU4, h_4_⟩ := h_4_
      have eU4 := eU4.symm
      subst eU4
      refine j_if_eq (tgt := 45) C dX11_feast_34 (by decide) (fun c_5_ => ?_) (fun c_5_ => ?_)
      · skip
        have b5 := bI_0.mp (h_4_ ▸ c_5_)
        refine j_bipush (v := (-2)) C dX11_feast_45 (by decide) ?_
        refine j_iret C ⟨rfl, _, rfl, ?_⟩ dX11_feast_47
        simp only [← eV1]
        obtain ⟨hin1, hcl1⟩ := inz ej1 hj1 (by omega)
        rw [if_pos hin1, hcl1, if_pos b3, if_neg b5]
        exact ⟨by trivial, by trivial⟩
      · skip
        have b5 := Decidable.not_not.mp (mt bI_0.mpr (h_4_ ▸ c_5_))
        refine j_iload C dX11_feast_37 (lv_at hl 6 rfl) ?_
        refine j_callS C [.int (z4)] [] (k_X11_isAskedOfFeasts l (xS ad tk nt) V1 (z4)) v_RX11_165 ⟨rfl, rfl, Nat.le_of_ble_eq_true rfl, Nat.le_of_ble_eq_true rfl⟩ rfl hl.1 rfl (Nat.le_of_ble_eq_true rfl) ⟨Nat.le_of_ble_eq_true rfl, Nat.le_of_ble_eq_true rfl⟩ dX11_feast_39 (kI fun x_6_ U6 h_6_ => ?_)
        obtain ⟨eU6, h_6_⟩ := h_6_
        have eU6 := eU6.symm
        subst eU6
        refine j_if_ne (tgt := 48) C dX11_feast_42 (by decide) (fun c_7_ => ?_) (fun c_7_ => ?_)
        · skip
          have b7 := Decidable.not_not.mp (mt bI_0.mpr (h_6_ ▸ c_7_))
          refine j_aload C dX11_feast_48 (lv_at hl 0 rfl) ?_
          refine j_iload_n C dX11_feast_50 rfl (lv_at hl 3 rfl) ?_
          refine j_callV (k := 34 + 2 * j_1_) C [.int (z1)] [] (k_X7_faultAs l ad tk nt V1 (34 + 2 * j_1_) (isH_j hj1)  (z1)) v_RX11_78 (xl (xH (tk := tk) (nt := nt) (isH_j hj1)).1.1) ((xH (tk := tk) (nt := nt) (isH_j hj1)).2.1) rfl ⟨rfl, rfl, Nat.le_of_ble_eq_true rfl, Nat.le_of_ble_eq_true rfl⟩ rfl hl.1 rfl (Nat.le_of_ble_eq_true rfl) ⟨Nat.le_of_ble_eq_true rfl, Nat.le_of_ble_eq_true rfl⟩ dX11_feast_51 (kI fun x_8_ U8 h_8_ => ?_)
          obtain ⟨eU8, h_8_⟩ := h_8_
          have eU8 := eU8.symm
          subst eU8
          skip
          refine j_istore (lv2 := [(7, .int (x_8_)), (6, .ref (ad (34 + 2 * j_1_))), (0, .ref (ad (55))), (1, .int (z0)), (2, .int (z1)), (3, .int (z2)), (4, .int (z3)), (5, .int (z4))]) C dX11_feast_54 hl (by decide) rfl (fun ls hl => ?_)
          refine j_iload C dX11_feast_56 (lv_at hl 0 rfl) ?_
          refine j_if_ne (tgt := 77) C dX11_feast_58 (by decide) (fun c_9_ => ?_) (fun c_9_ => ?_)
          · skip
            refine j_iload C dX11_feast_77 (lv_at hl 0 rfl) ?_
            refine j_if_eq (tgt := 89) C dX11_feast_79 (by decide) (fun c_10_ => ?_) (fun c_10_ => ?_)
            · skip
              exact absurd c_10_ c_9_
            · skip
              refine j_aload_n C dX11_feast_82 rfl (lv_at hl 2 rfl) ?_
              refine j_iload C dX11_feast_83 (lv_at hl 0 rfl) ?_
              refine j_callV (k := 55) C [.int (x_8_)] [] (k_X11_comeTo l ad tk nt V1  (x_8_)) v_RX11_86 (xl (by decide)) (rfl) rfl ⟨rfl, rfl, Nat.le_of_ble_eq_true rfl, Nat.le_of_ble_eq_true rfl⟩ rfl hl.1 rfl (Nat.le_of_ble_eq_true rfl) ⟨Nat.le_of_ble_eq_true rfl, Nat.le_of_ble_eq_true rfl⟩ dX11_feast_85 (kI fun x_11_ U11 h_11_ => ?_)
              obtain ⟨eU11, h_11_⟩ := h_11_
              refine j_iret C ⟨rfl, _, rfl, ?_⟩ dX11_feast_88
              simp only [← eV1]
              obtain ⟨hin1, hcl1⟩ := inz ej1 hj1 (by omega)
              have ec : clF (V1 (34 + 2 * j_1_) 0) z1 (decide (0 ≤ z2 ∧ z2 ≤ V1 (34 + 2 * j_1_) 1 ∧ 0 ≤ 2 * z3 ∧ 2 * z3 ≤ V1 (34 + 2 * j_1_) 1 - z2)) = x_8_ := by
                rw [h_8_]
                unfold clF
                rw [h_8_] at c_9_
                split
                · rfl
                · split
                  · rename_i qa qb
                    rw [if_neg qa, if_pos qb] at c_9_
                    exact absurd rfl c_9_
                  · rfl
              rw [if_pos hin1, hcl1, if_pos b3, if_pos b5, if_pos b7, ec, if_neg c_10_]
              exact ⟨h_11_, eU11⟩
          · skip
            refine j_aload C dX11_feast_61 (lv_at hl 1 rfl) ?_
            refine j_iload_n C dX11_feast_63 rfl (lv_at hl 5 rfl) ?_
            refine j_iconst (v := 2) C dX11_feast_64 (by decide) ?_
            refine j_iload C dX11_feast_65 (lv_at hl 6 rfl) ?_
            refine j_imul C dX11_feast_67 ?_
            refine j_callV (k := 34 + 2 * j_1_) C [.int (z2), .int (2 * z3)] [] (k_X7_reaches l ad tk nt V1 (34 + 2 * j_1_) (isH_j hj1)  (z2) (2 * z3)) v_RX11_82 (xl (xH (tk := tk) (nt := nt) (isH_j hj1)).1.1) ((xH (tk := tk) (nt := nt) (isH_j hj1)).2.1) rfl ⟨rfl, rfl, Nat.le_of_ble_eq_true rfl, Nat.le_of_ble_eq_true rfl⟩ rfl hl.1 rfl (Nat.le_of_ble_eq_true rfl) ⟨Nat.le_of_ble_eq_true rfl, Nat.le_of_ble_eq_true rfl⟩ dX11_feast_68 (kI fun x_12_ U12 h_12_ => ?_)
            obtain ⟨eU12, h_12_⟩ := h_12_
            have eU12 := eU12.symm
            subst eU12
            refine j_if_ne (tgt := 77) C dX11_feast_71 (by decide) (fun c_13_ => ?_) (fun c_13_ => ?_)
            · skip
              have b13 := Decidable.not_not.mp (mt bI_0.mpr (h_12_ ▸ c_13_))
              obtain ⟨i8, k8, ei8, ek8, hik8⟩ := re60 en8 hn8 b13
              obtain ⟨n_7_, hn7, en7⟩ := nI_of2 (nI_toInt (n := 20) (by decide)) (Int32.not_lt.mpr b5.1) b5.2
              have hk7 : k8 = 2 * n_7_ := nI_inj (by omega) (by omega) (by rw [← ek8, en7, show (2 : Int32) = nI 2 from rfl, pk_mul])
              refine j_iload C dX11_feast_77 (lv_at hl 0 rfl) ?_
              refine j_if_eq (tgt := 89) C dX11_feast_79 (by decide) (fun c_14_ => ?_) (fun c_14_ => ?_)
              · skip
                refine j_aload_n C dX11_feast_89 rfl (lv_at hl 2 rfl) ?_
                refine j_getI (k := 55) C (f_RX11_96_11) (xl (by decide)) (rfl) dX11_feast_90 ?_
                refine j_if_ne (tgt := 99) C dX11_feast_93 (by decide) (fun c_15_ => ?_) (fun c_15_ => ?_)
                · skip
                  refine j_aload_n C dX11_feast_99 rfl (lv_at hl 2 rfl) ?_
                  refine j_aload C dX11_feast_100 (lv_at hl 1 rfl) ?_
                  refine j_iload_n C dX11_feast_102 rfl (lv_at hl 5 rfl) ?_
                  refine j_iload C dX11_feast_103 (lv_at hl 6 rfl) ?_
                  refine j_callV (k := 55) C [.ref (ad (34 + 2 * j_1_)), .int (z2), .int (z3)] [] (k_X11_refusalOfPairs l ad tk nt V1 ng rr c_0_ hX1 (34 + 2 * j_1_) (isH_j hj1) n_8_ en8 hn8 i8 n_7_ z2 z3 ei8 en7 (by omega)) v_RX11_168 (xl (by decide)) (rfl) rfl ⟨rfl, rfl, Nat.le_of_ble_eq_true rfl, Nat.le_of_ble_eq_true rfl⟩ rfl hl.1 rfl (Nat.le_of_ble_eq_true rfl) ⟨Nat.le_of_ble_eq_true rfl, Nat.le_of_ble_eq_true rfl⟩ dX11_feast_105 (kI fun x_16_ U16 h_16_ => ?_)
                  obtain ⟨eU16, h_16_⟩ := h_16_
                  have eU16 := eU16.symm
                  subst eU16
                  skip
                  refine j_istore (lv2 := [(8, .int (x_16_)), (7, .int (x_8_)), (6, .ref (ad (34 + 2 * j_1_))), (0, .ref (ad (55))), (1, .int (z0)), (2, .int (z1)), (3, .int (z2)), (4, .int (z3)), (5, .int (z4))]) C dX11_feast_108 hl (by decide) rfl (fun ls hl => ?_)
                  refine j_iload C dX11_feast_110 (lv_at hl 0 rfl) ?_
                  refine j_if_eq (tgt := 118) C dX11_feast_112 (by decide) (fun c_17_ => ?_) (fun c_17_ => ?_)
                  · skip
                    refine j_aload_n C dX11_feast_118 rfl (lv_at hl 3 rfl) ?_
                    refine j_aload C dX11_feast_119 (lv_at hl 2 rfl) ?_
                    refine j_iload_n C dX11_feast_121 rfl (lv_at hl 6 rfl) ?_
                    refine j_iload C dX11_feast_122 (lv_at hl 7 rfl) ?_
                    refine j_callV (k := 55) C [.ref (ad (34 + 2 * j_1_)), .int (z2), .int (z3)] [] (k_X11_tellFeast l ad tk nt V1 ng rr c_0_ hX1 (by rw [eV1]; exact whP_f ng4 hw) (34 + 2 * j_1_) (isH_j hj1) n_8_ en8 hn8 i8 n_7_ z2 z3 ei8 en7 (by omega)) v_RX11_171 (xl (by decide)) (rfl) rfl ⟨rfl, rfl, Nat.le_of_ble_eq_true rfl, Nat.le_of_ble_eq_true rfl⟩ rfl hl.1 rfl (Nat.le_of_ble_eq_true rfl) ⟨Nat.le_of_ble_eq_true rfl, Nat.le_of_ble_eq_true rfl⟩ dX11_feast_124 (kU fun U18 h_18_ => ?_)
                    obtain ⟨hFr9, q9, G9, hN9, hR9, hS9⟩ := h_18_
                    refine j_aload_n C dX11_feast_127 rfl (lv_at hl 3 rfl) ?_
                    refine j_getR (k := 55) (k2 := 14) C (f_RX11_54_11) (xl (by decide)) (rfl) (rfl) dX11_feast_128 ?_
                    refine j_iload C dX11_feast_131 (lv_at hl 8 rfl) ?_
                    refine j_callV (k := 14) C [.int (z4)] [] (k_X1_answer l ad tk nt U18 ng G9.2.1 (feR_cl hR9) (z4)) v_RX11_175 (xl (by decide)) (rfl) rfl ⟨rfl, rfl, Nat.le_of_ble_eq_true rfl, Nat.le_of_ble_eq_true rfl⟩ rfl hl.1 rfl (Nat.le_of_ble_eq_true rfl) ⟨Nat.le_of_ble_eq_true rfl, Nat.le_of_ble_eq_true rfl⟩ dX11_feast_133 (kI fun x_19_ U19 h_19_ => ?_)
                    obtain ⟨eU19, h_19_⟩ := h_19_
                    have eU19 := eU19.symm
                    subst eU19
                    refine j_iret C ⟨rfl, _, rfl, ?_⟩ dX11_feast_136
                    simp only [← eV1]
                    obtain ⟨hin1, hcl1⟩ := inz ej1 hj1 (by omega)
                    have el : ¬ V1 (34 + 2 * j_1_) 0 = -1 ∧ V1 (34 + 2 * j_1_) 0 = z1 := by
                      rw [h_8_] at c_9_
                      split at c_9_
                      · exact absurd c_9_ (by decide)
                      · split at c_9_
                        · exact ⟨by assumption, by assumption⟩
                        · exact absurd c_9_ (by decide)
                    have ec : clF (V1 (34 + 2 * j_1_) 0) z1 (decide (0 ≤ z2 ∧ z2 ≤ V1 (34 + 2 * j_1_) 1 ∧ 0 ≤ 2 * z3 ∧ 2 * z3 ≤ V1 (34 + 2 * j_1_) 1 - z2)) = 0 := by
                      unfold clF
                      rw [if_neg el.1, if_pos el.2, if_pos (by simpa using b13)]
                    have nz9 : ¬ nt = 0 := fun q => c_15_ (by rw [hX1.2.1, q]; rfl)
                    have e32 : z2.toNatClampNeg = i8 := by rw [ei8, nI_clamp (by omega)]
                    have e33 : z3.toNatClampNeg = n_7_ := by rw [en7, nI_clamp (by omega)]
                    rw [if_pos hin1, hcl1, if_pos b3, if_pos b5, if_pos b7, ec, if_pos rfl, if_neg nz9, e32, e33, if_pos (by rw [← h_16_]; exact c_17_)]
                    refine ⟨?_, hFr9⟩
                    rcases hS9 with ⟨eq9, h_99_⟩ | ⟨hq9, hs9, h_99_⟩
                    · exact Or.inl ⟨G9, eq9 ▸ hN9, by rw [h_19_, fe_ans hR9 h_99_]⟩
                    · exact Or.inr ⟨q9, G9, hq9, hN9, hs9, by rw [h_19_, fe_answ (by omega) h_99_]⟩
                  · skip
                    refine j_iload C dX11_feast_115 (lv_at hl 0 rfl) ?_
                    refine j_iret C ⟨rfl, _, rfl, ?_⟩ dX11_feast_117
                    simp only [← eV1]
                    obtain ⟨hin1, hcl1⟩ := inz ej1 hj1 (by omega)
                    have el : ¬ V1 (34 + 2 * j_1_) 0 = -1 ∧ V1 (34 + 2 * j_1_) 0 = z1 := by
                      rw [h_8_] at c_9_
                      split at c_9_
                      · exact absurd c_9_ (by decide)
                      · split at c_9_
                        · exact ⟨by assumption, by assumption⟩
                        · exact absurd c_9_ (by decide)
                    have ec : clF (V1 (34 + 2 * j_1_) 0) z1 (decide (0 ≤ z2 ∧ z2 ≤ V1 (34 + 2 * j_1_) 1 ∧ 0 ≤ 2 * z3 ∧ 2 * z3 ≤ V1 (34 + 2 * j_1_) 1 - z2)) = 0 := by
                      unfold clF
                      rw [if_neg el.1, if_pos el.2, if_pos (by simpa using b13)]
                    have nz9 : ¬ nt = 0 := fun q => c_15_ (by rw [hX1.2.1, q]; rfl)
                    have e32 : z2.toNatClampNeg = i8 := by rw [ei8, nI_clamp (by omega)]
                    have e33 : z3.toNatClampNeg = n_7_ := by rw [en7, nI_clamp (by omega)]
                    rw [if_pos hin1, hcl1, if_pos b3, if_pos b5, if_pos b7, ec, if_pos rfl, if_neg nz9, e32, e33, if_neg (by rw [← h_16_]; exact c_17_)]
                    exact ⟨h_16_, by trivial⟩
                · skip
                  refine j_bipush (v := (-3)) C dX11_feast_96 (by decide) ?_
                  refine j_iret C ⟨rfl, _, rfl, ?_⟩ dX11_feast_98
                  simp only [← eV1]
                  obtain ⟨hin1, hcl1⟩ := inz ej1 hj1 (by omega)
                  have el : ¬ V1 (34 + 2 * j_1_) 0 = -1 ∧ V1 (34 + 2 * j_1_) 0 = z1 := by
                    rw [h_8_] at c_9_
                    split at c_9_
                    · exact absurd c_9_ (by decide)
                    · split at c_9_
                      · exact ⟨by assumption, by assumption⟩
                      · exact absurd c_9_ (by decide)
                  have ec : clF (V1 (34 + 2 * j_1_) 0) z1 (decide (0 ≤ z2 ∧ z2 ≤ V1 (34 + 2 * j_1_) 1 ∧ 0 ≤ 2 * z3 ∧ 2 * z3 ≤ V1 (34 + 2 * j_1_) 1 - z2)) = 0 := by
                    unfold clF
                    rw [if_neg el.1, if_pos el.2, if_pos (by simpa using b13)]
                  rw [if_pos hin1, hcl1, if_pos b3, if_pos b5, if_pos b7, ec, if_pos rfl, if_pos (nI_inj (by omega) (show 0 < 2 ^ 31 by decide) (hX1.2.1.symm.trans c_15_))]
                  exact ⟨by trivial, by trivial⟩
              · skip
                exact absurd c_9_ c_14_
            · skip
              have b13 := bI_0.mp (h_12_ ▸ c_13_)
              refine j_iconst (v := 3) C dX11_feast_74 (by decide) ?_
              refine j_istore (lv2 := [(7, .int (3)), (6, .ref (ad (34 + 2 * j_1_))), (0, .ref (ad (55))), (1, .int (z0)), (2, .int (z1)), (3, .int (z2)), (4, .int (z3)), (5, .int (z4))]) C dX11_feast_75 hl (by decide) rfl (fun ls hl => ?_)
              refine j_iload C dX11_feast_77 (lv_at hl 0 rfl) ?_
              refine j_if_eq (tgt := 89) C dX11_feast_79 (by decide) (fun c_20_ => ?_) (fun c_20_ => ?_)
              · skip
                exact absurd c_20_ (by decide)
              · skip
                refine j_aload_n C dX11_feast_82 rfl (lv_at hl 2 rfl) ?_
                refine j_iload C dX11_feast_83 (lv_at hl 0 rfl) ?_
                refine j_callV (k := 55) C [.int (3)] [] (k_X11_comeTo l ad tk nt V1  (3)) v_RX11_86 (xl (by decide)) (rfl) rfl ⟨rfl, rfl, Nat.le_of_ble_eq_true rfl, Nat.le_of_ble_eq_true rfl⟩ rfl hl.1 rfl (Nat.le_of_ble_eq_true rfl) ⟨Nat.le_of_ble_eq_true rfl, Nat.le_of_ble_eq_true rfl⟩ dX11_feast_85 (kI fun x_21_ U21 h_21_ => ?_)
                obtain ⟨eU21, h_21_⟩ := h_21_
                refine j_iret C ⟨rfl, _, rfl, ?_⟩ dX11_feast_88
                simp only [← eV1]
                obtain ⟨hin1, hcl1⟩ := inz ej1 hj1 (by omega)
                have el : ¬ V1 (34 + 2 * j_1_) 0 = -1 ∧ V1 (34 + 2 * j_1_) 0 = z1 := by
                  rw [h_8_] at c_9_
                  split at c_9_
                  · exact absurd c_9_ (by decide)
                  · split at c_9_
                    · exact ⟨by assumption, by assumption⟩
                    · exact absurd c_9_ (by decide)
                have ec : clF (V1 (34 + 2 * j_1_) 0) z1 (decide (0 ≤ z2 ∧ z2 ≤ V1 (34 + 2 * j_1_) 1 ∧ 0 ≤ 2 * z3 ∧ 2 * z3 ≤ V1 (34 + 2 * j_1_) 1 - z2)) = 3 := by
                  unfold clF
                  rw [if_neg el.1, if_pos el.2, if_neg (by simpa using b13)]
                rw [if_pos hin1, hcl1, if_pos b3, if_pos b5, if_pos b7, ec, if_neg (by decide)]
                exact ⟨h_21_, eU21⟩
        · skip
          have b7 := bI_0.mp (h_6_ ▸ c_7_)
          refine j_bipush (v := (-2)) C dX11_feast_45 (by decide) ?_
          refine j_iret C ⟨rfl, _, rfl, ?_⟩ dX11_feast_47
          simp only [← eV1]
          obtain ⟨hin1, hcl1⟩ := inz ej1 hj1 (by omega)
          rw [if_pos hin1, hcl1, if_pos b3, if_pos b5, if_neg b7]
          exact ⟨by trivial, by trivial⟩
  · subst ev1
    refine j_astoreN (lv2 := [(6, .null), (0, .ref (ad (55))), (1, .int (z0)), (2, .int (z1)), (3, .int (z2)), (4, .int (z3)), (5, .int (z4))]) C dX11_feast_10 hl (by decide) rfl (fun ls hl => ?_)
    refine j_aloadN C dX11_feast_12 (lv_at hl 0 rfl) ?_
    refine j_ifnonnullN C dX11_feast_14 ?_
    refine j_iconst (v := (-1)) C dX11_feast_17 (by decide) ?_
    refine j_iret C ⟨rfl, _, rfl, ?_⟩ dX11_feast_18
    simp only [← eV1]
    rw [if_neg (outR ho1)]
    exact ⟨by trivial, by trivial⟩
