abbrev rm_X12_does : Room := { frames := 2, cells := 0, slots := 0, locals := 45 }
set_option maxHeartbeats 4000000 in
set_option maxRecDepth 100000 in
theorem k_X12_does (l : Launch) (ad : Nat → Nat) (V : Vt) (z0 z1 : Int32) (ng nt : Nat) (rc ys ls9 : Nat → Int32) (F : Fs) (hF : feM V ng nt rc ys ls9 F) (hok : rfI nt z0 z1 = 0)  : Ct l yX12_does cX12_does 5 (some .boolean) rm_X12_does (mS ad) V [.ref (ad (0)), .int (z0), .int (z1)] (rI fun x V2 => frM ng V V2 ∧ ((∃ G, feS nt ng rc ys ls9 F z0 z1 = some G ∧ x = 1 ∧ feM V2 ng nt rc ys ls9 G) ∨ (feS nt ng rc ys ls9 F z0 z1 = none ∧ x = 0 ∧ V2 = V))) := by
  refine Ct_of (by decide) (Nat.le_of_ble_eq_true rfl) ?_
  intro p e s m below meth c A D cy ls C hl
  have hl : lv_has ls 5 [(0, .ref (ad (0))), (1, .int (z0)), (2, .int (z1))] := hl
  have ng4 := hF.1.2.2.1
  have nt5 := hF.1.2.2.2.2.2.1
  refine j_iload_n C dX12_does_0 rfl (lv_at hl 2 rfl) ?_
  refine j_bipush (v := 10) C dX12_does_1 (by decide) ?_
  refine j_icmp_ne (tgt := 13) C dX12_does_3 (by decide) (fun c_1_ => ?_) (fun c_1_ => ?_)
  · skip
    refine j_iload_n C dX12_does_13 rfl (lv_at hl 2 rfl) ?_
    refine j_bipush (v := 11) C dX12_does_14 (by decide) ?_
    refine j_icmp_ne (tgt := 23) C dX12_does_16 (by decide) (fun c_2_ => ?_) (fun c_2_ => ?_)
    · skip
      obtain ⟨t9, ht9, et9⟩ := rfI_t nt5 hok c_1_ c_2_
      refine j_iload_n C dX12_does_23 rfl (lv_at hl 2 rfl) ?_
      refine j_istore_n (lv2 := [(3, .int (z1)), (0, .ref (ad (0))), (1, .int (z0)), (2, .int (z1))]) C dX12_does_24 rfl hl (by decide) rfl (fun ls hl => ?_)
      refine j_aload_n C dX12_does_25 rfl (lv_at hl 1 rfl) ?_
      refine j_iload_n C dX12_does_26 rfl (lv_at hl 0 rfl) ?_
      refine j_callV (k := 0) C [.int (z1)] [] (k_X12_isGirl l ad V (z1)  ng hF.1.2.1 (by omega)) v_RX12_161 (ml (by decide)) (rfl) rfl ⟨rfl, rfl, Nat.le_of_ble_eq_true rfl, Nat.le_of_ble_eq_true rfl⟩ rfl hl.1 rfl (Nat.le_of_ble_eq_true rfl) ⟨Nat.le_of_ble_eq_true rfl, Nat.le_of_ble_eq_true rfl⟩ dX12_does_27 (kI fun x_3_ U3 h_3_ => ?_)
      obtain ⟨eU3, h_3_⟩ := h_3_
      have eU3 := eU3.symm
      subst eU3
      rcases h_3_ with ⟨j_3_, hj3, ej3, ex3⟩ | ⟨ho3, ex3⟩
      · subst ex3
        have hr3 := (hF.1.2.2.2.1 _ hj3).2.2.2.1
        refine j_if_eq (tgt := 50) C dX12_does_30 (by decide) (fun c_4_ => ?_) (fun c_4_ => ?_)
        · exact absurd c_4_ (by decide)
        · skip
          refine j_iload_n C dX12_does_33 rfl (lv_at hl 3 rfl) ?_
          refine j_bipush (v := 11) C dX12_does_34 (by decide) ?_
          refine j_icmp_eq (tgt := 52) C dX12_does_36 (by decide) (fun c_5_ => ?_) (fun c_5_ => ?_)
          · skip
            have q5 := cEq (ej3) (show (11 : Int32) = nI 11 from rfl) (by omega) (by omega) c_5_
            first | exact absurd c_2_ c_5_ | exact absurd c_5_ c_2_
          · skip
            have q5 := cNq (ej3) (show (11 : Int32) = nI 11 from rfl) (by omega) (by omega) c_5_
            refine j_aload_n C dX12_does_39 rfl (lv_at hl 1 rfl) ?_
            refine j_getR (k := 0) (k2 := 8) C (f_RX12_31_12) (ml (by decide)) (rfl) (rfl) dX12_does_40 ?_
            refine j_iload_n C dX12_does_43 rfl (lv_at hl 0 rfl) ?_
            refine j_ialdE (k := 8) (n := 4) (t := j_3_) C (ml (by decide)) (rfl) (rfl) (ej3) (by omega) (by decide) dX12_does_44 ?_
            refine j_bipush (v := 8) C dX12_does_45 (by decide) ?_
            refine j_icmp_ne (tgt := 52) C dX12_does_47 (by decide) (fun c_6_ => ?_) (fun c_6_ => ?_)
            · skip
              have q6 := cNq ((hF.1.2.2.2.1 _ hj3).2.2.1) (show (8 : Int32) = nI 8 from rfl) (by omega) (by omega) c_6_
              refine j_iload_n C dX12_does_52 rfl (lv_at hl 3 rfl) ?_
              refine j_bipush (v := 11) C dX12_does_53 (by decide) ?_
              refine j_icmp_ne (tgt := 67) C dX12_does_55 (by decide) (fun c_7_ => ?_) (fun c_7_ => ?_)
              · skip
                have q7 := cNq (ej3) (show (11 : Int32) = nI 11 from rfl) (by omega) (by omega) c_7_
                refine j_aload_n C dX12_does_67 rfl (lv_at hl 1 rfl) ?_
                refine j_iload_n C dX12_does_68 rfl (lv_at hl 2 rfl) ?_
                refine j_iload_n C dX12_does_69 rfl (lv_at hl 0 rfl) ?_
                refine j_callV (k := 0) C [.int (z0), .int (z1)] [] (k_X12_measureOf l ad V (z0) (z1) t9 (et9) (by omega) j_3_ (ej3) (by omega) ) v_RX12_179 (ml (by decide)) (rfl) rfl ⟨rfl, rfl, Nat.le_of_ble_eq_true rfl, Nat.le_of_ble_eq_true rfl⟩ rfl hl.1 rfl (Nat.le_of_ble_eq_true rfl) ⟨Nat.le_of_ble_eq_true rfl, Nat.le_of_ble_eq_true rfl⟩ dX12_does_70 (kI fun x_8_ U8 h_8_ => ?_)
                obtain ⟨eU8, h_8_⟩ := h_8_
                have eU8 := eU8.symm
                subst eU8
                refine j_istore (lv2 := [(4, .int (x_8_)), (3, .int (z1)), (0, .ref (ad (0))), (1, .int (z0)), (2, .int (z1))]) C dX12_does_73 hl (by decide) rfl (fun ls hl => ?_)
                refine j_aload_n C dX12_does_75 rfl (lv_at hl 2 rfl) ?_
                refine j_dup C dX12_does_76 rfl ?_
                refine j_getI (k := 0) C (f_RX12_189_12) (ml (by decide)) (rfl) dX12_does_77 ?_
                refine j_iload C dX12_does_80 (lv_at hl 0 rfl) ?_
                refine j_if_ne (tgt := 89) C dX12_does_82 (by decide) (fun c_9_ => ?_) (fun c_9_ => ?_)
                · skip
                  refine j_iconst (v := 0) C dX12_does_89 (by decide) ?_
                  refine j_iadd C dX12_does_90 ?_
                  refine j_putI (k := 0) C (f_RX12_189_12) p_12_25 (ml (by decide)) (rfl) dX12_does_91 (fun V1 eV1 => ?_)
                  refine j_aload_n C dX12_does_94 rfl (lv_at hl 2 rfl) ?_
                  refine j_dup C dX12_does_95 rfl ?_
                  refine j_getI (k := 0) C (f_RX12_192_12) (ml (by decide)) (rfl) dX12_does_96 ?_
                  refine j_iload C dX12_does_99 (lv_at hl 0 rfl) ?_
                  refine j_if_ne (tgt := 116) C dX12_does_101 (by decide) (fun c_10_ => ?_) (fun c_10_ => ?_)
                  · skip
                    refine j_iconst (v := 0) C dX12_does_116 (by decide) ?_
                    refine j_iadd C dX12_does_117 ?_
                    refine j_putI (k := 0) C (f_RX12_192_12) p_12_26 (ml (by decide)) (rfl) dX12_does_118 (fun V2 eV2 => ?_)
                    refine j_aload_n C dX12_does_121 rfl (lv_at hl 2 rfl) ?_
                    refine j_iload_n C dX12_does_122 rfl (lv_at hl 3 rfl) ?_
                    refine j_iload_n C dX12_does_123 rfl (lv_at hl 1 rfl) ?_
                    refine j_iload C dX12_does_124 (lv_at hl 0 rfl) ?_
                    refine j_callV (k := 0) C [.int (z0), .int (z1), .int (x_8_)] [] (k_X12_layOn l ad V2 (z0) (z1) (x_8_) j_3_ (ej3) (by omega) (F.2.1 j_3_) (by rw [eV2, up2_k _ _ (by decide), eV1, up2_k _ _ (by decide)]; exact (hF.1.2.2.2.1 _ hj3).2.2.1) (by omega)) v_RX12_182 (ml (by decide)) (rfl) rfl ⟨rfl, rfl, Nat.le_of_ble_eq_true rfl, Nat.le_of_ble_eq_true rfl⟩ rfl hl.1 rfl (Nat.le_of_ble_eq_true rfl) ⟨Nat.le_of_ble_eq_true rfl, Nat.le_of_ble_eq_true rfl⟩ dX12_does_126 (kU fun U11 h_11_ => ?_)
                    refine j_iconst (v := 1) C dX12_does_129 (by decide) ?_
                    refine j_zret C rfl ⟨rfl, _, rfl, ?_⟩ dX12_does_130
                    obtain ⟨hin9, hcl9⟩ := inz et9 ht9 (by omega)
                    obtain ⟨hin1, hcl1⟩ := inz ej3 hj3 (by omega)
                    have e8 : F.2.1 j_3_ < 8 := by omega
                    have eT : U11 = thM V t9 j_3_ (F.2.1 j_3_) x_8_ := by
                      rw [h_11_]
                      unfold thM
                      rw [eV2, eV1, if_neg c_9_, if_neg (fun q => c_10_ q.1), up2_i V _ (show 26 ≠ 25 by decide), et9]
                    rw [eT]
                    refine ⟨thM_fr hj3, Or.inl ⟨_, ?_, rfl, feM_throw hj3 e8 (by rw [h_8_]; unfold nrM; rw [hF.1.2.2.2.2.2.2 t9 ht9, (hF.1.2.2.2.1 _ hj3).1, (hF.1.2.2.2.1 _ hj3).2.1, hF.1.1]) hF⟩⟩
                    unfold feS
                    rw [if_neg c_1_, if_neg c_2_, if_pos hin9, if_pos hin1, hcl1, if_pos e8, hcl9]
                  · skip
                    first | exact absurd c_9_ c_10_ | exact absurd c_10_ c_9_
                · skip
                  refine j_iconst (v := 1) C dX12_does_85 (by decide) ?_
                  refine j_goto (tgt := 90) C dX12_does_86 (by decide) ?_
                  refine j_iadd C dX12_does_90 ?_
                  refine j_putI (k := 0) C (f_RX12_189_12) p_12_25 (ml (by decide)) (rfl) dX12_does_91 (fun V3 eV3 => ?_)
                  refine j_aload_n C dX12_does_94 rfl (lv_at hl 2 rfl) ?_
                  refine j_dup C dX12_does_95 rfl ?_
                  refine j_getI (k := 0) C (f_RX12_192_12) (ml (by decide)) (rfl) dX12_does_96 ?_
                  refine j_iload C dX12_does_99 (lv_at hl 0 rfl) ?_
                  refine j_if_ne (tgt := 116) C dX12_does_101 (by decide) (fun c_12_ => ?_) (fun c_12_ => ?_)
                  · skip
                    first | exact absurd c_9_ c_12_ | exact absurd c_12_ c_9_
                  · skip
                    refine j_aload_n C dX12_does_104 rfl (lv_at hl 2 rfl) ?_
                    refine j_iload_n C dX12_does_105 rfl (lv_at hl 1 rfl) ?_
                    refine j_callV (k := 0) C [.int (z1)] [.int (V3 0 26), .ref (ad (0))] (k_X12_ringers l ad V3 (z1) j_3_ (ej3) (by omega) (F.2.1 j_3_) (by rw [eV3, up2_k _ _ (by decide)]; exact (hF.1.2.2.2.1 _ hj3).2.2.1) (by omega)) v_RX12_167 (ml (by decide)) (rfl) rfl ⟨rfl, rfl, Nat.le_of_ble_eq_true rfl, Nat.le_of_ble_eq_true rfl⟩ rfl hl.1 rfl (Nat.le_of_ble_eq_true rfl) ⟨Nat.le_of_ble_eq_true rfl, Nat.le_of_ble_eq_true rfl⟩ dX12_does_106 (kI fun x_13_ U13 h_13_ => ?_)
                    obtain ⟨eU13, h_13_⟩ := h_13_
                    have eU13 := eU13.symm
                    subst eU13
                    rw [show mM V3 j_3_ = mM V j_3_ by funext i; unfold mM; rw [eV3, up2_k _ _ (by decide)]] at h_13_
                    have hcl8 := cntI_le (fun i => mM V j_3_ i = 0) (F.2.1 j_3_)
                    refine j_if_le (tgt := 116) C dX12_does_109 (by decide) (fun c_14_ => ?_) (fun c_14_ => ?_)
                    · have n_14_ := Int32.not_lt.mpr c_14_
                      have q14 := cLe (h_13_) (show (0 : Int32) = nI 0 from rfl) (by omega) (by omega) c_14_
                      refine j_iconst (v := 0) C dX12_does_116 (by decide) ?_
                      refine j_iadd C dX12_does_117 ?_
                      refine j_putI (k := 0) C (f_RX12_192_12) p_12_26 (ml (by decide)) (rfl) dX12_does_118 (fun V4 eV4 => ?_)
                      refine j_aload_n C dX12_does_121 rfl (lv_at hl 2 rfl) ?_
                      refine j_iload_n C dX12_does_122 rfl (lv_at hl 3 rfl) ?_
                      refine j_iload_n C dX12_does_123 rfl (lv_at hl 1 rfl) ?_
                      refine j_iload C dX12_does_124 (lv_at hl 0 rfl) ?_
                      refine j_callV (k := 0) C [.int (z0), .int (z1), .int (x_8_)] [] (k_X12_layOn l ad V4 (z0) (z1) (x_8_) j_3_ (ej3) (by omega) (F.2.1 j_3_) (by rw [eV4, up2_k _ _ (by decide), eV3, up2_k _ _ (by decide)]; exact (hF.1.2.2.2.1 _ hj3).2.2.1) (by omega)) v_RX12_182 (ml (by decide)) (rfl) rfl ⟨rfl, rfl, Nat.le_of_ble_eq_true rfl, Nat.le_of_ble_eq_true rfl⟩ rfl hl.1 rfl (Nat.le_of_ble_eq_true rfl) ⟨Nat.le_of_ble_eq_true rfl, Nat.le_of_ble_eq_true rfl⟩ dX12_does_126 (kU fun U15 h_15_ => ?_)
                      refine j_iconst (v := 1) C dX12_does_129 (by decide) ?_
                      refine j_zret C rfl ⟨rfl, _, rfl, ?_⟩ dX12_does_130
                      obtain ⟨hin9, hcl9⟩ := inz et9 ht9 (by omega)
                      obtain ⟨hin1, hcl1⟩ := inz ej3 hj3 (by omega)
                      have e8 : F.2.1 j_3_ < 8 := by omega
                      have eT : U15 = thM V t9 j_3_ (F.2.1 j_3_) x_8_ := by
                        rw [h_15_]
                        unfold thM
                        rw [eV4, eV3, if_pos c_9_, if_neg (fun q => absurd q.2 (by omega)), up2_i V _ (show 26 ≠ 25 by decide), et9]
                      rw [eT]
                      refine ⟨thM_fr hj3, Or.inl ⟨_, ?_, rfl, feM_throw hj3 e8 (by rw [h_8_]; unfold nrM; rw [hF.1.2.2.2.2.2.2 t9 ht9, (hF.1.2.2.2.1 _ hj3).1, (hF.1.2.2.2.1 _ hj3).2.1, hF.1.1]) hF⟩⟩
                      unfold feS
                      rw [if_neg c_1_, if_neg c_2_, if_pos hin9, if_pos hin1, hcl1, if_pos e8, hcl9]
                    · have n_14_ := Int32.not_le.mp c_14_
                      have q14 := cNe (h_13_) (show (0 : Int32) = nI 0 from rfl) (by omega) (by omega) c_14_
                      refine j_iconst (v := 1) C dX12_does_112 (by decide) ?_
                      refine j_goto (tgt := 117) C dX12_does_113 (by decide) ?_
                      refine j_iadd C dX12_does_117 ?_
                      refine j_putI (k := 0) C (f_RX12_192_12) p_12_26 (ml (by decide)) (rfl) dX12_does_118 (fun V5 eV5 => ?_)
                      refine j_aload_n C dX12_does_121 rfl (lv_at hl 2 rfl) ?_
                      refine j_iload_n C dX12_does_122 rfl (lv_at hl 3 rfl) ?_
                      refine j_iload_n C dX12_does_123 rfl (lv_at hl 1 rfl) ?_
                      refine j_iload C dX12_does_124 (lv_at hl 0 rfl) ?_
                      refine j_callV (k := 0) C [.int (z0), .int (z1), .int (x_8_)] [] (k_X12_layOn l ad V5 (z0) (z1) (x_8_) j_3_ (ej3) (by omega) (F.2.1 j_3_) (by rw [eV5, up2_k _ _ (by decide), eV3, up2_k _ _ (by decide)]; exact (hF.1.2.2.2.1 _ hj3).2.2.1) (by omega)) v_RX12_182 (ml (by decide)) (rfl) rfl ⟨rfl, rfl, Nat.le_of_ble_eq_true rfl, Nat.le_of_ble_eq_true rfl⟩ rfl hl.1 rfl (Nat.le_of_ble_eq_true rfl) ⟨Nat.le_of_ble_eq_true rfl, Nat.le_of_ble_eq_true rfl⟩ dX12_does_126 (kU fun U16 h_16_ => ?_)
                      refine j_iconst (v := 1) C dX12_does_129 (by decide) ?_
                      refine j_zret C rfl ⟨rfl, _, rfl, ?_⟩ dX12_does_130
                      obtain ⟨hin9, hcl9⟩ := inz et9 ht9 (by omega)
                      obtain ⟨hin1, hcl1⟩ := inz ej3 hj3 (by omega)
                      have e8 : F.2.1 j_3_ < 8 := by omega
                      have eT : U16 = thM V t9 j_3_ (F.2.1 j_3_) x_8_ := by
                        rw [h_16_]
                        unfold thM
                        rw [eV5, eV3, if_pos c_9_, if_pos ⟨c_12_, by omega⟩, up2_i V _ (show 26 ≠ 25 by decide), et9]
                      rw [eT]
                      refine ⟨thM_fr hj3, Or.inl ⟨_, ?_, rfl, feM_throw hj3 e8 (by rw [h_8_]; unfold nrM; rw [hF.1.2.2.2.2.2.2 t9 ht9, (hF.1.2.2.2.1 _ hj3).1, (hF.1.2.2.2.1 _ hj3).2.1, hF.1.1]) hF⟩⟩
                      unfold feS
                      rw [if_neg c_1_, if_neg c_2_, if_pos hin9, if_pos hin1, hcl1, if_pos e8, hcl9]
              · skip
                have q7 := cEq (ej3) (show (11 : Int32) = nI 11 from rfl) (by omega) (by omega) c_7_
                first | exact absurd c_2_ c_7_ | exact absurd c_7_ c_2_
            · skip
              have q6 := cEq ((hF.1.2.2.2.1 _ hj3).2.2.1) (show (8 : Int32) = nI 8 from rfl) (by omega) (by omega) c_6_
              refine j_iconst (v := 0) C dX12_does_50 (by decide) ?_
              refine j_zret C rfl ⟨rfl, _, rfl, ?_⟩ dX12_does_51
              obtain ⟨hin9, hcl9⟩ := inz et9 ht9 (by omega)
              obtain ⟨hin1, hcl1⟩ := inz ej3 hj3 (by omega)
              refine ⟨frM.rf, Or.inr ⟨?_, rfl, rfl⟩⟩
              unfold feS
              rw [if_neg c_1_, if_neg c_2_, if_pos hin9, if_pos hin1, hcl1, if_neg (by omega)]
      · subst ex3
        refine j_if_eq (tgt := 50) C dX12_does_30 (by decide) (fun c_17_ => ?_) (fun c_17_ => ?_)
        · skip
          refine j_iconst (v := 0) C dX12_does_50 (by decide) ?_
          refine j_zret C rfl ⟨rfl, _, rfl, ?_⟩ dX12_does_51
          obtain ⟨hin9, hcl9⟩ := inz et9 ht9 (by omega)
          refine ⟨frM.rf, Or.inr ⟨?_, rfl, rfl⟩⟩
          unfold feS
          rw [if_neg c_1_, if_neg c_2_, if_pos hin9, if_neg (outR ho3)]
        · exact absurd rfl c_17_
    · skip
      refine j_iload_n C dX12_does_19 rfl (lv_at hl 1 rfl) ?_
      refine j_goto (tgt := 24) C dX12_does_20 (by decide) ?_
      refine j_istore_n (lv2 := [(3, .int (z0)), (0, .ref (ad (0))), (1, .int (z0)), (2, .int (z1))]) C dX12_does_24 rfl hl (by decide) rfl (fun ls hl => ?_)
      refine j_aload_n C dX12_does_25 rfl (lv_at hl 1 rfl) ?_
      refine j_iload_n C dX12_does_26 rfl (lv_at hl 0 rfl) ?_
      refine j_callV (k := 0) C [.int (z0)] [] (k_X12_isGirl l ad V (z0)  ng hF.1.2.1 (by omega)) v_RX12_161 (ml (by decide)) (rfl) rfl ⟨rfl, rfl, Nat.le_of_ble_eq_true rfl, Nat.le_of_ble_eq_true rfl⟩ rfl hl.1 rfl (Nat.le_of_ble_eq_true rfl) ⟨Nat.le_of_ble_eq_true rfl, Nat.le_of_ble_eq_true rfl⟩ dX12_does_27 (kI fun x_18_ U18 h_18_ => ?_)
      obtain ⟨eU18, h_18_⟩ := h_18_
      have eU18 := eU18.symm
      subst eU18
      rcases h_18_ with ⟨j_18_, hj18, ej18, ex18⟩ | ⟨ho18, ex18⟩
      · subst ex18
        have hr18 := (hF.1.2.2.2.1 _ hj18).2.2.2.1
        refine j_if_eq (tgt := 50) C dX12_does_30 (by decide) (fun c_19_ => ?_) (fun c_19_ => ?_)
        · exact absurd c_19_ (by decide)
        · skip
          refine j_iload_n C dX12_does_33 rfl (lv_at hl 3 rfl) ?_
          refine j_bipush (v := 11) C dX12_does_34 (by decide) ?_
          refine j_icmp_eq (tgt := 52) C dX12_does_36 (by decide) (fun c_20_ => ?_) (fun c_20_ => ?_)
          · skip
            refine j_iload_n C dX12_does_52 rfl (lv_at hl 3 rfl) ?_
            refine j_bipush (v := 11) C dX12_does_53 (by decide) ?_
            refine j_icmp_ne (tgt := 67) C dX12_does_55 (by decide) (fun c_21_ => ?_) (fun c_21_ => ?_)
            · skip
              first | exact absurd c_2_ c_21_ | exact absurd c_21_ c_2_
            · skip
              refine j_aload_n C dX12_does_58 rfl (lv_at hl 1 rfl) ?_
              refine j_getR (k := 0) (k2 := 8) C (f_RX12_31_12) (ml (by decide)) (rfl) (rfl) dX12_does_59 ?_
              refine j_iload_n C dX12_does_62 rfl (lv_at hl 0 rfl) ?_
              refine j_iconst (v := 0) C dX12_does_63 (by decide) ?_
              refine j_iastE (k := 8) (n := 4) (t := j_18_) C (ml (by decide)) (rfl) (rfl) (ej18) (by omega) (by decide) dX12_does_64 (fun V6 eV6 => ?_)
              refine j_iconst (v := 1) C dX12_does_65 (by decide) ?_
              refine j_zret C rfl ⟨rfl, _, rfl, ?_⟩ dX12_does_66
              obtain ⟨hin1, hcl1⟩ := inz ej18 hj18 (by omega)
              refine ⟨by rw [eV6]; exact frM.up (Or.inl ⟨rfl, hj18⟩), Or.inl ⟨_, ?_, rfl, by rw [eV6]; exact feM_clear hF⟩⟩
              unfold feS
              rw [if_neg c_1_, if_pos c_2_, if_pos hin1, hcl1]
          · skip
            first | exact absurd c_2_ c_20_ | exact absurd c_20_ c_2_
      · subst ex18
        refine j_if_eq (tgt := 50) C dX12_does_30 (by decide) (fun c_22_ => ?_) (fun c_22_ => ?_)
        · skip
          refine j_iconst (v := 0) C dX12_does_50 (by decide) ?_
          refine j_zret C rfl ⟨rfl, _, rfl, ?_⟩ dX12_does_51
          refine ⟨frM.rf, Or.inr ⟨?_, rfl, rfl⟩⟩
          unfold feS
          rw [if_neg c_1_, if_pos c_2_, if_neg (outR ho18)]
        · exact absurd rfl c_22_
  · skip
    refine j_aload_n C dX12_does_6 rfl (lv_at hl 0 rfl) ?_
    refine j_iload_n C dX12_does_7 rfl (lv_at hl 1 rfl) ?_
    refine j_putI (k := 0) C (f_RX12_126_12) p_12_5 (ml (by decide)) (rfl) dX12_does_8 (fun V7 eV7 => ?_)
    refine j_iconst (v := 1) C dX12_does_11 (by decide) ?_
    refine j_zret C rfl ⟨rfl, _, rfl, ?_⟩ dX12_does_12
    exact ⟨by rw [eV7]; exact frM.up (by omega), Or.inl ⟨_, if_pos c_1_, rfl, by rw [eV7]; exact feM_frost hF⟩⟩
