theorem feM0_f {V : Vt} {ng nt : Nat} {rc ys ls : Nat → Int32} {F : Fs} {z : Int32} (h : feM0 V ng nt rc ys ls F) : feM0 (up2 V 0 0 z) ng nt rc ys ls F := by
  obtain ⟨q1, q2, q3, q4, q5, q6, q7⟩ := h
  refine ⟨by rw [up2_i _ _ (by decide)]; exact q1, by rw [up2_i _ _ (by decide)]; exact q2, q3, fun g hg => ?_, by rw [up2_i _ _ (by decide)]; exact q5, q6, fun t ht => by rw [up2_k _ _ (by decide), up2_k _ _ (by decide)]; exact q7 t ht⟩
  unfold mW mM
  rw [up2_k V _ (show 4 ≠ 0 by decide), up2_k V _ (show 5 ≠ 0 by decide), up2_k V _ (show 8 ≠ 0 by decide), up2_k V _ (show 9 ≠ 0 by decide), up2_k V _ (show 10 ≠ 0 by decide)]
  exact q4 g hg
theorem rfN_all {nt n : Nat} {c : Nat → Int32} (h : rfN nt c n = 0) : ∀ p, p < n → rfI nt (c (2 * p)) (c (2 * p + 1)) = 0 := by
  intro p hp
  have h_1_ : rfN nt c (p + 1) = 0 := Classical.byContradiction (fun q => q (by have := rfN_st q n (by omega); rw [this] at h; exact absurd h q))
  have h_0_ : rfN nt c p = 0 := Classical.byContradiction (fun q => q (by have := rfN_st q n (by omega); rw [this] at h; exact absurd h q))
  rw [rfN, if_pos h_0_] at h_1_
  exact h_1_
abbrev rm_X12_feast : Room := { frames := 4, cells := 0, slots := 0, locals := 92 }
set_option maxHeartbeats 4000000 in
set_option maxRecDepth 100000 in
theorem k_X12_feast (l : Launch) (ad : Nat → Nat) (V : Vt) (z0 z1 z2 z3 z4 : Int32) (ng : Nat) (rr : Nat → Nat) (nt c_0_ : Nat) (hM : MI V ng rr nt c_0_) (rc ys ls9 : Nat → Int32) (F : Fs) (hF : feM0 V ng nt rc ys ls9 F) (hz1 : F.2.2.2.2.1 = 0) (hz2 : F.2.2.2.2.2 = 0)  : Ct l yX12_feast cX12_feast 10 (some .int) rm_X12_feast (mS ad) V [.ref (ad (0)), .int (z0), .int (z1), .int (z2), .int (z3), .int (z4)] (rI fun x V2 => if ¬ z0 < 0 ∧ z0 < nI 4 then (if 0 ≤ z1 ∧ z1 ≤ 2 then (if 0 ≤ z3 ∧ z3 ≤ 20 then (if (0 ≤ z4 ∧ z4 ≤ 4) ∨ (10 ≤ z4 ∧ z4 ≤ 13) then (if agI ((up2 V 0 0 0) 1 z0.toNatClampNeg) ((up2 V 0 0 0) 2 z0.toNatClampNeg) z1 z2 (2 * z3) = 0 then (if ng = 0 then (x = -3 ∧ V2 = (up2 V 0 0 0)) else if rfN nt (fun j => (up2 V 0 0 0) 3 (60 * z0.toNatClampNeg + z2.toNatClampNeg + j)) z3.toNatClampNeg = 0 then (feX nt ng rc ys ls9 F (fun j => (up2 V 0 0 0) 3 (60 * z0.toNatClampNeg + z2.toNatClampNeg + j)) z3.toNatClampNeg z4 x ∧ scE ng rr (up2 V 0 0 0) V2) else (x = rfN nt (fun j => (up2 V 0 0 0) 3 (60 * z0.toNatClampNeg + z2.toNatClampNeg + j)) z3.toNatClampNeg ∧ V2 = (up2 V 0 0 0))) else (x = -10 - agI ((up2 V 0 0 0) 1 z0.toNatClampNeg) ((up2 V 0 0 0) 2 z0.toNatClampNeg) z1 z2 (2 * z3) ∧ V2 = up2 (up2 V 0 0 0) 0 0 (agI ((up2 V 0 0 0) 1 z0.toNatClampNeg) ((up2 V 0 0 0) 2 z0.toNatClampNeg) z1 z2 (2 * z3)))) else (x = -2 ∧ V2 = (up2 V 0 0 0))) else (x = -2 ∧ V2 = (up2 V 0 0 0))) else (x = -2 ∧ V2 = (up2 V 0 0 0))) else (x = -1 ∧ V2 = (up2 V 0 0 0))) := by
  refine Ct_of (by decide) (Nat.le_of_ble_eq_true rfl) ?_
  intro p e s m below meth c A D cy ls C hl
  have hl : lv_has ls 10 [(0, .ref (ad (0))), (1, .int (z0)), (2, .int (z1)), (3, .int (z2)), (4, .int (z3)), (5, .int (z4))] := hl
  have ng4 := hM.2.1
  have nt5 := hM.2.2.2.1
  refine j_aload_n C dX12_feast_0 rfl (lv_at hl 0 rfl) ?_
  refine j_iconst (v := 0) C dX12_feast_1 (by decide) ?_
  refine j_putI (k := 0) C (f_RX12_79_12) p_12_0 (ml (by decide)) (rfl) dX12_feast_2 (fun V1 eV1 => ?_)
  have hM1 : MI V1 ng rr nt c_0_ := by rw [eV1]; exact MI_f hM
  refine j_iload_n C dX12_feast_5 rfl (lv_at hl 1 rfl) ?_
  refine j_callS C [.int (z0)] [] (k_X12_isSheet l (mS ad) V1 (z0)  ) v_RX12_102 ⟨rfl, rfl, Nat.le_of_ble_eq_true rfl, Nat.le_of_ble_eq_true rfl⟩ rfl hl.1 rfl (Nat.le_of_ble_eq_true rfl) ⟨Nat.le_of_ble_eq_true rfl, Nat.le_of_ble_eq_true rfl⟩ dX12_feast_6 (kI fun x_1_ U1 h_1_ => ?_)
  obtain ⟨eU1, h_1_⟩ := h_1_
  have eU1 := eU1.symm
  subst eU1
  rcases h_1_ with ⟨j_1_, hj1, ej1, ex1⟩ | ⟨ho1, ex1⟩
  · subst ex1
    obtain ⟨n_8_, hn8, en8⟩ := hM1.2.2.2.2.2.2.2.2 j_1_ hj1
    refine j_if_ne (tgt := 14) C dX12_feast_9 (by decide) (fun c_2_ => ?_) (fun c_2_ => ?_)
    · skip
      refine j_iload_n C dX12_feast_14 rfl (lv_at hl 2 rfl) ?_
      refine j_callS C [.int (z1)] [] (k_X12_isSort l (mS ad) V1 (z1)  ) v_RX12_106 ⟨rfl, rfl, Nat.le_of_ble_eq_true rfl, Nat.le_of_ble_eq_true rfl⟩ rfl hl.1 rfl (Nat.le_of_ble_eq_true rfl) ⟨Nat.le_of_ble_eq_true rfl, Nat.le_of_ble_eq_true rfl⟩ dX12_feast_15 (kI fun x_3_ U3 h_3_ => ?_)
      obtain ⟨eU3, h_3_⟩ := h_3_
      have eU3 := eU3.symm
      subst eU3
      refine j_if_eq (tgt := 54) C dX12_feast_18 (by decide) (fun c_4_ => ?_) (fun c_4_ => ?_)
      · skip
        have b4 := bI_0.mp (h_3_ ▸ c_4_)
        refine j_bipush (v := (-2)) C dX12_feast_54 (by decide) ?_
        refine j_iret C ⟨rfl, _, rfl, ?_⟩ dX12_feast_56
        simp only [← eV1]
        obtain ⟨hin1, hcl1⟩ := inz ej1 hj1 (by omega)
        rw [if_pos hin1, hcl1, if_neg b4]
        exact ⟨by trivial, by trivial⟩
      · skip
        have b4 := Decidable.not_not.mp (mt bI_0.mpr (h_3_ ▸ c_4_))
        refine j_iload C dX12_feast_21 (lv_at hl 4 rfl) ?_
        refine j_iconst (v := 0) C dX12_feast_23 (by decide) ?_
        refine j_bipush (v := 20) C dX12_feast_24 (by decide) ?_
        refine j_callS C [.int (z3), .int (0), .int (20)] [] (k_X12_within l (mS ad) V1 (z3) (0) (20)  ) v_RX12_85 ⟨rfl, rfl, Nat.le_of_ble_eq_true rfl, Nat.le_of_ble_eq_true rfl⟩ rfl hl.1 rfl (Nat.le_of_ble_eq_true rfl) ⟨Nat.le_of_ble_eq_true rfl, Nat.le_of_ble_eq_true rfl⟩ dX12_feast_26 (kI fun x_5_ U5 h_5_ => ?_)
        obtain ⟨eU5, h_5_⟩ := h_5_
        have eU5 := eU5.symm
        subst eU5
        refine j_if_eq (tgt := 54) C dX12_feast_29 (by decide) (fun c_6_ => ?_) (fun c_6_ => ?_)
        · skip
          have b6 := bI_0.mp (h_5_ ▸ c_6_)
          refine j_bipush (v := (-2)) C dX12_feast_54 (by decide) ?_
          refine j_iret C ⟨rfl, _, rfl, ?_⟩ dX12_feast_56
          simp only [← eV1]
          obtain ⟨hin1, hcl1⟩ := inz ej1 hj1 (by omega)
          rw [if_pos hin1, hcl1, if_pos b4, if_neg b6]
          exact ⟨by trivial, by trivial⟩
        · skip
          have b6 := Decidable.not_not.mp (mt bI_0.mpr (h_5_ ▸ c_6_))
          refine j_iload C dX12_feast_32 (lv_at hl 5 rfl) ?_
          refine j_iconst (v := 0) C dX12_feast_34 (by decide) ?_
          refine j_iconst (v := 4) C dX12_feast_35 (by decide) ?_
          refine j_callS C [.int (z4), .int (0), .int (4)] [] (k_X12_within l (mS ad) V1 (z4) (0) (4)  ) v_RX12_85 ⟨rfl, rfl, Nat.le_of_ble_eq_true rfl, Nat.le_of_ble_eq_true rfl⟩ rfl hl.1 rfl (Nat.le_of_ble_eq_true rfl) ⟨Nat.le_of_ble_eq_true rfl, Nat.le_of_ble_eq_true rfl⟩ dX12_feast_36 (kI fun x_7_ U7 h_7_ => ?_)
          obtain ⟨eU7, h_7_⟩ := h_7_
          have eU7 := eU7.symm
          subst eU7
          refine j_if_ne (tgt := 57) C dX12_feast_39 (by decide) (fun c_8_ => ?_) (fun c_8_ => ?_)
          · skip
            have b8 := Decidable.not_not.mp (mt bI_0.mpr (h_7_ ▸ c_8_))
            refine j_aload_n C dX12_feast_57 rfl (lv_at hl 0 rfl) ?_
            refine j_iload_n C dX12_feast_58 rfl (lv_at hl 1 rfl) ?_
            refine j_iload_n C dX12_feast_59 rfl (lv_at hl 2 rfl) ?_
            refine j_iload_n C dX12_feast_60 rfl (lv_at hl 3 rfl) ?_
            refine j_iconst (v := 2) C dX12_feast_61 (by decide) ?_
            refine j_iload C dX12_feast_62 (lv_at hl 4 rfl) ?_
            refine j_imul C dX12_feast_64 ?_
            refine j_callV (k := 0) C [.int (z0), .int (z1), .int (z2), .int (2 * z3)] [] (k_X12_against l ad V1 (z0) (z1) (z2) (2 * z3) j_1_ (ej1) (by omega) ) v_RX12_109 (ml (by decide)) (rfl) rfl ⟨rfl, rfl, Nat.le_of_ble_eq_true rfl, Nat.le_of_ble_eq_true rfl⟩ rfl hl.1 rfl (Nat.le_of_ble_eq_true rfl) ⟨Nat.le_of_ble_eq_true rfl, Nat.le_of_ble_eq_true rfl⟩ dX12_feast_65 (kI fun x_9_ U9 h_9_ => ?_)
            obtain ⟨eU9, h_9_⟩ := h_9_
            have eU9 := eU9.symm
            subst eU9
            skip
            refine j_istore (lv2 := [(6, .int (x_9_)), (0, .ref (ad (0))), (1, .int (z0)), (2, .int (z1)), (3, .int (z2)), (4, .int (z3)), (5, .int (z4))]) C dX12_feast_68 hl (by decide) rfl (fun ls hl => ?_)
            refine j_iload C dX12_feast_70 (lv_at hl 0 rfl) ?_
            refine j_if_eq (tgt := 82) C dX12_feast_72 (by decide) (fun c_10_ => ?_) (fun c_10_ => ?_)
            · skip
              have hag9 := h_9_.symm.trans c_10_
              obtain ⟨i8, k8, ei8, ek8, hik8⟩ := re60 en8 hn8 (agI_0 hag9)
              obtain ⟨n_7_, hn7, en7⟩ := nI_of2 (nI_toInt (n := 20) (by decide)) (Int32.not_lt.mpr b6.1) b6.2
              have hk7 : k8 = 2 * n_7_ := nI_inj (by omega) (by omega) (by rw [← ek8, en7, show (2 : Int32) = nI 2 from rfl, pk_mul])
              refine j_aload_n C dX12_feast_82 rfl (lv_at hl 1 rfl) ?_
              refine j_getI (k := 0) C (f_RX12_89_12) (ml (by decide)) (rfl) dX12_feast_83 ?_
              refine j_if_ne (tgt := 92) C dX12_feast_86 (by decide) (fun c_11_ => ?_) (fun c_11_ => ?_)
              · skip
                have q11 := cNq (hM1.1) (show (0 : Int32) = nI 0 from rfl) (by omega) (by omega) c_11_
                have nz9 : ¬ ng = 0 := q11
                refine j_bipush (v := 60) C dX12_feast_92 (by decide) ?_
                refine j_iload_n C dX12_feast_94 rfl (lv_at hl 2 rfl) ?_
                refine j_imul C dX12_feast_95 ?_
                refine j_iload_n C dX12_feast_96 rfl (lv_at hl 4 rfl) ?_
                refine j_iadd C dX12_feast_97 ?_
                refine j_istore (lv2 := [(7, .int ((60 * z0) + z2)), (6, .int (x_9_)), (0, .ref (ad (0))), (1, .int (z0)), (2, .int (z1)), (3, .int (z2)), (4, .int (z3)), (5, .int (z4))]) C dX12_feast_98 hl (by decide) rfl (fun ls hl => ?_)
                refine j_iconst (v := 0) C dX12_feast_100 (by decide) ?_
                refine j_istore (lv2 := [(8, .int (0)), (7, .int ((60 * z0) + z2)), (6, .int (x_9_)), (0, .ref (ad (0))), (1, .int (z0)), (2, .int (z1)), (3, .int (z2)), (4, .int (z3)), (5, .int (z4))]) C dX12_feast_101 hl (by decide) rfl (fun ls hl => ?_)
                have loop : ∀ (n_9_ : Nat) (p9 : Nat), p9 ≤ n_7_ → rfN nt (fun j => V1 3 (60 * j_1_ + i8 + j)) p9 = 0 → n_7_ - p9 < n_9_ → ∀ (ls : Array Slot), lv_has ls 10 [(0, .ref (ad (0))), (4, .int (z3)), (5, .int (z4)), (7, .int (nI (60 * j_1_ + i8))), (8, .int (nI p9))] → J p l e rm_X12_feast s m [.ref (ad (0)), .int (z0), .int (z1), .int (z2), .int (z3), .int (z4)].toArray below meth c A D cy 0 0 (MQ below (gPost D cy A (fun o9 σ2 V2 => σ2 = mS ad ∧ (rI fun x V2 => if ¬ z0 < 0 ∧ z0 < nI 4 then (if 0 ≤ z1 ∧ z1 ≤ 2 then (if 0 ≤ z3 ∧ z3 ≤ 20 then (if (0 ≤ z4 ∧ z4 ≤ 4) ∨ (10 ≤ z4 ∧ z4 ≤ 13) then (if agI ((up2 V 0 0 0) 1 z0.toNatClampNeg) ((up2 V 0 0 0) 2 z0.toNatClampNeg) z1 z2 (2 * z3) = 0 then (if ng = 0 then (x = -3 ∧ V2 = (up2 V 0 0 0)) else if rfN nt (fun j => (up2 V 0 0 0) 3 (60 * z0.toNatClampNeg + z2.toNatClampNeg + j)) z3.toNatClampNeg = 0 then (feX nt ng rc ys ls9 F (fun j => (up2 V 0 0 0) 3 (60 * z0.toNatClampNeg + z2.toNatClampNeg + j)) z3.toNatClampNeg z4 x ∧ scE ng rr (up2 V 0 0 0) V2) else (x = rfN nt (fun j => (up2 V 0 0 0) 3 (60 * z0.toNatClampNeg + z2.toNatClampNeg + j)) z3.toNatClampNeg ∧ V2 = (up2 V 0 0 0))) else (x = -10 - agI ((up2 V 0 0 0) 1 z0.toNatClampNeg) ((up2 V 0 0 0) 2 z0.toNatClampNeg) z1 z2 (2 * z3) ∧ V2 = up2 (up2 V 0 0 0) 0 0 (agI ((up2 V 0 0 0) 1 z0.toNatClampNeg) ((up2 V 0 0 0) 2 z0.toNatClampNeg) z1 z2 (2 * z3)))) else (x = -2 ∧ V2 = (up2 V 0 0 0))) else (x = -2 ∧ V2 = (up2 V 0 0 0))) else (x = -2 ∧ V2 = (up2 V 0 0 0))) else (x = -1 ∧ V2 = (up2 V 0 0 0))) o9 V2)) [.ref (ad (0)), .int (z0), .int (z1), .int (z2), .int (z3), .int (z4)].toArray s 0 0 A) (mS ad) V1 (F0 m 103 ls []) := by
                  intro n_9_
                  induction n_9_ with
                  | zero =>
                    intro p9 hi hz hm
                    exact absurd hm (by omega)
                  | succ n_9_ ih_loop =>
                    intro p9 hi hz hm ls hl
                    refine j_iload C dX12_feast_103 (lv_at hl 4 rfl) ?_
                    refine j_iload C dX12_feast_105 (lv_at hl 1 rfl) ?_
                    refine j_icmp_ge (tgt := 156) C dX12_feast_107 (by decide) (fun c_12_ => ?_) (fun c_12_ => ?_)
                    · have n_12_ := Int32.not_lt.mpr c_12_
                      have q12 := cLe (en7) (rfl) (by omega) (by omega) c_12_
                      refine j_aload_n C dX12_feast_156 rfl (lv_at hl 0 rfl) ?_
                      refine j_callV (k := 0) C [] [] (k_X12_keep l ad V1   ng hM1.1 ng4) v_RX12_201 (ml (by decide)) (rfl) rfl ⟨rfl, rfl, Nat.le_of_ble_eq_true rfl, Nat.le_of_ble_eq_true rfl⟩ rfl hl.1 rfl (Nat.le_of_ble_eq_true rfl) ⟨Nat.le_of_ble_eq_true rfl, Nat.le_of_ble_eq_true rfl⟩ dX12_feast_157 (kU fun U13 h_13_ => ?_)
                      obtain rfl : n_7_ = p9 := by omega
                      have hkp9 := h_13_
                      have hF1 : feM0 U13 ng nt rc ys ls9 F := by rw [hkp9]; exact feM0_K (by rw [eV1]; exact feM0_f hF)
                      refine j_aload_n C dX12_feast_160 rfl (lv_at hl 0 rfl) ?_
                      refine j_iload C dX12_feast_161 (lv_at hl 3 rfl) ?_
                      refine j_iload C dX12_feast_163 (lv_at hl 1 rfl) ?_
                      refine j_callV (k := 0) C [.int (nI (60 * j_1_ + i8)), .int (z3)] [] (k_X12_goFeast l ad U13 (nI (60 * j_1_ + i8)) (z3) (60 * j_1_ + i8) (rfl) (by omega) n_7_ (en7) (by omega) (by omega) ng nt rc ys ls9 F hF1 hz1 hz2 (fun p hp => by rw [hkp9, kpM_r3]; exact rfN_all hz p hp)) v_RX12_204 (ml (by decide)) (rfl) rfl ⟨rfl, rfl, Nat.le_of_ble_eq_true rfl, Nat.le_of_ble_eq_true rfl⟩ rfl hl.1 rfl (Nat.le_of_ble_eq_true rfl) ⟨Nat.le_of_ble_eq_true rfl, Nat.le_of_ble_eq_true rfl⟩ dX12_feast_165 (kI fun x_14_ U14 h_14_ => ?_)
                      obtain ⟨hgf9, qg, Gg, hgN, hgR, hgS⟩ := h_14_
                      rw [hkp9, kpM_r3] at hgN hgS
                      rw [hkp9] at hgf9
                      refine j_istore (lv2 := [(8, .int (x_14_)), (0, .ref (ad (0))), (4, .int (z3)), (5, .int (z4)), (7, .int (nI (60 * j_1_ + i8)))]) C dX12_feast_168 hl (by decide) rfl (fun ls hl => ?_)
                      refine j_aload_n C dX12_feast_170 rfl (lv_at hl 1 rfl) ?_
                      refine j_iload C dX12_feast_171 (lv_at hl 3 rfl) ?_
                      refine j_callV (k := 0) C [.int (z4)] [] (k_X12_tellFeast l ad U14 (z4)  ng hgR.1.2.1 ng4 Gg.2.1 (fun g hg => ⟨(hgR.1.2.2.2.1 g hg).2.2.1, (hgR.1.2.2.2.1 g hg).2.2.2.1⟩)) v_RX12_207 (ml (by decide)) (rfl) rfl ⟨rfl, rfl, Nat.le_of_ble_eq_true rfl, Nat.le_of_ble_eq_true rfl⟩ rfl hl.1 rfl (Nat.le_of_ble_eq_true rfl) ⟨Nat.le_of_ble_eq_true rfl, Nat.le_of_ble_eq_true rfl⟩ dX12_feast_173 (kI fun x_15_ U15 h_15_ => ?_)
                      obtain ⟨eU15, h_15_⟩ := h_15_
                      have eU15 := eU15.symm
                      subst eU15
                      have htf9 := h_15_
                      refine j_istore (lv2 := [(9, .int (x_15_)), (8, .int (x_14_)), (0, .ref (ad (0))), (4, .int (z3)), (5, .int (z4)), (7, .int (nI (60 * j_1_ + i8)))]) C dX12_feast_176 hl (by decide) rfl (fun ls hl => ?_)
                      refine j_aload_n C dX12_feast_178 rfl (lv_at hl 2 rfl) ?_
                      refine j_callV (k := 0) C [] [] (k_X12_putBack l ad U14   ng hgR.1.2.1 ng4) v_RX12_210 (ml (by decide)) (rfl) rfl ⟨rfl, rfl, Nat.le_of_ble_eq_true rfl, Nat.le_of_ble_eq_true rfl⟩ rfl hl.1 rfl (Nat.le_of_ble_eq_true rfl) ⟨Nat.le_of_ble_eq_true rfl, Nat.le_of_ble_eq_true rfl⟩ dX12_feast_179 (kU fun U16 h_16_ => ?_)
                      have hpb9 := h_16_
                      refine j_iload C dX12_feast_182 (lv_at hl 4 rfl) ?_
                      refine j_iconst (v := 1) C dX12_feast_184 (by decide) ?_
                      refine j_icmp_ne (tgt := 193) C dX12_feast_185 (by decide) (fun c_17_ => ?_) (fun c_17_ => ?_)
                      · skip
                        refine j_iload C dX12_feast_193 (lv_at hl 1 rfl) ?_
                        refine j_bipush (v := (-9)) C dX12_feast_195 (by decide) ?_
                        refine j_icmp_ne (tgt := 205) C dX12_feast_197 (by decide) (fun c_18_ => ?_) (fun c_18_ => ?_)
                        · skip
                          refine j_bipush (v := (-100)) C dX12_feast_205 (by decide) ?_
                          refine j_iload C dX12_feast_207 (lv_at hl 1 rfl) ?_
                          refine j_isub C dX12_feast_209 ?_
                          refine j_iret C ⟨rfl, _, rfl, ?_⟩ dX12_feast_210
                          simp only [← eV1]
                          obtain ⟨hin1, hcl1⟩ := inz ej1 hj1 (by omega)
                          have hask : (0 ≤ z4 ∧ z4 ≤ 4) ∨ (10 ≤ z4 ∧ z4 ≤ 13) := Or.inl b8
                          have e32 : z2.toNatClampNeg = i8 := by rw [ei8, nI_clamp (by omega)]
                          have e33 : z3.toNatClampNeg = n_7_ := by rw [en7, nI_clamp (by omega)]
                          rw [if_pos hin1, hcl1, if_pos b4, if_pos b6, if_pos hask, if_pos hag9, if_neg nz9, e32, e33, if_pos hz]
                          refine ⟨?_, by rw [hpb9]; exact fe_sc ng4 (fun g hg => (hM.2.2.2.2.1 g hg).2) hgf9⟩
                          rcases hgS with ⟨eq9, ex9⟩ | ⟨hq9, hs9, ex9⟩
                          · exact absurd ex9 c_18_
                          · exact Or.inr ⟨qg, Gg, hq9, hgN, hs9, by rw [if_neg c_17_, ex9]⟩
                        · skip
                          refine j_iload C dX12_feast_200 (lv_at hl 0 rfl) ?_
                          refine j_goto (tgt := 210) C dX12_feast_202 (by decide) ?_
                          refine j_iret C ⟨rfl, _, rfl, ?_⟩ dX12_feast_210
                          simp only [← eV1]
                          obtain ⟨hin1, hcl1⟩ := inz ej1 hj1 (by omega)
                          have hask : (0 ≤ z4 ∧ z4 ≤ 4) ∨ (10 ≤ z4 ∧ z4 ≤ 13) := Or.inl b8
                          have e32 : z2.toNatClampNeg = i8 := by rw [ei8, nI_clamp (by omega)]
                          have e33 : z3.toNatClampNeg = n_7_ := by rw [en7, nI_clamp (by omega)]
                          rw [if_pos hin1, hcl1, if_pos b4, if_pos b6, if_pos hask, if_pos hag9, if_neg nz9, e32, e33, if_pos hz]
                          refine ⟨?_, by rw [hpb9]; exact fe_sc ng4 (fun g hg => (hM.2.2.2.2.1 g hg).2) hgf9⟩
                          rcases hgS with ⟨eq9, ex9⟩ | ⟨hq9, hs9, ex9⟩
                          · exact Or.inl ⟨Gg, eq9 ▸ hgN, by rw [if_neg c_17_, htf9]; exact tf_feA hgR hask c_17_⟩
                          · exact absurd (ex9.symm.trans c_18_) (m9_nI (by omega))
                      · skip
                        refine j_iload C dX12_feast_188 (lv_at hl 1 rfl) ?_
                        refine j_goto (tgt := 210) C dX12_feast_190 (by decide) ?_
                        refine j_iret C ⟨rfl, _, rfl, ?_⟩ dX12_feast_210
                        simp only [← eV1]
                        obtain ⟨hin1, hcl1⟩ := inz ej1 hj1 (by omega)
                        have hask : (0 ≤ z4 ∧ z4 ≤ 4) ∨ (10 ≤ z4 ∧ z4 ≤ 13) := Or.inl b8
                        have e32 : z2.toNatClampNeg = i8 := by rw [ei8, nI_clamp (by omega)]
                        have e33 : z3.toNatClampNeg = n_7_ := by rw [en7, nI_clamp (by omega)]
                        rw [if_pos hin1, hcl1, if_pos b4, if_pos b6, if_pos hask, if_pos hag9, if_neg nz9, e32, e33, if_pos hz]
                        refine ⟨?_, by rw [hpb9]; exact fe_sc ng4 (fun g hg => (hM.2.2.2.2.1 g hg).2) hgf9⟩
                        rcases hgS with ⟨eq9, ex9⟩ | ⟨hq9, hs9, ex9⟩
                        · exact Or.inl ⟨Gg, eq9 ▸ hgN, by rw [if_pos c_17_, ex9]⟩
                        · exact Or.inr ⟨qg, Gg, hq9, hgN, hs9, by rw [if_pos c_17_, ex9]⟩
                    · have n_12_ := Int32.not_le.mp c_12_
                      have q12 := cNe (en7) (rfl) (by omega) (by omega) c_12_
                      refine j_aload_n C dX12_feast_110 rfl (lv_at hl 0 rfl) ?_
                      refine j_aload_n C dX12_feast_111 rfl (lv_at hl 0 rfl) ?_
                      refine j_getR (k := 0) (k2 := 3) C (f_RX12_16_12) (ml (by decide)) (rfl) (rfl) dX12_feast_112 ?_
                      refine j_iload C dX12_feast_115 (lv_at hl 3 rfl) ?_
                      refine j_iconst (v := 2) C dX12_feast_117 (by decide) ?_
                      refine j_iload C dX12_feast_118 (lv_at hl 4 rfl) ?_
                      refine j_imul C dX12_feast_120 ?_
                      refine j_iadd C dX12_feast_121 ?_
                      refine j_ialdE (k := 3) (n := 240) (t := 60 * j_1_ + i8 + 2 * p9) C (ml (by decide)) (rfl) (rfl) (nA (rfl) (nM (show (2 : Int32) = nI 2 from rfl) (rfl))) (by omega) (by decide) dX12_feast_122 ?_
                      refine j_aload_n C dX12_feast_123 rfl (lv_at hl 0 rfl) ?_
                      refine j_getR (k := 0) (k2 := 3) C (f_RX12_16_12) (ml (by decide)) (rfl) (rfl) dX12_feast_124 ?_
                      refine j_iload C dX12_feast_127 (lv_at hl 3 rfl) ?_
                      refine j_iconst (v := 2) C dX12_feast_129 (by decide) ?_
                      refine j_iload C dX12_feast_130 (lv_at hl 4 rfl) ?_
                      refine j_imul C dX12_feast_132 ?_
                      refine j_iadd C dX12_feast_133 ?_
                      refine j_iconst (v := 1) C dX12_feast_134 (by decide) ?_
                      refine j_iadd C dX12_feast_135 ?_
                      refine j_ialdE (k := 3) (n := 240) (t := 60 * j_1_ + i8 + 2 * p9 + 1) C (ml (by decide)) (rfl) (rfl) (nA (nA (rfl) (nM (show (2 : Int32) = nI 2 from rfl) (rfl))) (show (1 : Int32) = nI 1 from rfl)) (by omega) (by decide) dX12_feast_136 ?_
                      refine j_callV (k := 0) C [.int (V1 3 (60 * j_1_ + i8 + 2 * p9)), .int (V1 3 (60 * j_1_ + i8 + 2 * p9 + 1))] [] (k_X12_refusesPair l ad V1 (V1 3 (60 * j_1_ + i8 + 2 * p9)) (V1 3 (60 * j_1_ + i8 + 2 * p9 + 1))  nt hM1.2.2.1 nt5) v_RX12_198 (ml (by decide)) (rfl) rfl ⟨rfl, rfl, Nat.le_of_ble_eq_true rfl, Nat.le_of_ble_eq_true rfl⟩ rfl hl.1 rfl (Nat.le_of_ble_eq_true rfl) ⟨Nat.le_of_ble_eq_true rfl, Nat.le_of_ble_eq_true rfl⟩ dX12_feast_137 (kI fun x_19_ U19 h_19_ => ?_)
                      obtain ⟨eU19, h_19_⟩ := h_19_
                      have eU19 := eU19.symm
                      subst eU19
                      refine j_istore (lv2 := [(9, .int (x_19_)), (0, .ref (ad (0))), (4, .int (z3)), (5, .int (z4)), (7, .int (nI (60 * j_1_ + i8))), (8, .int (nI p9))]) C dX12_feast_140 hl (by decide) rfl (fun ls hl => ?_)
                      refine j_iload C dX12_feast_142 (lv_at hl 0 rfl) ?_
                      refine j_if_eq (tgt := 150) C dX12_feast_144 (by decide) (fun c_20_ => ?_) (fun c_20_ => ?_)
                      · skip
                        refine j_iinc (v := nI (p9 + 1)) (lv2 := [(8, .int (nI (p9 + 1))), (9, .int (x_19_)), (0, .ref (ad (0))), (4, .int (z3)), (5, .int (z4)), (7, .int (nI (60 * j_1_ + i8)))]) C dX12_feast_150 hl (k0 := 5) rfl (nI_1 _) (by decide) rfl (fun ls hl => ?_)
                        refine j_goto (tgt := 103) C dX12_feast_153 (by decide) ?_
                        exact ih_loop (p9 + 1) (by omega) (by rw [rfN, if_pos hz]; exact h_19_.symm.trans c_20_) (by omega) ls (lv_sub hl [2, 3, 4, 5, 0] rfl)
                      · skip
                        refine j_iload C dX12_feast_147 (lv_at hl 0 rfl) ?_
                        refine j_iret C ⟨rfl, _, rfl, ?_⟩ dX12_feast_149
                        simp only [← eV1]
                        obtain ⟨hin1, hcl1⟩ := inz ej1 hj1 (by omega)
                        have hask : (0 ≤ z4 ∧ z4 ≤ 4) ∨ (10 ≤ z4 ∧ z4 ≤ 13) := Or.inl b8
                        have e32 : z2.toNatClampNeg = i8 := by rw [ei8, nI_clamp (by omega)]
                        have e33 : z3.toNatClampNeg = n_7_ := by rw [en7, nI_clamp (by omega)]
                        have e9 : rfN nt (fun j => V1 3 (60 * j_1_ + i8 + j)) (p9 + 1) = x_19_ := by rw [rfN, if_pos hz]; exact h_19_.symm
                        have e10 : rfN nt (fun j => V1 3 (60 * j_1_ + i8 + j)) n_7_ = x_19_ := by rw [← e9]; exact rfN_st (by rw [e9]; exact c_20_) n_7_ (by omega)
                        rw [if_pos hin1, hcl1, if_pos b4, if_pos b6, if_pos hask, if_pos hag9, if_neg nz9, e32, e33, e10, if_neg c_20_]
                        exact ⟨by trivial, by trivial⟩
                exact loop (n_7_ + 1) 0 (by omega) rfl (by omega) ls (lv_sub hl [3, 7, 8, 1, 0] (by rw [show ((60 * z0) + z2) = nI (60 * j_1_ + i8) from nA (nM (show (60 : Int32) = nI 60 from rfl) (ej1)) (ei8)]; rfl))
              · skip
                have q11 := cEq (hM1.1) (show (0 : Int32) = nI 0 from rfl) (by omega) (by omega) c_11_
                refine j_bipush (v := (-3)) C dX12_feast_89 (by decide) ?_
                refine j_iret C ⟨rfl, _, rfl, ?_⟩ dX12_feast_91
                simp only [← eV1]
                obtain ⟨hin1, hcl1⟩ := inz ej1 hj1 (by omega)
                have hask : (0 ≤ z4 ∧ z4 ≤ 4) ∨ (10 ≤ z4 ∧ z4 ≤ 13) := Or.inl b8
                rw [if_pos hin1, hcl1, if_pos b4, if_pos b6, if_pos hask, if_pos hag9, if_pos q11]
                exact ⟨by trivial, by trivial⟩
            · skip
              refine j_aload_n C dX12_feast_75 rfl (lv_at hl 1 rfl) ?_
              refine j_iload C dX12_feast_76 (lv_at hl 0 rfl) ?_
              refine j_callV (k := 0) C [.int (x_9_)] [] (k_X12_fails l ad V1 (x_9_)  ) v_RX12_113 (ml (by decide)) (rfl) rfl ⟨rfl, rfl, Nat.le_of_ble_eq_true rfl, Nat.le_of_ble_eq_true rfl⟩ rfl hl.1 rfl (Nat.le_of_ble_eq_true rfl) ⟨Nat.le_of_ble_eq_true rfl, Nat.le_of_ble_eq_true rfl⟩ dX12_feast_78 (kI fun x_21_ U21 h_21_ => ?_)
              obtain ⟨eU21, h_21_⟩ := h_21_
              refine j_iret C ⟨rfl, _, rfl, ?_⟩ dX12_feast_81
              simp only [← eV1]
              obtain ⟨hin1, hcl1⟩ := inz ej1 hj1 (by omega)
              have hask : (0 ≤ z4 ∧ z4 ≤ 4) ∨ (10 ≤ z4 ∧ z4 ≤ 13) := Or.inl b8
              rw [if_pos hin1, hcl1, if_pos b4, if_pos b6, if_pos hask, ← h_9_, if_neg c_10_]
              exact ⟨h_21_, eU21⟩
          · skip
            have b8 := bI_0.mp (h_7_ ▸ c_8_)
            refine j_iload C dX12_feast_42 (lv_at hl 5 rfl) ?_
            refine j_bipush (v := 10) C dX12_feast_44 (by decide) ?_
            refine j_bipush (v := 13) C dX12_feast_46 (by decide) ?_
            refine j_callS C [.int (z4), .int (10), .int (13)] [] (k_X12_within l (mS ad) V1 (z4) (10) (13)  ) v_RX12_85 ⟨rfl, rfl, Nat.le_of_ble_eq_true rfl, Nat.le_of_ble_eq_true rfl⟩ rfl hl.1 rfl (Nat.le_of_ble_eq_true rfl) ⟨Nat.le_of_ble_eq_true rfl, Nat.le_of_ble_eq_true rfl⟩ dX12_feast_48 (kI fun x_22_ U22 h_22_ => ?_)
            obtain ⟨eU22, h_22_⟩ := h_22_
            have eU22 := eU22.symm
            subst eU22
            refine j_if_ne (tgt := 57) C dX12_feast_51 (by decide) (fun c_23_ => ?_) (fun c_23_ => ?_)
            · skip
              have b23 := Decidable.not_not.mp (mt bI_0.mpr (h_22_ ▸ c_23_))
              refine j_aload_n C dX12_feast_57 rfl (lv_at hl 0 rfl) ?_
              refine j_iload_n C dX12_feast_58 rfl (lv_at hl 1 rfl) ?_
              refine j_iload_n C dX12_feast_59 rfl (lv_at hl 2 rfl) ?_
              refine j_iload_n C dX12_feast_60 rfl (lv_at hl 3 rfl) ?_
              refine j_iconst (v := 2) C dX12_feast_61 (by decide) ?_
              refine j_iload C dX12_feast_62 (lv_at hl 4 rfl) ?_
              refine j_imul C dX12_feast_64 ?_
              refine j_callV (k := 0) C [.int (z0), .int (z1), .int (z2), .int (2 * z3)] [] (k_X12_against l ad V1 (z0) (z1) (z2) (2 * z3) j_1_ (ej1) (by omega) ) v_RX12_109 (ml (by decide)) (rfl) rfl ⟨rfl, rfl, Nat.le_of_ble_eq_true rfl, Nat.le_of_ble_eq_true rfl⟩ rfl hl.1 rfl (Nat.le_of_ble_eq_true rfl) ⟨Nat.le_of_ble_eq_true rfl, Nat.le_of_ble_eq_true rfl⟩ dX12_feast_65 (kI fun x_24_ U24 h_24_ => ?_)
              obtain ⟨eU24, h_24_⟩ := h_24_
              have eU24 := eU24.symm
              subst eU24
              skip
              refine j_istore (lv2 := [(6, .int (x_24_)), (0, .ref (ad (0))), (1, .int (z0)), (2, .int (z1)), (3, .int (z2)), (4, .int (z3)), (5, .int (z4))]) C dX12_feast_68 hl (by decide) rfl (fun ls hl => ?_)
              refine j_iload C dX12_feast_70 (lv_at hl 0 rfl) ?_
              refine j_if_eq (tgt := 82) C dX12_feast_72 (by decide) (fun c_25_ => ?_) (fun c_25_ => ?_)
              · skip
                have hag9 := h_24_.symm.trans c_25_
                obtain ⟨i8, k8, ei8, ek8, hik8⟩ := re60 en8 hn8 (agI_0 hag9)
                obtain ⟨n_7_, hn7, en7⟩ := nI_of2 (nI_toInt (n := 20) (by decide)) (Int32.not_lt.mpr b6.1) b6.2
                have hk7 : k8 = 2 * n_7_ := nI_inj (by omega) (by omega) (by rw [← ek8, en7, show (2 : Int32) = nI 2 from rfl, pk_mul])
                refine j_aload_n C dX12_feast_82 rfl (lv_at hl 1 rfl) ?_
                refine j_getI (k := 0) C (f_RX12_89_12) (ml (by decide)) (rfl) dX12_feast_83 ?_
                refine j_if_ne (tgt := 92) C dX12_feast_86 (by decide) (fun c_26_ => ?_) (fun c_26_ => ?_)
                · skip
                  have q26 := cNq (hM1.1) (show (0 : Int32) = nI 0 from rfl) (by omega) (by omega) c_26_
                  have nz9 : ¬ ng = 0 := q26
                  refine j_bipush (v := 60) C dX12_feast_92 (by decide) ?_
                  refine j_iload_n C dX12_feast_94 rfl (lv_at hl 2 rfl) ?_
                  refine j_imul C dX12_feast_95 ?_
                  refine j_iload_n C dX12_feast_96 rfl (lv_at hl 4 rfl) ?_
                  refine j_iadd C dX12_feast_97 ?_
                  refine j_istore (lv2 := [(7, .int ((60 * z0) + z2)), (6, .int (x_24_)), (0, .ref (ad (0))), (1, .int (z0)), (2, .int (z1)), (3, .int (z2)), (4, .int (z3)), (5, .int (z4))]) C dX12_feast_98 hl (by decide) rfl (fun ls hl => ?_)
                  refine j_iconst (v := 0) C dX12_feast_100 (by decide) ?_
                  refine j_istore (lv2 := [(8, .int (0)), (7, .int ((60 * z0) + z2)), (6, .int (x_24_)), (0, .ref (ad (0))), (1, .int (z0)), (2, .int (z1)), (3, .int (z2)), (4, .int (z3)), (5, .int (z4))]) C dX12_feast_101 hl (by decide) rfl (fun ls hl => ?_)
                  have loop : ∀ (n_9_ : Nat) (p9 : Nat), p9 ≤ n_7_ → rfN nt (fun j => V1 3 (60 * j_1_ + i8 + j)) p9 = 0 → n_7_ - p9 < n_9_ → ∀ (ls : Array Slot), lv_has ls 10 [(0, .ref (ad (0))), (4, .int (z3)), (5, .int (z4)), (7, .int (nI (60 * j_1_ + i8))), (8, .int (nI p9))] → J p l e rm_X12_feast s m [.ref (ad (0)), .int (z0), .int (z1), .int (z2), .int (z3), .int (z4)].toArray below meth c A D cy 0 0 (MQ below (gPost D cy A (fun o9 σ2 V2 => σ2 = mS ad ∧ (rI fun x V2 => if ¬ z0 < 0 ∧ z0 < nI 4 then (if 0 ≤ z1 ∧ z1 ≤ 2 then (if 0 ≤ z3 ∧ z3 ≤ 20 then (if (0 ≤ z4 ∧ z4 ≤ 4) ∨ (10 ≤ z4 ∧ z4 ≤ 13) then (if agI ((up2 V 0 0 0) 1 z0.toNatClampNeg) ((up2 V 0 0 0) 2 z0.toNatClampNeg) z1 z2 (2 * z3) = 0 then (if ng = 0 then (x = -3 ∧ V2 = (up2 V 0 0 0)) else if rfN nt (fun j => (up2 V 0 0 0) 3 (60 * z0.toNatClampNeg + z2.toNatClampNeg + j)) z3.toNatClampNeg = 0 then (feX nt ng rc ys ls9 F (fun j => (up2 V 0 0 0) 3 (60 * z0.toNatClampNeg + z2.toNatClampNeg + j)) z3.toNatClampNeg z4 x ∧ scE ng rr (up2 V 0 0 0) V2) else (x = rfN nt (fun j => (up2 V 0 0 0) 3 (60 * z0.toNatClampNeg + z2.toNatClampNeg + j)) z3.toNatClampNeg ∧ V2 = (up2 V 0 0 0))) else (x = -10 - agI ((up2 V 0 0 0) 1 z0.toNatClampNeg) ((up2 V 0 0 0) 2 z0.toNatClampNeg) z1 z2 (2 * z3) ∧ V2 = up2 (up2 V 0 0 0) 0 0 (agI ((up2 V 0 0 0) 1 z0.toNatClampNeg) ((up2 V 0 0 0) 2 z0.toNatClampNeg) z1 z2 (2 * z3)))) else (x = -2 ∧ V2 = (up2 V 0 0 0))) else (x = -2 ∧ V2 = (up2 V 0 0 0))) else (x = -2 ∧ V2 = (up2 V 0 0 0))) else (x = -1 ∧ V2 = (up2 V 0 0 0))) o9 V2)) [.ref (ad (0)), .int (z0), .int (z1), .int (z2), .int (z3), .int (z4)].toArray s 0 0 A) (mS ad) V1 (F0 m 103 ls []) := by
                    intro n_9_
                    induction n_9_ with
                    | zero =>
                      intro p9 hi hz hm
                      exact absurd hm (by omega)
                    | succ n_9_ ih_loop =>
                      intro p9 hi hz hm ls hl
                      refine j_iload C dX12_feast_103 (lv_at hl 4 rfl) ?_
                      refine j_iload C dX12_feast_105 (lv_at hl 1 rfl) ?_
                      refine j_icmp_ge (tgt := 156) C dX12_feast_107 (by decide) (fun c_27_ => ?_) (fun c_27_ => ?_)
                      · have n_27_ := Int32.not_lt.mpr c_27_
                        have q27 := cLe (en7) (rfl) (by omega) (by omega) c_27_
                        refine j_aload_n C dX12_feast_156 rfl (lv_at hl 0 rfl) ?_
                        refine j_callV (k := 0) C [] [] (k_X12_keep l ad V1   ng hM1.1 ng4) v_RX12_201 (ml (by decide)) (rfl) rfl ⟨rfl, rfl, Nat.le_of_ble_eq_true rfl, Nat.le_of_ble_eq_true rfl⟩ rfl hl.1 rfl (Nat.le_of_ble_eq_true rfl) ⟨Nat.le_of_ble_eq_true rfl, Nat.le_of_ble_eq_true rfl⟩ dX12_feast_157 (kU fun U28 h_28_ => ?_)
                        obtain rfl : n_7_ = p9 := by omega
                        have hkp9 := h_28_
                        have hF1 : feM0 U28 ng nt rc ys ls9 F := by rw [hkp9]; exact feM0_K (by rw [eV1]; exact feM0_f hF)
                        refine j_aload_n C dX12_feast_160 rfl (lv_at hl 0 rfl) ?_
                        refine j_iload C dX12_feast_161 (lv_at hl 3 rfl) ?_
                        refine j_iload C dX12_feast_163 (lv_at hl 1 rfl) ?_
                        refine j_callV (k := 0) C [.int (nI (60 * j_1_ + i8)), .int (z3)] [] (k_X12_goFeast l ad U28 (nI (60 * j_1_ + i8)) (z3) (60 * j_1_ + i8) (rfl) (by omega) n_7_ (en7) (by omega) (by omega) ng nt rc ys ls9 F hF1 hz1 hz2 (fun p hp => by rw [hkp9, kpM_r3]; exact rfN_all hz p hp)) v_RX12_204 (ml (by decide)) (rfl) rfl ⟨rfl, rfl, Nat.le_of_ble_eq_true rfl, Nat.le_of_ble_eq_true rfl⟩ rfl hl.1 rfl (Nat.le_of_ble_eq_true rfl) ⟨Nat.le_of_ble_eq_true rfl, Nat.le_of_ble_eq_true rfl⟩ dX12_feast_165 (kI fun x_29_ U29 h_29_ => ?_)
                        obtain ⟨hgf9, qg, Gg, hgN, hgR, hgS⟩ := h_29_
                        rw [hkp9, kpM_r3] at hgN hgS
                        rw [hkp9] at hgf9
                        refine j_istore (lv2 := [(8, .int (x_29_)), (0, .ref (ad (0))), (4, .int (z3)), (5, .int (z4)), (7, .int (nI (60 * j_1_ + i8)))]) C dX12_feast_168 hl (by decide) rfl (fun ls hl => ?_)
                        refine j_aload_n C dX12_feast_170 rfl (lv_at hl 1 rfl) ?_
                        refine j_iload C dX12_feast_171 (lv_at hl 3 rfl) ?_
                        refine j_callV (k := 0) C [.int (z4)] [] (k_X12_tellFeast l ad U29 (z4)  ng hgR.1.2.1 ng4 Gg.2.1 (fun g hg => ⟨(hgR.1.2.2.2.1 g hg).2.2.1, (hgR.1.2.2.2.1 g hg).2.2.2.1⟩)) v_RX12_207 (ml (by decide)) (rfl) rfl ⟨rfl, rfl, Nat.le_of_ble_eq_true rfl, Nat.le_of_ble_eq_true rfl⟩ rfl hl.1 rfl (Nat.le_of_ble_eq_true rfl) ⟨Nat.le_of_ble_eq_true rfl, Nat.le_of_ble_eq_true rfl⟩ dX12_feast_173 (kI fun x_30_ U30 h_30_ => ?_)
                        obtain ⟨eU30, h_30_⟩ := h_30_
                        have eU30 := eU30.symm
                        subst eU30
                        have htf9 := h_30_
                        refine j_istore (lv2 := [(9, .int (x_30_)), (8, .int (x_29_)), (0, .ref (ad (0))), (4, .int (z3)), (5, .int (z4)), (7, .int (nI (60 * j_1_ + i8)))]) C dX12_feast_176 hl (by decide) rfl (fun ls hl => ?_)
                        refine j_aload_n C dX12_feast_178 rfl (lv_at hl 2 rfl) ?_
                        refine j_callV (k := 0) C [] [] (k_X12_putBack l ad U29   ng hgR.1.2.1 ng4) v_RX12_210 (ml (by decide)) (rfl) rfl ⟨rfl, rfl, Nat.le_of_ble_eq_true rfl, Nat.le_of_ble_eq_true rfl⟩ rfl hl.1 rfl (Nat.le_of_ble_eq_true rfl) ⟨Nat.le_of_ble_eq_true rfl, Nat.le_of_ble_eq_true rfl⟩ dX12_feast_179 (kU fun U31 h_31_ => ?_)
                        have hpb9 := h_31_
                        refine j_iload C dX12_feast_182 (lv_at hl 4 rfl) ?_
                        refine j_iconst (v := 1) C dX12_feast_184 (by decide) ?_
                        refine j_icmp_ne (tgt := 193) C dX12_feast_185 (by decide) (fun c_32_ => ?_) (fun c_32_ => ?_)
                        · skip
                          refine j_iload C dX12_feast_193 (lv_at hl 1 rfl) ?_
                          refine j_bipush (v := (-9)) C dX12_feast_195 (by decide) ?_
                          refine j_icmp_ne (tgt := 205) C dX12_feast_197 (by decide) (fun c_33_ => ?_) (fun c_33_ => ?_)
                          · skip
                            refine j_bipush (v := (-100)) C dX12_feast_205 (by decide) ?_
                            refine j_iload C dX12_feast_207 (lv_at hl 1 rfl) ?_
                            refine j_isub C dX12_feast_209 ?_
                            refine j_iret C ⟨rfl, _, rfl, ?_⟩ dX12_feast_210
                            simp only [← eV1]
                            obtain ⟨hin1, hcl1⟩ := inz ej1 hj1 (by omega)
                            have hask : (0 ≤ z4 ∧ z4 ≤ 4) ∨ (10 ≤ z4 ∧ z4 ≤ 13) := Or.inr b23
                            have e32 : z2.toNatClampNeg = i8 := by rw [ei8, nI_clamp (by omega)]
                            have e33 : z3.toNatClampNeg = n_7_ := by rw [en7, nI_clamp (by omega)]
                            rw [if_pos hin1, hcl1, if_pos b4, if_pos b6, if_pos hask, if_pos hag9, if_neg nz9, e32, e33, if_pos hz]
                            refine ⟨?_, by rw [hpb9]; exact fe_sc ng4 (fun g hg => (hM.2.2.2.2.1 g hg).2) hgf9⟩
                            rcases hgS with ⟨eq9, ex9⟩ | ⟨hq9, hs9, ex9⟩
                            · exact absurd ex9 c_33_
                            · exact Or.inr ⟨qg, Gg, hq9, hgN, hs9, by rw [if_neg c_32_, ex9]⟩
                          · skip
                            refine j_iload C dX12_feast_200 (lv_at hl 0 rfl) ?_
                            refine j_goto (tgt := 210) C dX12_feast_202 (by decide) ?_
                            refine j_iret C ⟨rfl, _, rfl, ?_⟩ dX12_feast_210
                            simp only [← eV1]
                            obtain ⟨hin1, hcl1⟩ := inz ej1 hj1 (by omega)
                            have hask : (0 ≤ z4 ∧ z4 ≤ 4) ∨ (10 ≤ z4 ∧ z4 ≤ 13) := Or.inr b23
                            have e32 : z2.toNatClampNeg = i8 := by rw [ei8, nI_clamp (by omega)]
                            have e33 : z3.toNatClampNeg = n_7_ := by rw [en7, nI_clamp (by omega)]
                            rw [if_pos hin1, hcl1, if_pos b4, if_pos b6, if_pos hask, if_pos hag9, if_neg nz9, e32, e33, if_pos hz]
                            refine ⟨?_, by rw [hpb9]; exact fe_sc ng4 (fun g hg => (hM.2.2.2.2.1 g hg).2) hgf9⟩
                            rcases hgS with ⟨eq9, ex9⟩ | ⟨hq9, hs9, ex9⟩
                            · exact Or.inl ⟨Gg, eq9 ▸ hgN, by rw [if_neg c_32_, htf9]; exact tf_feA hgR hask c_32_⟩
                            · exact absurd (ex9.symm.trans c_33_) (m9_nI (by omega))
                        · skip
                          refine j_iload C dX12_feast_188 (lv_at hl 1 rfl) ?_
                          refine j_goto (tgt := 210) C dX12_feast_190 (by decide) ?_
                          refine j_iret C ⟨rfl, _, rfl, ?_⟩ dX12_feast_210
                          simp only [← eV1]
                          obtain ⟨hin1, hcl1⟩ := inz ej1 hj1 (by omega)
                          have hask : (0 ≤ z4 ∧ z4 ≤ 4) ∨ (10 ≤ z4 ∧ z4 ≤ 13) := Or.inr b23
                          have e32 : z2.toNatClampNeg = i8 := by rw [ei8, nI_clamp (by omega)]
                          have e33 : z3.toNatClampNeg = n_7_ := by rw [en7, nI_clamp (by omega)]
                          rw [if_pos hin1, hcl1, if_pos b4, if_pos b6, if_pos hask, if_pos hag9, if_neg nz9, e32, e33, if_pos hz]
                          refine ⟨?_, by rw [hpb9]; exact fe_sc ng4 (fun g hg => (hM.2.2.2.2.1 g hg).2) hgf9⟩
                          rcases hgS with ⟨eq9, ex9⟩ | ⟨hq9, hs9, ex9⟩
                          · exact Or.inl ⟨Gg, eq9 ▸ hgN, by rw [if_pos c_32_, ex9]⟩
                          · exact Or.inr ⟨qg, Gg, hq9, hgN, hs9, by rw [if_pos c_32_, ex9]⟩
                      · have n_27_ := Int32.not_le.mp c_27_
                        have q27 := cNe (en7) (rfl) (by omega) (by omega) c_27_
                        refine j_aload_n C dX12_feast_110 rfl (lv_at hl 0 rfl) ?_
                        refine j_aload_n C dX12_feast_111 rfl (lv_at hl 0 rfl) ?_
                        refine j_getR (k := 0) (k2 := 3) C (f_RX12_16_12) (ml (by decide)) (rfl) (rfl) dX12_feast_112 ?_
                        refine j_iload C dX12_feast_115 (lv_at hl 3 rfl) ?_
                        refine j_iconst (v := 2) C dX12_feast_117 (by decide) ?_
                        refine j_iload C dX12_feast_118 (lv_at hl 4 rfl) ?_
                        refine j_imul C dX12_feast_120 ?_
                        refine j_iadd C dX12_feast_121 ?_
                        refine j_ialdE (k := 3) (n := 240) (t := 60 * j_1_ + i8 + 2 * p9) C (ml (by decide)) (rfl) (rfl) (nA (rfl) (nM (show (2 : Int32) = nI 2 from rfl) (rfl))) (by omega) (by decide) dX12_feast_122 ?_
                        refine j_aload_n C dX12_feast_123 rfl (lv_at hl 0 rfl) ?_
                        refine j_getR (k := 0) (k2 := 3) C (f_RX12_16_12) (ml (by decide)) (rfl) (rfl) dX12_feast_124 ?_
                        refine j_iload C dX12_feast_127 (lv_at hl 3 rfl) ?_
                        refine j_iconst (v := 2) C dX12_feast_129 (by decide) ?_
                        refine j_iload C dX12_feast_130 (lv_at hl 4 rfl) ?_
                        refine j_imul C dX12_feast_132 ?_
                        refine j_iadd C dX12_feast_133 ?_
                        refine j_iconst (v := 1) C dX12_feast_134 (by decide) ?_
                        refine j_iadd C dX12_feast_135 ?_
                        refine j_ialdE (k := 3) (n := 240) (t := 60 * j_1_ + i8 + 2 * p9 + 1) C (ml (by decide)) (rfl) (rfl) (nA (nA (rfl) (nM (show (2 : Int32) = nI 2 from rfl) (rfl))) (show (1 : Int32) = nI 1 from rfl)) (by omega) (by decide) dX12_feast_136 ?_
                        refine j_callV (k := 0) C [.int (V1 3 (60 * j_1_ + i8 + 2 * p9)), .int (V1 3 (60 * j_1_ + i8 + 2 * p9 + 1))] [] (k_X12_refusesPair l ad V1 (V1 3 (60 * j_1_ + i8 + 2 * p9)) (V1 3 (60 * j_1_ + i8 + 2 * p9 + 1))  nt hM1.2.2.1 nt5) v_RX12_198 (ml (by decide)) (rfl) rfl ⟨rfl, rfl, Nat.le_of_ble_eq_true rfl, Nat.le_of_ble_eq_true rfl⟩ rfl hl.1 rfl (Nat.le_of_ble_eq_true rfl) ⟨Nat.le_of_ble_eq_true rfl, Nat.le_of_ble_eq_true rfl⟩ dX12_feast_137 (kI fun x_34_ U34 h_34_ => ?_)
                        obtain ⟨eU34, h_34_⟩ := h_34_
                        have eU34 := eU34.symm
                        subst eU34
                        refine j_istore (lv2 := [(9, .int (x_34_)), (0, .ref (ad (0))), (4, .int (z3)), (5, .int (z4)), (7, .int (nI (60 * j_1_ + i8))), (8, .int (nI p9))]) C dX12_feast_140 hl (by decide) rfl (fun ls hl => ?_)
                        refine j_iload C dX12_feast_142 (lv_at hl 0 rfl) ?_
                        refine j_if_eq (tgt := 150) C dX12_feast_144 (by decide) (fun c_35_ => ?_) (fun c_35_ => ?_)
                        · skip
                          refine j_iinc (v := nI (p9 + 1)) (lv2 := [(8, .int (nI (p9 + 1))), (9, .int (x_34_)), (0, .ref (ad (0))), (4, .int (z3)), (5, .int (z4)), (7, .int (nI (60 * j_1_ + i8)))]) C dX12_feast_150 hl (k0 := 5) rfl (nI_1 _) (by decide) rfl (fun ls hl => ?_)
                          refine j_goto (tgt := 103) C dX12_feast_153 (by decide) ?_
                          exact ih_loop (p9 + 1) (by omega) (by rw [rfN, if_pos hz]; exact h_34_.symm.trans c_35_) (by omega) ls (lv_sub hl [2, 3, 4, 5, 0] rfl)
                        · skip
                          refine j_iload C dX12_feast_147 (lv_at hl 0 rfl) ?_
                          refine j_iret C ⟨rfl, _, rfl, ?_⟩ dX12_feast_149
                          simp only [← eV1]
                          obtain ⟨hin1, hcl1⟩ := inz ej1 hj1 (by omega)
                          have hask : (0 ≤ z4 ∧ z4 ≤ 4) ∨ (10 ≤ z4 ∧ z4 ≤ 13) := Or.inr b23
                          have e32 : z2.toNatClampNeg = i8 := by rw [ei8, nI_clamp (by omega)]
                          have e33 : z3.toNatClampNeg = n_7_ := by rw [en7, nI_clamp (by omega)]
                          have e9 : rfN nt (fun j => V1 3 (60 * j_1_ + i8 + j)) (p9 + 1) = x_34_ := by rw [rfN, if_pos hz]; exact h_34_.symm
                          have e10 : rfN nt (fun j => V1 3 (60 * j_1_ + i8 + j)) n_7_ = x_34_ := by rw [← e9]; exact rfN_st (by rw [e9]; exact c_35_) n_7_ (by omega)
                          rw [if_pos hin1, hcl1, if_pos b4, if_pos b6, if_pos hask, if_pos hag9, if_neg nz9, e32, e33, e10, if_neg c_35_]
                          exact ⟨by trivial, by trivial⟩
                  exact loop (n_7_ + 1) 0 (by omega) rfl (by omega) ls (lv_sub hl [3, 7, 8, 1, 0] (by rw [show ((60 * z0) + z2) = nI (60 * j_1_ + i8) from nA (nM (show (60 : Int32) = nI 60 from rfl) (ej1)) (ei8)]; rfl))
                · skip
                  have q26 := cEq (hM1.1) (show (0 : Int32) = nI 0 from rfl) (by omega) (by omega) c_26_
                  refine j_bipush (v := (-3)) C dX12_feast_89 (by decide) ?_
                  refine j_iret C ⟨rfl, _, rfl, ?_⟩ dX12_feast_91
                  simp only [← eV1]
                  obtain ⟨hin1, hcl1⟩ := inz ej1 hj1 (by omega)
                  have hask : (0 ≤ z4 ∧ z4 ≤ 4) ∨ (10 ≤ z4 ∧ z4 ≤ 13) := Or.inr b23
                  rw [if_pos hin1, hcl1, if_pos b4, if_pos b6, if_pos hask, if_pos hag9, if_pos q26]
                  exact ⟨by trivial, by trivial⟩
              · skip
                refine j_aload_n C dX12_feast_75 rfl (lv_at hl 1 rfl) ?_
                refine j_iload C dX12_feast_76 (lv_at hl 0 rfl) ?_
                refine j_callV (k := 0) C [.int (x_24_)] [] (k_X12_fails l ad V1 (x_24_)  ) v_RX12_113 (ml (by decide)) (rfl) rfl ⟨rfl, rfl, Nat.le_of_ble_eq_true rfl, Nat.le_of_ble_eq_true rfl⟩ rfl hl.1 rfl (Nat.le_of_ble_eq_true rfl) ⟨Nat.le_of_ble_eq_true rfl, Nat.le_of_ble_eq_true rfl⟩ dX12_feast_78 (kI fun x_36_ U36 h_36_ => ?_)
                obtain ⟨eU36, h_36_⟩ := h_36_
                refine j_iret C ⟨rfl, _, rfl, ?_⟩ dX12_feast_81
                simp only [← eV1]
                obtain ⟨hin1, hcl1⟩ := inz ej1 hj1 (by omega)
                have hask : (0 ≤ z4 ∧ z4 ≤ 4) ∨ (10 ≤ z4 ∧ z4 ≤ 13) := Or.inr b23
                rw [if_pos hin1, hcl1, if_pos b4, if_pos b6, if_pos hask, ← h_24_, if_neg c_25_]
                exact ⟨h_36_, eU36⟩
            · skip
              have b23 := bI_0.mp (h_22_ ▸ c_23_)
              refine j_bipush (v := (-2)) C dX12_feast_54 (by decide) ?_
              refine j_iret C ⟨rfl, _, rfl, ?_⟩ dX12_feast_56
              simp only [← eV1]
              obtain ⟨hin1, hcl1⟩ := inz ej1 hj1 (by omega)
              rw [if_pos hin1, hcl1, if_pos b4, if_pos b6, if_neg (fun q => q.elim b8 b23)]
              exact ⟨by trivial, by trivial⟩
    · exact absurd c_2_ (by decide)
  · subst ex1
    refine j_if_ne (tgt := 14) C dX12_feast_9 (by decide) (fun c_37_ => ?_) (fun c_37_ => ?_)
    · exact absurd rfl c_37_
    · skip
      refine j_iconst (v := (-1)) C dX12_feast_12 (by decide) ?_
      refine j_iret C ⟨rfl, _, rfl, ?_⟩ dX12_feast_13
      simp only [← eV1]
      rw [if_neg (outR ho1)]
      exact ⟨by trivial, by trivial⟩
