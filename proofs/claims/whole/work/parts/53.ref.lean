def cpM (V : Vt) (a b lo hi : Nat) : Vt := fun x p => if x = 3 ∧ b + lo ≤ p ∧ p < b + hi then V 3 (a + (p - b)) else V x p
theorem cpM_0 (V : Vt) (a b lo : Nat) : cpM V a b lo lo = V := by
  funext x p
  unfold cpM
  rw [if_neg (by omega)]
theorem cpM_up (V : Vt) (a b c : Nat) (hno : ¬ (b ≤ a + c ∧ a + c < b + c)) : up2 (cpM V a b 0 c) 3 (b + c) (cpM V a b 0 c 3 (a + c)) = cpM V a b 0 (c + 1) := by
  funext x p
  have e : cpM V a b 0 c 3 (a + c) = V 3 (a + c) := by unfold cpM; rw [if_neg (by omega)]
  rw [e]
  unfold up2
  by_cases h : x = 3 ∧ p = b + c
  · rw [if_pos h]
    unfold cpM
    rw [if_pos ⟨h.1, by omega, by omega⟩, h.2, show b + c - b = c by omega]
  · rw [if_neg h]
    unfold cpM
    have e2 : (x = 3 ∧ b + 0 ≤ p ∧ p < b + c) ↔ (x = 3 ∧ b + 0 ≤ p ∧ p < b + (c + 1)) := by omega
    simp only [e2]
theorem cpM_down (V : Vt) (a b c n : Nat) (hno : ¬ (b + (c + 1) ≤ a + c ∧ a + c < b + n)) (hc : c < n) : up2 (cpM V a b (c + 1) n) 3 (b + c) (cpM V a b (c + 1) n 3 (a + c)) = cpM V a b c n := by
  funext x p
  have e : cpM V a b (c + 1) n 3 (a + c) = V 3 (a + c) := by unfold cpM; rw [if_neg (by omega)]
  rw [e]
  unfold up2
  by_cases h : x = 3 ∧ p = b + c
  · rw [if_pos h]
    unfold cpM
    rw [if_pos ⟨h.1, by omega, by omega⟩, h.2, show b + c - b = c by omega]
  · rw [if_neg h]
    unfold cpM
    have e2 : (x = 3 ∧ b + (c + 1) ≤ p ∧ p < b + n) ↔ (x = 3 ∧ b + c ≤ p ∧ p < b + n) := by omega
    simp only [e2]
theorem sub1 {n : Nat} (h : 1 ≤ n) : nI n - 1 = nI (n - 1) := by
  obtain ⟨m, rfl⟩ : ∃ m, n = m + 1 := ⟨n - 1, by omega⟩
  rw [nI_pred]; rfl
abbrev rm_X12_copy : Room := { frames := 2, cells := 0, slots := 0, locals := 42 }
set_option maxHeartbeats 4000000 in
set_option maxRecDepth 100000 in
theorem k_X12_copy (l : Launch) (ad : Nat → Nat) (V : Vt) (z0 z1 z2 z3 z4 : Int32) (ng : Nat) (rr : Nat → Nat) (nt c_0_ : Nat) (hM : MI V ng rr nt c_0_)  : Ct l yX12_copy cX12_copy 10 (some .int) rm_X12_copy (mS ad) V [.ref (ad (0)), .int (z0), .int (z1), .int (z2), .int (z3), .int (z4)] (rI fun x V2 => (V2 = if ¬ z0 < 0 ∧ z0 < nI 4 then (if ¬ z2 < 0 ∧ z2 < nI 4 then (if (up2 V 0 0 0) 1 z0.toNatClampNeg = -9 then up2 (up2 V 0 0 0) 0 0 1 else (if (up2 V 0 0 0) 1 z2.toNatClampNeg = -9 then up2 (up2 V 0 0 0) 0 0 1 else (if (up2 V 0 0 0) 1 z0.toNatClampNeg = (up2 V 0 0 0) 1 z2.toNatClampNeg then (if (0 ≤ z1 ∧ z1 ≤ (up2 V 0 0 0) 2 z0.toNatClampNeg ∧ 0 ≤ z4 ∧ z4 ≤ (up2 V 0 0 0) 2 z0.toNatClampNeg - z1) ∧ (0 ≤ z3 ∧ z3 ≤ (up2 V 0 0 0) 2 z2.toNatClampNeg ∧ 0 ≤ z4 ∧ z4 ≤ (up2 V 0 0 0) 2 z2.toNatClampNeg - z3) then cpM (up2 V 0 0 0) (60 * z0.toNatClampNeg + z1.toNatClampNeg) (60 * z2.toNatClampNeg + z3.toNatClampNeg) 0 z4.toNatClampNeg else up2 (up2 V 0 0 0) 0 0 3) else up2 (up2 V 0 0 0) 0 0 2))) else (up2 V 0 0 0)) else (up2 V 0 0 0)) ∧ x = if ¬ z0 < 0 ∧ z0 < nI 4 then (if ¬ z2 < 0 ∧ z2 < nI 4 then (if (up2 V 0 0 0) 1 z0.toNatClampNeg = -9 then -11 else (if (up2 V 0 0 0) 1 z2.toNatClampNeg = -9 then -11 else (if (up2 V 0 0 0) 1 z0.toNatClampNeg = (up2 V 0 0 0) 1 z2.toNatClampNeg then (if (0 ≤ z1 ∧ z1 ≤ (up2 V 0 0 0) 2 z0.toNatClampNeg ∧ 0 ≤ z4 ∧ z4 ≤ (up2 V 0 0 0) 2 z0.toNatClampNeg - z1) ∧ (0 ≤ z3 ∧ z3 ≤ (up2 V 0 0 0) 2 z2.toNatClampNeg ∧ 0 ≤ z4 ∧ z4 ≤ (up2 V 0 0 0) 2 z2.toNatClampNeg - z3) then z4 else -13) else -12))) else -1) else -1) := by
  refine Ct_of (by decide) (Nat.le_of_ble_eq_true rfl) ?_
  intro p e s m below meth c A D cy ls C hl
  have hl : lv_has ls 10 [(0, .ref (ad (0))), (1, .int (z0)), (2, .int (z1)), (3, .int (z2)), (4, .int (z3)), (5, .int (z4))] := hl
  have ng4 := hM.2.1
  have nt5 := hM.2.2.2.1
  refine j_aload_n C dX12_copy_0 rfl (lv_at hl 0 rfl) ?_
  refine j_iconst (v := 0) C dX12_copy_1 (by decide) ?_
  refine j_putI (k := 0) C (f_RX12_79_12) p_12_0 (ml (by decide)) (rfl) dX12_copy_2 (fun V1 eV1 => ?_)
  have hM1 : MI V1 ng rr nt c_0_ := by rw [eV1]; exact MI_f hM
  refine j_iload_n C dX12_copy_5 rfl (lv_at hl 1 rfl) ?_
  refine j_callS C [.int (z0)] [] (k_X12_isSheet l (mS ad) V1 (z0)  ) v_RX12_102 ⟨rfl, rfl, Nat.le_of_ble_eq_true rfl, Nat.le_of_ble_eq_true rfl⟩ rfl hl.1 rfl (Nat.le_of_ble_eq_true rfl) ⟨Nat.le_of_ble_eq_true rfl, Nat.le_of_ble_eq_true rfl⟩ dX12_copy_6 (kI fun x_1_ U1 h_1_ => ?_)
  obtain ⟨eU1, h_1_⟩ := h_1_
  have eU1 := eU1.symm
  subst eU1
  rcases h_1_ with ⟨j_1_, hj1, ej1, ex1⟩ | ⟨ho1, ex1⟩
  · subst ex1
    obtain ⟨n_8_, hn8, en8⟩ := hM1.2.2.2.2.2.2.2.2 j_1_ hj1
    refine j_if_eq (tgt := 19) C dX12_copy_9 (by decide) (fun c_2_ => ?_) (fun c_2_ => ?_)
    · exact absurd c_2_ (by decide)
    · skip
      refine j_iload_n C dX12_copy_12 rfl (lv_at hl 3 rfl) ?_
      refine j_callS C [.int (z2)] [] (k_X12_isSheet l (mS ad) V1 (z2)  ) v_RX12_102 ⟨rfl, rfl, Nat.le_of_ble_eq_true rfl, Nat.le_of_ble_eq_true rfl⟩ rfl hl.1 rfl (Nat.le_of_ble_eq_true rfl) ⟨Nat.le_of_ble_eq_true rfl, Nat.le_of_ble_eq_true rfl⟩ dX12_copy_13 (kI fun x_3_ U3 h_3_ => ?_)
      obtain ⟨eU3, h_3_⟩ := h_3_
      have eU3 := eU3.symm
      subst eU3
      rcases h_3_ with ⟨j_3_, hj3, ej3, ex3⟩ | ⟨ho3, ex3⟩
      · subst ex3
        obtain ⟨m8, hm8, em8⟩ := hM1.2.2.2.2.2.2.2.2 j_3_ hj3
        refine j_if_ne (tgt := 21) C dX12_copy_16 (by decide) (fun c_4_ => ?_) (fun c_4_ => ?_)
        · skip
          refine j_aload_n C dX12_copy_21 rfl (lv_at hl 0 rfl) ?_
          refine j_getR (k := 0) (k2 := 1) C (f_RX12_9_12) (ml (by decide)) (rfl) (rfl) dX12_copy_22 ?_
          refine j_iload_n C dX12_copy_25 rfl (lv_at hl 1 rfl) ?_
          refine j_ialdE (k := 1) (n := 4) (t := j_1_) C (ml (by decide)) (rfl) (rfl) (ej1) (by omega) (by decide) dX12_copy_26 ?_
          refine j_bipush (v := (-9)) C dX12_copy_27 (by decide) ?_
          refine j_icmp_eq (tgt := 43) C dX12_copy_29 (by decide) (fun c_5_ => ?_) (fun c_5_ => ?_)
          · skip
            refine j_aload_n C dX12_copy_43 rfl (lv_at hl 0 rfl) ?_
            refine j_iconst (v := 1) C dX12_copy_44 (by decide) ?_
            refine j_callV (k := 0) C [.int (1)] [] (k_X12_fails l ad V1 (1)  ) v_RX12_113 (ml (by decide)) (rfl) rfl ⟨rfl, rfl, Nat.le_of_ble_eq_true rfl, Nat.le_of_ble_eq_true rfl⟩ rfl hl.1 rfl (Nat.le_of_ble_eq_true rfl) ⟨Nat.le_of_ble_eq_true rfl, Nat.le_of_ble_eq_true rfl⟩ dX12_copy_45 (kI fun x_6_ U6 h_6_ => ?_)
            obtain ⟨eU6, h_6_⟩ := h_6_
            refine j_iret C ⟨rfl, _, rfl, ?_⟩ dX12_copy_48
            obtain ⟨hin1, hcl1⟩ := inz ej1 hj1 (by omega)
            obtain ⟨hin3, hcl3⟩ := inz ej3 hj3 (by omega)
            simp only [← eV1]
            refine ⟨?_, ?_⟩
            · simp only [if_pos hin1, hcl1, if_pos hin3, hcl3, if_pos c_5_]
              exact eU6
            · simp only [if_pos hin1, hcl1, if_pos hin3, hcl3, if_pos c_5_]
              exact h_6_
          · skip
            refine j_aload_n C dX12_copy_32 rfl (lv_at hl 0 rfl) ?_
            refine j_getR (k := 0) (k2 := 1) C (f_RX12_9_12) (ml (by decide)) (rfl) (rfl) dX12_copy_33 ?_
            refine j_iload_n C dX12_copy_36 rfl (lv_at hl 3 rfl) ?_
            refine j_ialdE (k := 1) (n := 4) (t := j_3_) C (ml (by decide)) (rfl) (rfl) (ej3) (by omega) (by decide) dX12_copy_37 ?_
            refine j_bipush (v := (-9)) C dX12_copy_38 (by decide) ?_
            refine j_icmp_ne (tgt := 49) C dX12_copy_40 (by decide) (fun c_7_ => ?_) (fun c_7_ => ?_)
            · skip
              refine j_aload_n C dX12_copy_49 rfl (lv_at hl 0 rfl) ?_
              refine j_getR (k := 0) (k2 := 1) C (f_RX12_9_12) (ml (by decide)) (rfl) (rfl) dX12_copy_50 ?_
              refine j_iload_n C dX12_copy_53 rfl (lv_at hl 1 rfl) ?_
              refine j_ialdE (k := 1) (n := 4) (t := j_1_) C (ml (by decide)) (rfl) (rfl) (ej1) (by omega) (by decide) dX12_copy_54 ?_
              refine j_aload_n C dX12_copy_55 rfl (lv_at hl 0 rfl) ?_
              refine j_getR (k := 0) (k2 := 1) C (f_RX12_9_12) (ml (by decide)) (rfl) (rfl) dX12_copy_56 ?_
              refine j_iload_n C dX12_copy_59 rfl (lv_at hl 3 rfl) ?_
              refine j_ialdE (k := 1) (n := 4) (t := j_3_) C (ml (by decide)) (rfl) (rfl) (ej3) (by omega) (by decide) dX12_copy_60 ?_
              refine j_icmp_eq (tgt := 70) C dX12_copy_61 (by decide) (fun c_8_ => ?_) (fun c_8_ => ?_)
              · skip
                refine j_iload_n C dX12_copy_70 rfl (lv_at hl 2 rfl) ?_
                refine j_if_lt (tgt := 109) C dX12_copy_71 (by decide) (fun c_9_ => ?_) (fun c_9_ => ?_)
                · have n_9_ := Int32.not_le.mpr c_9_
                  refine j_iconst (v := 0) C dX12_copy_109 (by decide) ?_
                  refine j_istore (lv2 := [(6, .int (0)), (0, .ref (ad (0))), (1, .int (z0)), (2, .int (z1)), (3, .int (z2)), (4, .int (z3)), (5, .int (z4))]) C dX12_copy_110 hl (by decide) rfl (fun ls hl => ?_)
                  refine j_iload C dX12_copy_112 (lv_at hl 0 rfl) ?_
                  refine j_if_eq (tgt := 144) C dX12_copy_114 (by decide) (fun c_10_ => ?_) (fun c_10_ => ?_)
                  · skip
                    refine j_aload_n C dX12_copy_144 rfl (lv_at hl 1 rfl) ?_
                    refine j_iconst (v := 3) C dX12_copy_145 (by decide) ?_
                    refine j_callV (k := 0) C [.int (3)] [] (k_X12_fails l ad V1 (3)  ) v_RX12_113 (ml (by decide)) (rfl) rfl ⟨rfl, rfl, Nat.le_of_ble_eq_true rfl, Nat.le_of_ble_eq_true rfl⟩ rfl hl.1 rfl (Nat.le_of_ble_eq_true rfl) ⟨Nat.le_of_ble_eq_true rfl, Nat.le_of_ble_eq_true rfl⟩ dX12_copy_146 (kI fun x_11_ U11 h_11_ => ?_)
                    obtain ⟨eU11, h_11_⟩ := h_11_
                    refine j_iret C ⟨rfl, _, rfl, ?_⟩ dX12_copy_149
                    obtain ⟨hin1, hcl1⟩ := inz ej1 hj1 (by omega)
                    obtain ⟨hin3, hcl3⟩ := inz ej3 hj3 (by omega)
                    have hnr : ¬ ((0 ≤ z1 ∧ z1 ≤ V1 2 j_1_ ∧ 0 ≤ z4 ∧ z4 ≤ V1 2 j_1_ - z1) ∧ (0 ≤ z3 ∧ z3 ≤ V1 2 j_3_ ∧ 0 ≤ z4 ∧ z4 ≤ V1 2 j_3_ - z3)) := fun q => absurd q.1.1 (Int32.not_le.mpr c_9_)
                    simp only [← eV1]
                    refine ⟨?_, ?_⟩
                    · simp only [if_pos hin1, hcl1, if_pos hin3, hcl3, if_neg c_5_, if_neg c_7_, if_pos c_8_, if_neg hnr]
                      exact eU11
                    · simp only [if_pos hin1, hcl1, if_pos hin3, hcl3, if_neg c_5_, if_neg c_7_, if_pos c_8_, if_neg hnr]
                      exact h_11_
                  · exact absurd rfl c_10_
                · have n_9_ := Int32.not_lt.mp c_9_
                  refine j_iload C dX12_copy_74 (lv_at hl 4 rfl) ?_
                  refine j_if_lt (tgt := 109) C dX12_copy_76 (by decide) (fun c_12_ => ?_) (fun c_12_ => ?_)
                  · have n_12_ := Int32.not_le.mpr c_12_
                    refine j_iconst (v := 0) C dX12_copy_109 (by decide) ?_
                    refine j_istore (lv2 := [(6, .int (0)), (0, .ref (ad (0))), (1, .int (z0)), (2, .int (z1)), (3, .int (z2)), (4, .int (z3)), (5, .int (z4))]) C dX12_copy_110 hl (by decide) rfl (fun ls hl => ?_)
                    refine j_iload C dX12_copy_112 (lv_at hl 0 rfl) ?_
                    refine j_if_eq (tgt := 144) C dX12_copy_114 (by decide) (fun c_13_ => ?_) (fun c_13_ => ?_)
                    · skip
                      refine j_aload_n C dX12_copy_144 rfl (lv_at hl 1 rfl) ?_
                      refine j_iconst (v := 3) C dX12_copy_145 (by decide) ?_
                      refine j_callV (k := 0) C [.int (3)] [] (k_X12_fails l ad V1 (3)  ) v_RX12_113 (ml (by decide)) (rfl) rfl ⟨rfl, rfl, Nat.le_of_ble_eq_true rfl, Nat.le_of_ble_eq_true rfl⟩ rfl hl.1 rfl (Nat.le_of_ble_eq_true rfl) ⟨Nat.le_of_ble_eq_true rfl, Nat.le_of_ble_eq_true rfl⟩ dX12_copy_146 (kI fun x_14_ U14 h_14_ => ?_)
                      obtain ⟨eU14, h_14_⟩ := h_14_
                      refine j_iret C ⟨rfl, _, rfl, ?_⟩ dX12_copy_149
                      obtain ⟨hin1, hcl1⟩ := inz ej1 hj1 (by omega)
                      obtain ⟨hin3, hcl3⟩ := inz ej3 hj3 (by omega)
                      have hnr : ¬ ((0 ≤ z1 ∧ z1 ≤ V1 2 j_1_ ∧ 0 ≤ z4 ∧ z4 ≤ V1 2 j_1_ - z1) ∧ (0 ≤ z3 ∧ z3 ≤ V1 2 j_3_ ∧ 0 ≤ z4 ∧ z4 ≤ V1 2 j_3_ - z3)) := fun q => absurd q.2.1 (Int32.not_le.mpr c_12_)
                      simp only [← eV1]
                      refine ⟨?_, ?_⟩
                      · simp only [if_pos hin1, hcl1, if_pos hin3, hcl3, if_neg c_5_, if_neg c_7_, if_pos c_8_, if_neg hnr]
                        exact eU14
                      · simp only [if_pos hin1, hcl1, if_pos hin3, hcl3, if_neg c_5_, if_neg c_7_, if_pos c_8_, if_neg hnr]
                        exact h_14_
                    · exact absurd rfl c_13_
                  · have n_12_ := Int32.not_lt.mp c_12_
                    refine j_iload C dX12_copy_79 (lv_at hl 5 rfl) ?_
                    refine j_if_lt (tgt := 109) C dX12_copy_81 (by decide) (fun c_15_ => ?_) (fun c_15_ => ?_)
                    · have n_15_ := Int32.not_le.mpr c_15_
                      refine j_iconst (v := 0) C dX12_copy_109 (by decide) ?_
                      refine j_istore (lv2 := [(6, .int (0)), (0, .ref (ad (0))), (1, .int (z0)), (2, .int (z1)), (3, .int (z2)), (4, .int (z3)), (5, .int (z4))]) C dX12_copy_110 hl (by decide) rfl (fun ls hl => ?_)
                      refine j_iload C dX12_copy_112 (lv_at hl 0 rfl) ?_
                      refine j_if_eq (tgt := 144) C dX12_copy_114 (by decide) (fun c_16_ => ?_) (fun c_16_ => ?_)
                      · skip
                        refine j_aload_n C dX12_copy_144 rfl (lv_at hl 1 rfl) ?_
                        refine j_iconst (v := 3) C dX12_copy_145 (by decide) ?_
                        refine j_callV (k := 0) C [.int (3)] [] (k_X12_fails l ad V1 (3)  ) v_RX12_113 (ml (by decide)) (rfl) rfl ⟨rfl, rfl, Nat.le_of_ble_eq_true rfl, Nat.le_of_ble_eq_true rfl⟩ rfl hl.1 rfl (Nat.le_of_ble_eq_true rfl) ⟨Nat.le_of_ble_eq_true rfl, Nat.le_of_ble_eq_true rfl⟩ dX12_copy_146 (kI fun x_17_ U17 h_17_ => ?_)
                        obtain ⟨eU17, h_17_⟩ := h_17_
                        refine j_iret C ⟨rfl, _, rfl, ?_⟩ dX12_copy_149
                        obtain ⟨hin1, hcl1⟩ := inz ej1 hj1 (by omega)
                        obtain ⟨hin3, hcl3⟩ := inz ej3 hj3 (by omega)
                        have hnr : ¬ ((0 ≤ z1 ∧ z1 ≤ V1 2 j_1_ ∧ 0 ≤ z4 ∧ z4 ≤ V1 2 j_1_ - z1) ∧ (0 ≤ z3 ∧ z3 ≤ V1 2 j_3_ ∧ 0 ≤ z4 ∧ z4 ≤ V1 2 j_3_ - z3)) := fun q => absurd q.1.2.2.1 (Int32.not_le.mpr c_15_)
                        simp only [← eV1]
                        refine ⟨?_, ?_⟩
                        · simp only [if_pos hin1, hcl1, if_pos hin3, hcl3, if_neg c_5_, if_neg c_7_, if_pos c_8_, if_neg hnr]
                          exact eU17
                        · simp only [if_pos hin1, hcl1, if_pos hin3, hcl3, if_neg c_5_, if_neg c_7_, if_pos c_8_, if_neg hnr]
                          exact h_17_
                      · exact absurd rfl c_16_
                    · have n_15_ := Int32.not_lt.mp c_15_
                      refine j_iload_n C dX12_copy_84 rfl (lv_at hl 2 rfl) ?_
                      refine j_aload_n C dX12_copy_85 rfl (lv_at hl 0 rfl) ?_
                      refine j_getR (k := 0) (k2 := 2) C (f_RX12_13_12) (ml (by decide)) (rfl) (rfl) dX12_copy_86 ?_
                      refine j_iload_n C dX12_copy_89 rfl (lv_at hl 1 rfl) ?_
                      refine j_ialdE (k := 2) (n := 4) (t := j_1_) C (ml (by decide)) (rfl) (rfl) (ej1) (by omega) (by decide) dX12_copy_90 ?_
                      refine j_icmp_gt (tgt := 109) C dX12_copy_91 (by decide) (fun c_18_ => ?_) (fun c_18_ => ?_)
                      · have n_18_ := Int32.not_le.mpr c_18_
                        refine j_iconst (v := 0) C dX12_copy_109 (by decide) ?_
                        refine j_istore (lv2 := [(6, .int (0)), (0, .ref (ad (0))), (1, .int (z0)), (2, .int (z1)), (3, .int (z2)), (4, .int (z3)), (5, .int (z4))]) C dX12_copy_110 hl (by decide) rfl (fun ls hl => ?_)
                        refine j_iload C dX12_copy_112 (lv_at hl 0 rfl) ?_
                        refine j_if_eq (tgt := 144) C dX12_copy_114 (by decide) (fun c_19_ => ?_) (fun c_19_ => ?_)
                        · skip
                          refine j_aload_n C dX12_copy_144 rfl (lv_at hl 1 rfl) ?_
                          refine j_iconst (v := 3) C dX12_copy_145 (by decide) ?_
                          refine j_callV (k := 0) C [.int (3)] [] (k_X12_fails l ad V1 (3)  ) v_RX12_113 (ml (by decide)) (rfl) rfl ⟨rfl, rfl, Nat.le_of_ble_eq_true rfl, Nat.le_of_ble_eq_true rfl⟩ rfl hl.1 rfl (Nat.le_of_ble_eq_true rfl) ⟨Nat.le_of_ble_eq_true rfl, Nat.le_of_ble_eq_true rfl⟩ dX12_copy_146 (kI fun x_20_ U20 h_20_ => ?_)
                          obtain ⟨eU20, h_20_⟩ := h_20_
                          refine j_iret C ⟨rfl, _, rfl, ?_⟩ dX12_copy_149
                          obtain ⟨hin1, hcl1⟩ := inz ej1 hj1 (by omega)
                          obtain ⟨hin3, hcl3⟩ := inz ej3 hj3 (by omega)
                          have hnr : ¬ ((0 ≤ z1 ∧ z1 ≤ V1 2 j_1_ ∧ 0 ≤ z4 ∧ z4 ≤ V1 2 j_1_ - z1) ∧ (0 ≤ z3 ∧ z3 ≤ V1 2 j_3_ ∧ 0 ≤ z4 ∧ z4 ≤ V1 2 j_3_ - z3)) := fun q => absurd q.1.2.1 (Int32.not_le.mpr c_18_)
                          simp only [← eV1]
                          refine ⟨?_, ?_⟩
                          · simp only [if_pos hin1, hcl1, if_pos hin3, hcl3, if_neg c_5_, if_neg c_7_, if_pos c_8_, if_neg hnr]
                            exact eU20
                          · simp only [if_pos hin1, hcl1, if_pos hin3, hcl3, if_neg c_5_, if_neg c_7_, if_pos c_8_, if_neg hnr]
                            exact h_20_
                        · exact absurd rfl c_19_
                      · have n_18_ := Int32.not_lt.mp c_18_
                        refine j_iload C dX12_copy_94 (lv_at hl 4 rfl) ?_
                        refine j_aload_n C dX12_copy_96 rfl (lv_at hl 0 rfl) ?_
                        refine j_getR (k := 0) (k2 := 2) C (f_RX12_13_12) (ml (by decide)) (rfl) (rfl) dX12_copy_97 ?_
                        refine j_iload_n C dX12_copy_100 rfl (lv_at hl 3 rfl) ?_
                        refine j_ialdE (k := 2) (n := 4) (t := j_3_) C (ml (by decide)) (rfl) (rfl) (ej3) (by omega) (by decide) dX12_copy_101 ?_
                        refine j_icmp_gt (tgt := 109) C dX12_copy_102 (by decide) (fun c_21_ => ?_) (fun c_21_ => ?_)
                        · have n_21_ := Int32.not_le.mpr c_21_
                          refine j_iconst (v := 0) C dX12_copy_109 (by decide) ?_
                          refine j_istore (lv2 := [(6, .int (0)), (0, .ref (ad (0))), (1, .int (z0)), (2, .int (z1)), (3, .int (z2)), (4, .int (z3)), (5, .int (z4))]) C dX12_copy_110 hl (by decide) rfl (fun ls hl => ?_)
                          refine j_iload C dX12_copy_112 (lv_at hl 0 rfl) ?_
                          refine j_if_eq (tgt := 144) C dX12_copy_114 (by decide) (fun c_22_ => ?_) (fun c_22_ => ?_)
                          · skip
                            refine j_aload_n C dX12_copy_144 rfl (lv_at hl 1 rfl) ?_
                            refine j_iconst (v := 3) C dX12_copy_145 (by decide) ?_
                            refine j_callV (k := 0) C [.int (3)] [] (k_X12_fails l ad V1 (3)  ) v_RX12_113 (ml (by decide)) (rfl) rfl ⟨rfl, rfl, Nat.le_of_ble_eq_true rfl, Nat.le_of_ble_eq_true rfl⟩ rfl hl.1 rfl (Nat.le_of_ble_eq_true rfl) ⟨Nat.le_of_ble_eq_true rfl, Nat.le_of_ble_eq_true rfl⟩ dX12_copy_146 (kI fun x_23_ U23 h_23_ => ?_)
                            obtain ⟨eU23, h_23_⟩ := h_23_
                            refine j_iret C ⟨rfl, _, rfl, ?_⟩ dX12_copy_149
                            obtain ⟨hin1, hcl1⟩ := inz ej1 hj1 (by omega)
                            obtain ⟨hin3, hcl3⟩ := inz ej3 hj3 (by omega)
                            have hnr : ¬ ((0 ≤ z1 ∧ z1 ≤ V1 2 j_1_ ∧ 0 ≤ z4 ∧ z4 ≤ V1 2 j_1_ - z1) ∧ (0 ≤ z3 ∧ z3 ≤ V1 2 j_3_ ∧ 0 ≤ z4 ∧ z4 ≤ V1 2 j_3_ - z3)) := fun q => absurd q.2.2.1 (Int32.not_le.mpr c_21_)
                            simp only [← eV1]
                            refine ⟨?_, ?_⟩
                            · simp only [if_pos hin1, hcl1, if_pos hin3, hcl3, if_neg c_5_, if_neg c_7_, if_pos c_8_, if_neg hnr]
                              exact eU23
                            · simp only [if_pos hin1, hcl1, if_pos hin3, hcl3, if_neg c_5_, if_neg c_7_, if_pos c_8_, if_neg hnr]
                              exact h_23_
                          · exact absurd rfl c_22_
                        · have n_21_ := Int32.not_lt.mp c_21_
                          refine j_iconst (v := 1) C dX12_copy_105 (by decide) ?_
                          refine j_goto (tgt := 110) C dX12_copy_106 (by decide) ?_
                          refine j_istore (lv2 := [(6, .int (1)), (0, .ref (ad (0))), (1, .int (z0)), (2, .int (z1)), (3, .int (z2)), (4, .int (z3)), (5, .int (z4))]) C dX12_copy_110 hl (by decide) rfl (fun ls hl => ?_)
                          refine j_iload C dX12_copy_112 (lv_at hl 0 rfl) ?_
                          refine j_if_eq (tgt := 144) C dX12_copy_114 (by decide) (fun c_24_ => ?_) (fun c_24_ => ?_)
                          · exact absurd c_24_ (by decide)
                          · skip
                            refine j_iload C dX12_copy_117 (lv_at hl 6 rfl) ?_
                            refine j_aload_n C dX12_copy_119 rfl (lv_at hl 1 rfl) ?_
                            refine j_getR (k := 0) (k2 := 2) C (f_RX12_13_12) (ml (by decide)) (rfl) (rfl) dX12_copy_120 ?_
                            refine j_iload_n C dX12_copy_123 rfl (lv_at hl 2 rfl) ?_
                            refine j_ialdE (k := 2) (n := 4) (t := j_1_) C (ml (by decide)) (rfl) (rfl) (ej1) (by omega) (by decide) dX12_copy_124 ?_
                            refine j_iload_n C dX12_copy_125 rfl (lv_at hl 3 rfl) ?_
                            refine j_isub C dX12_copy_126 ?_
                            refine j_icmp_gt (tgt := 144) C dX12_copy_127 (by decide) (fun c_25_ => ?_) (fun c_25_ => ?_)
                            · have n_25_ := Int32.not_le.mpr c_25_
                              refine j_aload_n C dX12_copy_144 rfl (lv_at hl 1 rfl) ?_
                              refine j_iconst (v := 3) C dX12_copy_145 (by decide) ?_
                              refine j_callV (k := 0) C [.int (3)] [] (k_X12_fails l ad V1 (3)  ) v_RX12_113 (ml (by decide)) (rfl) rfl ⟨rfl, rfl, Nat.le_of_ble_eq_true rfl, Nat.le_of_ble_eq_true rfl⟩ rfl hl.1 rfl (Nat.le_of_ble_eq_true rfl) ⟨Nat.le_of_ble_eq_true rfl, Nat.le_of_ble_eq_true rfl⟩ dX12_copy_146 (kI fun x_26_ U26 h_26_ => ?_)
                              obtain ⟨eU26, h_26_⟩ := h_26_
                              refine j_iret C ⟨rfl, _, rfl, ?_⟩ dX12_copy_149
                              obtain ⟨hin1, hcl1⟩ := inz ej1 hj1 (by omega)
                              obtain ⟨hin3, hcl3⟩ := inz ej3 hj3 (by omega)
                              have hnr : ¬ ((0 ≤ z1 ∧ z1 ≤ V1 2 j_1_ ∧ 0 ≤ z4 ∧ z4 ≤ V1 2 j_1_ - z1) ∧ (0 ≤ z3 ∧ z3 ≤ V1 2 j_3_ ∧ 0 ≤ z4 ∧ z4 ≤ V1 2 j_3_ - z3)) := fun q => absurd q.1.2.2.2 (Int32.not_le.mpr c_25_)
                              simp only [← eV1]
                              refine ⟨?_, ?_⟩
                              · simp only [if_pos hin1, hcl1, if_pos hin3, hcl3, if_neg c_5_, if_neg c_7_, if_pos c_8_, if_neg hnr]
                                exact eU26
                              · simp only [if_pos hin1, hcl1, if_pos hin3, hcl3, if_neg c_5_, if_neg c_7_, if_pos c_8_, if_neg hnr]
                                exact h_26_
                            · have n_25_ := Int32.not_lt.mp c_25_
                              refine j_iload C dX12_copy_130 (lv_at hl 6 rfl) ?_
                              refine j_aload_n C dX12_copy_132 rfl (lv_at hl 1 rfl) ?_
                              refine j_getR (k := 0) (k2 := 2) C (f_RX12_13_12) (ml (by decide)) (rfl) (rfl) dX12_copy_133 ?_
                              refine j_iload_n C dX12_copy_136 rfl (lv_at hl 4 rfl) ?_
                              refine j_ialdE (k := 2) (n := 4) (t := j_3_) C (ml (by decide)) (rfl) (rfl) (ej3) (by omega) (by decide) dX12_copy_137 ?_
                              refine j_iload C dX12_copy_138 (lv_at hl 5 rfl) ?_
                              refine j_isub C dX12_copy_140 ?_
                              refine j_icmp_le (tgt := 150) C dX12_copy_141 (by decide) (fun c_27_ => ?_) (fun c_27_ => ?_)
                              · have n_27_ := Int32.not_lt.mpr c_27_
                                have hre9 : (0 ≤ z1 ∧ z1 ≤ V1 2 j_1_ ∧ 0 ≤ z4 ∧ z4 ≤ V1 2 j_1_ - z1) ∧ (0 ≤ z3 ∧ z3 ≤ V1 2 j_3_ ∧ 0 ≤ z4 ∧ z4 ≤ V1 2 j_3_ - z3) := ⟨⟨Int32.not_lt.mp c_9_, Int32.not_lt.mp c_18_, Int32.not_lt.mp c_15_, Int32.not_lt.mp c_25_⟩, Int32.not_lt.mp c_12_, Int32.not_lt.mp c_21_, Int32.not_lt.mp c_15_, c_27_⟩
                                obtain ⟨ia, na, ea1, ea2, ea3⟩ := re60 en8 hn8 hre9.1
                                obtain ⟨ib, nb, eb1, eb2, eb3⟩ := re60 em8 hm8 hre9.2
                                obtain rfl : na = nb := nI_inj (by omega) (by omega) (ea2.symm.trans eb2)
                                refine j_iload_n C dX12_copy_150 rfl (lv_at hl 3 rfl) ?_
                                refine j_iload C dX12_copy_151 (lv_at hl 5 rfl) ?_
                                refine j_icmp_ge (tgt := 160) C dX12_copy_153 (by decide) (fun c_28_ => ?_) (fun c_28_ => ?_)
                                · have n_28_ := Int32.not_lt.mpr c_28_
                                  have q28 := cLe (eb1) (ea1) (by omega) (by omega) c_28_
                                  refine j_iconst (v := 0) C dX12_copy_160 (by decide) ?_
                                  refine j_istore (lv2 := [(7, .int (0)), (6, .int (1)), (0, .ref (ad (0))), (1, .int (z0)), (2, .int (z1)), (3, .int (z2)), (4, .int (z3)), (5, .int (z4))]) C dX12_copy_161 hl (by decide) rfl (fun ls hl => ?_)
                                  refine j_iconst (v := 0) C dX12_copy_163 (by decide) ?_
                                  refine j_istore (lv2 := [(8, .int (0)), (7, .int (0)), (6, .int (1)), (0, .ref (ad (0))), (1, .int (z0)), (2, .int (z1)), (3, .int (z2)), (4, .int (z3)), (5, .int (z4))]) C dX12_copy_164 hl (by decide) rfl (fun ls hl => ?_)
                                  have loop : ∀ (n_9_ : Nat) (q9 : Nat) (Vi : Vt), q9 ≤ na → Vi = cpM V1 (60 * j_1_ + ia) (60 * j_3_ + ib) 0 q9 → na - q9 < n_9_ → ∀ (ls : Array Slot), lv_has ls 10 [(0, .ref (ad (0))), (1, .int (z0)), (2, .int (z1)), (3, .int (z2)), (4, .int (z3)), (5, .int (z4)), (7, .int (0)), (8, .int (nI q9))] → J p l e rm_X12_copy s m [.ref (ad (0)), .int (z0), .int (z1), .int (z2), .int (z3), .int (z4)].toArray below meth c A D cy 0 0 (MQ below (gPost D cy A (fun o9 σ2 V2 => σ2 = mS ad ∧ (rI fun x V2 => (V2 = if ¬ z0 < 0 ∧ z0 < nI 4 then (if ¬ z2 < 0 ∧ z2 < nI 4 then (if (up2 V 0 0 0) 1 z0.toNatClampNeg = -9 then up2 (up2 V 0 0 0) 0 0 1 else (if (up2 V 0 0 0) 1 z2.toNatClampNeg = -9 then up2 (up2 V 0 0 0) 0 0 1 else (if (up2 V 0 0 0) 1 z0.toNatClampNeg = (up2 V 0 0 0) 1 z2.toNatClampNeg then (if (0 ≤ z1 ∧ z1 ≤ (up2 V 0 0 0) 2 z0.toNatClampNeg ∧ 0 ≤ z4 ∧ z4 ≤ (up2 V 0 0 0) 2 z0.toNatClampNeg - z1) ∧ (0 ≤ z3 ∧ z3 ≤ (up2 V 0 0 0) 2 z2.toNatClampNeg ∧ 0 ≤ z4 ∧ z4 ≤ (up2 V 0 0 0) 2 z2.toNatClampNeg - z3) then cpM (up2 V 0 0 0) (60 * z0.toNatClampNeg + z1.toNatClampNeg) (60 * z2.toNatClampNeg + z3.toNatClampNeg) 0 z4.toNatClampNeg else up2 (up2 V 0 0 0) 0 0 3) else up2 (up2 V 0 0 0) 0 0 2))) else (up2 V 0 0 0)) else (up2 V 0 0 0)) ∧ x = if ¬ z0 < 0 ∧ z0 < nI 4 then (if ¬ z2 < 0 ∧ z2 < nI 4 then (if (up2 V 0 0 0) 1 z0.toNatClampNeg = -9 then -11 else (if (up2 V 0 0 0) 1 z2.toNatClampNeg = -9 then -11 else (if (up2 V 0 0 0) 1 z0.toNatClampNeg = (up2 V 0 0 0) 1 z2.toNatClampNeg then (if (0 ≤ z1 ∧ z1 ≤ (up2 V 0 0 0) 2 z0.toNatClampNeg ∧ 0 ≤ z4 ∧ z4 ≤ (up2 V 0 0 0) 2 z0.toNatClampNeg - z1) ∧ (0 ≤ z3 ∧ z3 ≤ (up2 V 0 0 0) 2 z2.toNatClampNeg ∧ 0 ≤ z4 ∧ z4 ≤ (up2 V 0 0 0) 2 z2.toNatClampNeg - z3) then z4 else -13) else -12))) else -1) else -1) o9 V2)) [.ref (ad (0)), .int (z0), .int (z1), .int (z2), .int (z3), .int (z4)].toArray s 0 0 A) (mS ad) Vi (F0 m 166 ls []) := by
                                    intro n_9_
                                    induction n_9_ with
                                    | zero =>
                                      intro q9 Vi hi hV hm
                                      exact absurd hm (by omega)
                                    | succ n_9_ ih_loop =>
                                      intro q9 Vi hi hV hm ls hl
                                      refine j_iload C dX12_copy_166 (lv_at hl 7 rfl) ?_
                                      refine j_iload C dX12_copy_168 (lv_at hl 5 rfl) ?_
                                      refine j_icmp_ge (tgt := 227) C dX12_copy_170 (by decide) (fun c_29_ => ?_) (fun c_29_ => ?_)
                                      · have n_29_ := Int32.not_lt.mpr c_29_
                                        have q29 := cLe (ea2) (rfl) (by omega) (by omega) c_29_
                                        refine j_iload C dX12_copy_227 (lv_at hl 5 rfl) ?_
                                        refine j_iret C ⟨rfl, _, rfl, ?_⟩ dX12_copy_229
                                        obtain rfl : q9 = na := by omega
                                        obtain ⟨hin1, hcl1⟩ := inz ej1 hj1 (by omega)
                                        obtain ⟨hin3, hcl3⟩ := inz ej3 hj3 (by omega)
                                        have ecz1 : z1.toNatClampNeg = ia := by rw [ea1, nI_clamp (by omega)]
                                        have ecz3 : z3.toNatClampNeg = ib := by rw [eb1, nI_clamp (by omega)]
                                        have ecz4 : z4.toNatClampNeg = q9 := by rw [ea2, nI_clamp (by omega)]
                                        simp only [← eV1]
                                        refine ⟨?_, ?_⟩
                                        · simp only [if_pos hin1, hcl1, if_pos hin3, hcl3, if_neg c_5_, if_neg c_7_, if_pos c_8_, if_pos hre9, ecz1, ecz3, ecz4]
                                          exact hV
                                        · simp only [if_pos hin1, hcl1, if_pos hin3, hcl3, if_neg c_5_, if_neg c_7_, if_pos c_8_, if_pos hre9, ecz1, ecz3, ecz4]
                                      · have n_29_ := Int32.not_le.mp c_29_
                                        have q29 := cNe (ea2) (rfl) (by omega) (by omega) c_29_
                                        refine j_iload C dX12_copy_173 (lv_at hl 6 rfl) ?_
                                        refine j_if_eq (tgt := 188) C dX12_copy_175 (by decide) (fun c_30_ => ?_) (fun c_30_ => ?_)
                                        · skip
                                          refine j_iload C dX12_copy_188 (lv_at hl 7 rfl) ?_
                                          refine j_istore (lv2 := [(9, .int (nI q9)), (0, .ref (ad (0))), (1, .int (z0)), (2, .int (z1)), (3, .int (z2)), (4, .int (z3)), (5, .int (z4)), (7, .int (0)), (8, .int (nI q9))]) C dX12_copy_190 hl (by decide) rfl (fun ls hl => ?_)
                                          refine j_aload_n C dX12_copy_192 rfl (lv_at hl 1 rfl) ?_
                                          refine j_getR (k := 0) (k2 := 3) C (f_RX12_16_12) (ml (by decide)) (rfl) (rfl) dX12_copy_193 ?_
                                          refine j_bipush (v := 60) C dX12_copy_196 (by decide) ?_
                                          refine j_iload_n C dX12_copy_198 rfl (lv_at hl 4 rfl) ?_
                                          refine j_imul C dX12_copy_199 ?_
                                          refine j_iload C dX12_copy_200 (lv_at hl 5 rfl) ?_
                                          refine j_iadd C dX12_copy_202 ?_
                                          refine j_iload C dX12_copy_203 (lv_at hl 0 rfl) ?_
                                          refine j_iadd C dX12_copy_205 ?_
                                          refine j_aload_n C dX12_copy_206 rfl (lv_at hl 1 rfl) ?_
                                          refine j_getR (k := 0) (k2 := 3) C (f_RX12_16_12) (ml (by decide)) (rfl) (rfl) dX12_copy_207 ?_
                                          refine j_bipush (v := 60) C dX12_copy_210 (by decide) ?_
                                          refine j_iload_n C dX12_copy_212 rfl (lv_at hl 2 rfl) ?_
                                          refine j_imul C dX12_copy_213 ?_
                                          refine j_iload_n C dX12_copy_214 rfl (lv_at hl 3 rfl) ?_
                                          refine j_iadd C dX12_copy_215 ?_
                                          refine j_iload C dX12_copy_216 (lv_at hl 0 rfl) ?_
                                          refine j_iadd C dX12_copy_218 ?_
                                          refine j_ialdE (k := 3) (n := 240) (t := 60 * j_1_ + ia + q9) C (ml (by decide)) (rfl) (rfl) (nA (nA (nM (show (60 : Int32) = nI 60 from rfl) (ej1)) (ea1)) (rfl)) (by omega) (by decide) dX12_copy_219 ?_
                                          refine j_iastE (k := 3) (n := 240) (t := 60 * j_3_ + ib + q9) C (ml (by decide)) (rfl) (rfl) (nA (nA (nM (show (60 : Int32) = nI 60 from rfl) (ej3)) (eb1)) (rfl)) (by omega) (by decide) dX12_copy_220 (fun V2 eV2 => ?_)
                                          refine j_iinc (v := nI (q9 + 1)) (lv2 := [(8, .int (nI (q9 + 1))), (9, .int (nI q9)), (0, .ref (ad (0))), (1, .int (z0)), (2, .int (z1)), (3, .int (z2)), (4, .int (z3)), (5, .int (z4)), (7, .int (0))]) C dX12_copy_221 hl (k0 := 8) rfl (nI_1 _) (by decide) rfl (fun ls hl => ?_)
                                          refine j_goto (tgt := 166) C dX12_copy_224 (by decide) ?_
                                          exact ih_loop (q9 + 1) V2 (by omega) (by rw [eV2, hV, cpM_up V1 _ _ q9 (by omega)]) (by omega) ls (lv_sub hl [2, 3, 4, 5, 6, 7, 8, 0] rfl)
                                        · exact absurd rfl c_30_
                                  exact loop (na + 1) 0 V1 (by omega) (by rw [cpM_0]) (by omega) ls (lv_sub hl [3, 4, 5, 6, 7, 8, 1, 0] rfl)
                                · have n_28_ := Int32.not_le.mp c_28_
                                  have q28 := cNe (eb1) (ea1) (by omega) (by omega) c_28_
                                  refine j_iconst (v := 1) C dX12_copy_156 (by decide) ?_
                                  refine j_goto (tgt := 161) C dX12_copy_157 (by decide) ?_
                                  refine j_istore (lv2 := [(7, .int (1)), (6, .int (1)), (0, .ref (ad (0))), (1, .int (z0)), (2, .int (z1)), (3, .int (z2)), (4, .int (z3)), (5, .int (z4))]) C dX12_copy_161 hl (by decide) rfl (fun ls hl => ?_)
                                  refine j_iconst (v := 0) C dX12_copy_163 (by decide) ?_
                                  refine j_istore (lv2 := [(8, .int (0)), (7, .int (1)), (6, .int (1)), (0, .ref (ad (0))), (1, .int (z0)), (2, .int (z1)), (3, .int (z2)), (4, .int (z3)), (5, .int (z4))]) C dX12_copy_164 hl (by decide) rfl (fun ls hl => ?_)
                                  have loop : ∀ (n_9_ : Nat) (q9 : Nat) (Vi : Vt), q9 ≤ na → Vi = cpM V1 (60 * j_1_ + ia) (60 * j_3_ + ib) (na - q9) na → na - q9 < n_9_ → ∀ (ls : Array Slot), lv_has ls 10 [(0, .ref (ad (0))), (1, .int (z0)), (2, .int (z1)), (3, .int (z2)), (4, .int (z3)), (5, .int (z4)), (7, .int (1)), (8, .int (nI q9))] → J p l e rm_X12_copy s m [.ref (ad (0)), .int (z0), .int (z1), .int (z2), .int (z3), .int (z4)].toArray below meth c A D cy 0 0 (MQ below (gPost D cy A (fun o9 σ2 V2 => σ2 = mS ad ∧ (rI fun x V2 => (V2 = if ¬ z0 < 0 ∧ z0 < nI 4 then (if ¬ z2 < 0 ∧ z2 < nI 4 then (if (up2 V 0 0 0) 1 z0.toNatClampNeg = -9 then up2 (up2 V 0 0 0) 0 0 1 else (if (up2 V 0 0 0) 1 z2.toNatClampNeg = -9 then up2 (up2 V 0 0 0) 0 0 1 else (if (up2 V 0 0 0) 1 z0.toNatClampNeg = (up2 V 0 0 0) 1 z2.toNatClampNeg then (if (0 ≤ z1 ∧ z1 ≤ (up2 V 0 0 0) 2 z0.toNatClampNeg ∧ 0 ≤ z4 ∧ z4 ≤ (up2 V 0 0 0) 2 z0.toNatClampNeg - z1) ∧ (0 ≤ z3 ∧ z3 ≤ (up2 V 0 0 0) 2 z2.toNatClampNeg ∧ 0 ≤ z4 ∧ z4 ≤ (up2 V 0 0 0) 2 z2.toNatClampNeg - z3) then cpM (up2 V 0 0 0) (60 * z0.toNatClampNeg + z1.toNatClampNeg) (60 * z2.toNatClampNeg + z3.toNatClampNeg) 0 z4.toNatClampNeg else up2 (up2 V 0 0 0) 0 0 3) else up2 (up2 V 0 0 0) 0 0 2))) else (up2 V 0 0 0)) else (up2 V 0 0 0)) ∧ x = if ¬ z0 < 0 ∧ z0 < nI 4 then (if ¬ z2 < 0 ∧ z2 < nI 4 then (if (up2 V 0 0 0) 1 z0.toNatClampNeg = -9 then -11 else (if (up2 V 0 0 0) 1 z2.toNatClampNeg = -9 then -11 else (if (up2 V 0 0 0) 1 z0.toNatClampNeg = (up2 V 0 0 0) 1 z2.toNatClampNeg then (if (0 ≤ z1 ∧ z1 ≤ (up2 V 0 0 0) 2 z0.toNatClampNeg ∧ 0 ≤ z4 ∧ z4 ≤ (up2 V 0 0 0) 2 z0.toNatClampNeg - z1) ∧ (0 ≤ z3 ∧ z3 ≤ (up2 V 0 0 0) 2 z2.toNatClampNeg ∧ 0 ≤ z4 ∧ z4 ≤ (up2 V 0 0 0) 2 z2.toNatClampNeg - z3) then z4 else -13) else -12))) else -1) else -1) o9 V2)) [.ref (ad (0)), .int (z0), .int (z1), .int (z2), .int (z3), .int (z4)].toArray s 0 0 A) (mS ad) Vi (F0 m 166 ls []) := by
                                    intro n_9_
                                    induction n_9_ with
                                    | zero =>
                                      intro q9 Vi hi hV hm
                                      exact absurd hm (by omega)
                                    | succ n_9_ ih_loop =>
                                      intro q9 Vi hi hV hm ls hl
                                      refine j_iload C dX12_copy_166 (lv_at hl 7 rfl) ?_
                                      refine j_iload C dX12_copy_168 (lv_at hl 5 rfl) ?_
                                      refine j_icmp_ge (tgt := 227) C dX12_copy_170 (by decide) (fun c_31_ => ?_) (fun c_31_ => ?_)
                                      · have n_31_ := Int32.not_lt.mpr c_31_
                                        have q31 := cLe (ea2) (rfl) (by omega) (by omega) c_31_
                                        refine j_iload C dX12_copy_227 (lv_at hl 5 rfl) ?_
                                        refine j_iret C ⟨rfl, _, rfl, ?_⟩ dX12_copy_229
                                        obtain rfl : q9 = na := by omega
                                        rw [Nat.sub_self] at hV
                                        obtain ⟨hin1, hcl1⟩ := inz ej1 hj1 (by omega)
                                        obtain ⟨hin3, hcl3⟩ := inz ej3 hj3 (by omega)
                                        have ecz1 : z1.toNatClampNeg = ia := by rw [ea1, nI_clamp (by omega)]
                                        have ecz3 : z3.toNatClampNeg = ib := by rw [eb1, nI_clamp (by omega)]
                                        have ecz4 : z4.toNatClampNeg = q9 := by rw [ea2, nI_clamp (by omega)]
                                        simp only [← eV1]
                                        refine ⟨?_, ?_⟩
                                        · simp only [if_pos hin1, hcl1, if_pos hin3, hcl3, if_neg c_5_, if_neg c_7_, if_pos c_8_, if_pos hre9, ecz1, ecz3, ecz4]
                                          exact hV
                                        · simp only [if_pos hin1, hcl1, if_pos hin3, hcl3, if_neg c_5_, if_neg c_7_, if_pos c_8_, if_pos hre9, ecz1, ecz3, ecz4]
                                      · have n_31_ := Int32.not_le.mp c_31_
                                        have q31 := cNe (ea2) (rfl) (by omega) (by omega) c_31_
                                        refine j_iload C dX12_copy_173 (lv_at hl 6 rfl) ?_
                                        refine j_if_eq (tgt := 188) C dX12_copy_175 (by decide) (fun c_32_ => ?_) (fun c_32_ => ?_)
                                        · exact absurd c_32_ (by decide)
                                        · skip
                                          refine j_iload C dX12_copy_178 (lv_at hl 5 rfl) ?_
                                          refine j_iconst (v := 1) C dX12_copy_180 (by decide) ?_
                                          refine j_isub C dX12_copy_181 ?_
                                          refine j_iload C dX12_copy_182 (lv_at hl 7 rfl) ?_
                                          refine j_isub C dX12_copy_184 ?_
                                          refine j_goto (tgt := 190) C dX12_copy_185 (by decide) ?_
                                          refine j_istore (lv2 := [(9, .int ((z4 - 1) - (nI q9))), (0, .ref (ad (0))), (1, .int (z0)), (2, .int (z1)), (3, .int (z2)), (4, .int (z3)), (5, .int (z4)), (7, .int (1)), (8, .int (nI q9))]) C dX12_copy_190 hl (by decide) rfl (fun ls hl => ?_)
                                          refine j_aload_n C dX12_copy_192 rfl (lv_at hl 1 rfl) ?_
                                          refine j_getR (k := 0) (k2 := 3) C (f_RX12_16_12) (ml (by decide)) (rfl) (rfl) dX12_copy_193 ?_
                                          refine j_bipush (v := 60) C dX12_copy_196 (by decide) ?_
                                          refine j_iload_n C dX12_copy_198 rfl (lv_at hl 4 rfl) ?_
                                          refine j_imul C dX12_copy_199 ?_
                                          refine j_iload C dX12_copy_200 (lv_at hl 5 rfl) ?_
                                          refine j_iadd C dX12_copy_202 ?_
                                          refine j_iload C dX12_copy_203 (lv_at hl 0 rfl) ?_
                                          refine j_iadd C dX12_copy_205 ?_
                                          refine j_aload_n C dX12_copy_206 rfl (lv_at hl 1 rfl) ?_
                                          refine j_getR (k := 0) (k2 := 3) C (f_RX12_16_12) (ml (by decide)) (rfl) (rfl) dX12_copy_207 ?_
                                          refine j_bipush (v := 60) C dX12_copy_210 (by decide) ?_
                                          refine j_iload_n C dX12_copy_212 rfl (lv_at hl 2 rfl) ?_
                                          refine j_imul C dX12_copy_213 ?_
                                          refine j_iload_n C dX12_copy_214 rfl (lv_at hl 3 rfl) ?_
                                          refine j_iadd C dX12_copy_215 ?_
                                          refine j_iload C dX12_copy_216 (lv_at hl 0 rfl) ?_
                                          refine j_iadd C dX12_copy_218 ?_
                                          refine j_ialdE (k := 3) (n := 240) (t := 60 * j_1_ + ia + (na - 1 - q9)) C (ml (by decide)) (rfl) (rfl) (nA (nA (nM (show (60 : Int32) = nI 60 from rfl) (ej1)) (ea1)) ((by rw [ea2, sub1 (by omega), pk_sub (by omega)] : (z4 - 1) - (nI q9) = nI (na - 1 - q9)))) (by omega) (by decide) dX12_copy_219 ?_
                                          refine j_iastE (k := 3) (n := 240) (t := 60 * j_3_ + ib + (na - 1 - q9)) C (ml (by decide)) (rfl) (rfl) (nA (nA (nM (show (60 : Int32) = nI 60 from rfl) (ej3)) (eb1)) ((by rw [ea2, sub1 (by omega), pk_sub (by omega)] : (z4 - 1) - (nI q9) = nI (na - 1 - q9)))) (by omega) (by decide) dX12_copy_220 (fun V3 eV3 => ?_)
                                          refine j_iinc (v := nI (q9 + 1)) (lv2 := [(8, .int (nI (q9 + 1))), (9, .int ((z4 - 1) - (nI q9))), (0, .ref (ad (0))), (1, .int (z0)), (2, .int (z1)), (3, .int (z2)), (4, .int (z3)), (5, .int (z4)), (7, .int (1))]) C dX12_copy_221 hl (k0 := 8) rfl (nI_1 _) (by decide) rfl (fun ls hl => ?_)
                                          refine j_goto (tgt := 166) C dX12_copy_224 (by decide) ?_
                                          exact ih_loop (q9 + 1) V3 (by omega) (by rw [eV3, hV, show na - q9 = (na - 1 - q9) + 1 by omega, cpM_down V1 _ _ (na - 1 - q9) na (by omega) (by omega), show na - 1 - q9 = na - (q9 + 1) by omega]) (by omega) ls (lv_sub hl [2, 3, 4, 5, 6, 7, 8, 0] rfl)
                                  exact loop (na + 1) 0 V1 (by omega) (by rw [Nat.sub_zero, cpM_0]) (by omega) ls (lv_sub hl [3, 4, 5, 6, 7, 8, 1, 0] rfl)
                              · have n_27_ := Int32.not_le.mp c_27_
                                refine j_aload_n C dX12_copy_144 rfl (lv_at hl 1 rfl) ?_
                                refine j_iconst (v := 3) C dX12_copy_145 (by decide) ?_
                                refine j_callV (k := 0) C [.int (3)] [] (k_X12_fails l ad V1 (3)  ) v_RX12_113 (ml (by decide)) (rfl) rfl ⟨rfl, rfl, Nat.le_of_ble_eq_true rfl, Nat.le_of_ble_eq_true rfl⟩ rfl hl.1 rfl (Nat.le_of_ble_eq_true rfl) ⟨Nat.le_of_ble_eq_true rfl, Nat.le_of_ble_eq_true rfl⟩ dX12_copy_146 (kI fun x_33_ U33 h_33_ => ?_)
                                obtain ⟨eU33, h_33_⟩ := h_33_
                                refine j_iret C ⟨rfl, _, rfl, ?_⟩ dX12_copy_149
                                obtain ⟨hin1, hcl1⟩ := inz ej1 hj1 (by omega)
                                obtain ⟨hin3, hcl3⟩ := inz ej3 hj3 (by omega)
                                have hnr : ¬ ((0 ≤ z1 ∧ z1 ≤ V1 2 j_1_ ∧ 0 ≤ z4 ∧ z4 ≤ V1 2 j_1_ - z1) ∧ (0 ≤ z3 ∧ z3 ≤ V1 2 j_3_ ∧ 0 ≤ z4 ∧ z4 ≤ V1 2 j_3_ - z3)) := fun q => c_27_ q.2.2.2.2
                                simp only [← eV1]
                                refine ⟨?_, ?_⟩
                                · simp only [if_pos hin1, hcl1, if_pos hin3, hcl3, if_neg c_5_, if_neg c_7_, if_pos c_8_, if_neg hnr]
                                  exact eU33
                                · simp only [if_pos hin1, hcl1, if_pos hin3, hcl3, if_neg c_5_, if_neg c_7_, if_pos c_8_, if_neg hnr]
                                  exact h_33_
              · skip
                refine j_aload_n C dX12_copy_64 rfl (lv_at hl 0 rfl) ?_
                refine j_iconst (v := 2) C dX12_copy_65 (by decide) ?_
                refine j_callV (k := 0) C [.int (2)] [] (k_X12_fails l ad V1 (2)  ) v_RX12_113 (ml (by decide)) (rfl) rfl ⟨rfl, rfl, Nat.le_of_ble_eq_true rfl, Nat.le_of_ble_eq_true rfl⟩ rfl hl.1 rfl (Nat.le_of_ble_eq_true rfl) ⟨Nat.le_of_ble_eq_true rfl, Nat.le_of_ble_eq_true rfl⟩ dX12_copy_66 (kI fun x_34_ U34 h_34_ => ?_)
                obtain ⟨eU34, h_34_⟩ := h_34_
                refine j_iret C ⟨rfl, _, rfl, ?_⟩ dX12_copy_69
                obtain ⟨hin1, hcl1⟩ := inz ej1 hj1 (by omega)
                obtain ⟨hin3, hcl3⟩ := inz ej3 hj3 (by omega)
                simp only [← eV1]
                refine ⟨?_, ?_⟩
                · simp only [if_pos hin1, hcl1, if_pos hin3, hcl3, if_neg c_5_, if_neg c_7_, if_neg c_8_]
                  exact eU34
                · simp only [if_pos hin1, hcl1, if_pos hin3, hcl3, if_neg c_5_, if_neg c_7_, if_neg c_8_]
                  exact h_34_
            · skip
              refine j_aload_n C dX12_copy_43 rfl (lv_at hl 0 rfl) ?_
              refine j_iconst (v := 1) C dX12_copy_44 (by decide) ?_
              refine j_callV (k := 0) C [.int (1)] [] (k_X12_fails l ad V1 (1)  ) v_RX12_113 (ml (by decide)) (rfl) rfl ⟨rfl, rfl, Nat.le_of_ble_eq_true rfl, Nat.le_of_ble_eq_true rfl⟩ rfl hl.1 rfl (Nat.le_of_ble_eq_true rfl) ⟨Nat.le_of_ble_eq_true rfl, Nat.le_of_ble_eq_true rfl⟩ dX12_copy_45 (kI fun x_35_ U35 h_35_ => ?_)
              obtain ⟨eU35, h_35_⟩ := h_35_
              refine j_iret C ⟨rfl, _, rfl, ?_⟩ dX12_copy_48
              obtain ⟨hin1, hcl1⟩ := inz ej1 hj1 (by omega)
              obtain ⟨hin3, hcl3⟩ := inz ej3 hj3 (by omega)
              simp only [← eV1]
              refine ⟨?_, ?_⟩
              · simp only [if_pos hin1, hcl1, if_pos hin3, hcl3, if_neg c_5_, if_pos c_7_]
                exact eU35
              · simp only [if_pos hin1, hcl1, if_pos hin3, hcl3, if_neg c_5_, if_pos c_7_]
                exact h_35_
        · exact absurd c_4_ (by decide)
      · subst ex3
        refine j_if_ne (tgt := 21) C dX12_copy_16 (by decide) (fun c_36_ => ?_) (fun c_36_ => ?_)
        · exact absurd rfl c_36_
        · skip
          refine j_iconst (v := (-1)) C dX12_copy_19 (by decide) ?_
          refine j_iret C ⟨rfl, _, rfl, ?_⟩ dX12_copy_20
          obtain ⟨hin1, hcl1⟩ := inz ej1 hj1 (by omega)
          have hot3 := outR ho3
          simp only [← eV1]
          refine ⟨?_, ?_⟩ <;> simp only [if_pos hin1, hcl1, if_neg hot3]
  · subst ex1
    refine j_if_eq (tgt := 19) C dX12_copy_9 (by decide) (fun c_37_ => ?_) (fun c_37_ => ?_)
    · skip
      refine j_iconst (v := (-1)) C dX12_copy_19 (by decide) ?_
      refine j_iret C ⟨rfl, _, rfl, ?_⟩ dX12_copy_20
      have hot1 := outR ho1
      simp only [← eV1]
      refine ⟨?_, ?_⟩ <;> simp only [if_neg hot1]
    · exact absurd rfl c_37_
