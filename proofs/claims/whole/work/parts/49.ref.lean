abbrev rm_X12_sheet : Room := { frames := 2, cells := 0, slots := 0, locals := 42 }
set_option maxHeartbeats 4000000 in
set_option maxRecDepth 100000 in
theorem k_X12_sheet (l : Launch) (ad : Nat → Nat) (V : Vt) (z0 z1 z2 : Int32) (ng : Nat) (rr : Nat → Nat) (nt c_0_ : Nat) (hM : MI V ng rr nt c_0_)  : Ct l yX12_sheet cX12_sheet 5 (some .int) rm_X12_sheet (mS ad) V [.ref (ad (0)), .int (z0), .int (z1), .int (z2)] (rI fun x V2 => (V2 = if ¬ z0 < 0 ∧ z0 < nI 4 then (if 0 ≤ z1 ∧ z1 ≤ 2 then (if 60 < z2 then (up2 V 0 0 0) else (if z2 < 0 then up2 (up2 V 0 0 0) 0 0 4 else rnM (up2 V 0 0 0) z0.toNatClampNeg z1 z2 60)) else (up2 V 0 0 0)) else (up2 V 0 0 0)) ∧ x = if ¬ z0 < 0 ∧ z0 < nI 4 then (if 0 ≤ z1 ∧ z1 ≤ 2 then (if 60 < z2 then -2 else (if z2 < 0 then -14 else 1)) else -2) else -1) := by
  refine Ct_of (by decide) (Nat.le_of_ble_eq_true rfl) ?_
  intro p e s m below meth c A D cy ls C hl
  have hl : lv_has ls 5 [(0, .ref (ad (0))), (1, .int (z0)), (2, .int (z1)), (3, .int (z2))] := hl
  have ng4 := hM.2.1
  have nt5 := hM.2.2.2.1
  refine j_aload_n C dX12_sheet_0 rfl (lv_at hl 0 rfl) ?_
  refine j_iconst (v := 0) C dX12_sheet_1 (by decide) ?_
  refine j_putI (k := 0) C (f_RX12_79_12) p_12_0 (ml (by decide)) (rfl) dX12_sheet_2 (fun V1 eV1 => ?_)
  have hM1 : MI V1 ng rr nt c_0_ := by rw [eV1]; exact MI_f hM
  refine j_iload_n C dX12_sheet_5 rfl (lv_at hl 1 rfl) ?_
  refine j_callS C [.int (z0)] [] (k_X12_isSheet l (mS ad) V1 (z0)  ) v_RX12_102 ⟨rfl, rfl, Nat.le_of_ble_eq_true rfl, Nat.le_of_ble_eq_true rfl⟩ rfl hl.1 rfl (Nat.le_of_ble_eq_true rfl) ⟨Nat.le_of_ble_eq_true rfl, Nat.le_of_ble_eq_true rfl⟩ dX12_sheet_6 (kI fun x_1_ U1 h_1_ => ?_)
  obtain ⟨eU1, h_1_⟩ := h_1_
  have eU1 := eU1.symm
  subst eU1
  rcases h_1_ with ⟨j_1_, hj1, ej1, ex1⟩ | ⟨ho1, ex1⟩
  · subst ex1
    refine j_if_ne (tgt := 14) C dX12_sheet_9 (by decide) (fun c_2_ => ?_) (fun c_2_ => ?_)
    · skip
      refine j_iload_n C dX12_sheet_14 rfl (lv_at hl 2 rfl) ?_
      refine j_callS C [.int (z1)] [] (k_X12_isSort l (mS ad) V1 (z1)  ) v_RX12_106 ⟨rfl, rfl, Nat.le_of_ble_eq_true rfl, Nat.le_of_ble_eq_true rfl⟩ rfl hl.1 rfl (Nat.le_of_ble_eq_true rfl) ⟨Nat.le_of_ble_eq_true rfl, Nat.le_of_ble_eq_true rfl⟩ dX12_sheet_15 (kI fun x_3_ U3 h_3_ => ?_)
      obtain ⟨eU3, h_3_⟩ := h_3_
      have eU3 := eU3.symm
      subst eU3
      refine j_if_eq (tgt := 27) C dX12_sheet_18 (by decide) (fun c_4_ => ?_) (fun c_4_ => ?_)
      · skip
        have b4 := bI_0.mp (h_3_ ▸ c_4_)
        refine j_bipush (v := (-2)) C dX12_sheet_27 (by decide) ?_
        refine j_iret C ⟨rfl, _, rfl, ?_⟩ dX12_sheet_29
        simp only [← eV1]
        obtain ⟨hin1, hcl1⟩ := inz ej1 hj1 (by omega)
        refine ⟨?_, ?_⟩
        · first | (simp only [if_pos hin1, hcl1, if_neg b4]; done) | (simp only [if_pos hin1, hcl1, if_neg b4]; exact eV1) | (simp only [if_pos hin1, hcl1, if_neg b4]; rw [eV1]; done) | (simp only [if_pos hin1, hcl1, if_neg b4]; exact h_3_) | (simp only [if_pos hin1, hcl1, if_neg b4]; rw [h_3_]; done) | (simp only [if_pos hin1, hcl1, if_neg b4]; rfl)
        · first | (simp only [if_pos hin1, hcl1, if_neg b4]; done) | (simp only [if_pos hin1, hcl1, if_neg b4]; exact h_3_) | (simp only [if_pos hin1, hcl1, if_neg b4]; rw [h_3_]; done) | (simp only [if_pos hin1, hcl1, if_neg b4]; rfl)
      · skip
        have b4 := Decidable.not_not.mp (mt bI_0.mpr (h_3_ ▸ c_4_))
        refine j_iload_n C dX12_sheet_21 rfl (lv_at hl 3 rfl) ?_
        refine j_bipush (v := 60) C dX12_sheet_22 (by decide) ?_
        refine j_icmp_le (tgt := 30) C dX12_sheet_24 (by decide) (fun c_5_ => ?_) (fun c_5_ => ?_)
        · have n_5_ := Int32.not_lt.mpr c_5_
          refine j_iload_n C dX12_sheet_30 rfl (lv_at hl 3 rfl) ?_
          refine j_if_ge (tgt := 40) C dX12_sheet_31 (by decide) (fun c_6_ => ?_) (fun c_6_ => ?_)
          · have n_6_ := Int32.not_lt.mpr c_6_
            refine j_aload_n C dX12_sheet_40 rfl (lv_at hl 0 rfl) ?_
            refine j_getR (k := 0) (k2 := 1) C (f_RX12_9_12) (ml (by decide)) (rfl) (rfl) dX12_sheet_41 ?_
            refine j_iload_n C dX12_sheet_44 rfl (lv_at hl 1 rfl) ?_
            refine j_iload_n C dX12_sheet_45 rfl (lv_at hl 2 rfl) ?_
            refine j_iastE (k := 1) (n := 4) (t := j_1_) C (ml (by decide)) (rfl) (rfl) (ej1) (by omega) (by decide) dX12_sheet_46 (fun V2 eV2 => ?_)
            refine j_aload_n C dX12_sheet_47 rfl (lv_at hl 0 rfl) ?_
            refine j_getR (k := 0) (k2 := 2) C (f_RX12_13_12) (ml (by decide)) (rfl) (rfl) dX12_sheet_48 ?_
            refine j_iload_n C dX12_sheet_51 rfl (lv_at hl 1 rfl) ?_
            refine j_iload_n C dX12_sheet_52 rfl (lv_at hl 3 rfl) ?_
            refine j_iastE (k := 2) (n := 4) (t := j_1_) C (ml (by decide)) (rfl) (rfl) (ej1) (by omega) (by decide) dX12_sheet_53 (fun V3 eV3 => ?_)
            skip
            refine j_iconst (v := 0) C dX12_sheet_54 (by decide) ?_
            refine j_istore (lv2 := [(4, .int (0)), (0, .ref (ad (0))), (1, .int (z0)), (2, .int (z1)), (3, .int (z2))]) C dX12_sheet_55 hl (by decide) rfl (fun ls hl => ?_)
            have loop : ∀ (n_9_ : Nat) (i : Nat) (Vi : Vt), i ≤ 60 → Vi = rnM V1 j_1_ z1 z2 i → 60 - i < n_9_ → ∀ (ls : Array Slot), lv_has ls 5 [(0, .ref (ad (0))), (1, .int (z0)), (4, .int (nI i))] → J p l e rm_X12_sheet s m [.ref (ad (0)), .int (z0), .int (z1), .int (z2)].toArray below meth c A D cy 0 0 (MQ below (gPost D cy A (fun o9 σ2 V2 => σ2 = mS ad ∧ (rI fun x V2 => (V2 = if ¬ z0 < 0 ∧ z0 < nI 4 then (if 0 ≤ z1 ∧ z1 ≤ 2 then (if 60 < z2 then (up2 V 0 0 0) else (if z2 < 0 then up2 (up2 V 0 0 0) 0 0 4 else rnM (up2 V 0 0 0) z0.toNatClampNeg z1 z2 60)) else (up2 V 0 0 0)) else (up2 V 0 0 0)) ∧ x = if ¬ z0 < 0 ∧ z0 < nI 4 then (if 0 ≤ z1 ∧ z1 ≤ 2 then (if 60 < z2 then -2 else (if z2 < 0 then -14 else 1)) else -2) else -1) o9 V2)) [.ref (ad (0)), .int (z0), .int (z1), .int (z2)].toArray s 0 0 A) (mS ad) Vi (F0 m 57 ls []) := by
              intro n_9_
              induction n_9_ with
              | zero =>
                intro i Vi hi hV hm
                exact absurd hm (by omega)
              | succ n_9_ ih_loop =>
                intro i Vi hi hV hm ls hl
                refine j_iload C dX12_sheet_57 (lv_at hl 2 rfl) ?_
                refine j_bipush (v := 60) C dX12_sheet_59 (by decide) ?_
                refine j_icmp_ge (tgt := 83) C dX12_sheet_61 (by decide) (fun c_7_ => ?_) (fun c_7_ => ?_)
                · have n_7_ := Int32.not_lt.mpr c_7_
                  have q7 := cLe (show (60 : Int32) = nI 60 from rfl) (rfl) (by omega) (by omega) c_7_
                  refine j_iconst (v := 1) C dX12_sheet_83 (by decide) ?_
                  refine j_iret C ⟨rfl, _, rfl, ?_⟩ dX12_sheet_84
                  obtain rfl : i = 60 := by omega
                  obtain ⟨hin1, hcl1⟩ := inz ej1 hj1 (by omega)
                  simp only [← eV1]
                  refine ⟨?_, ?_⟩
                  · simp only [if_pos hin1, hcl1, if_pos b4, if_neg (Int32.not_lt.mpr c_5_), if_neg (Int32.not_lt.mpr c_6_)]
                    exact hV
                  · simp only [if_pos hin1, hcl1, if_pos b4, if_neg (Int32.not_lt.mpr c_5_), if_neg (Int32.not_lt.mpr c_6_)]
                · have n_7_ := Int32.not_le.mp c_7_
                  have q7 := cNe (show (60 : Int32) = nI 60 from rfl) (rfl) (by omega) (by omega) c_7_
                  refine j_aload_n C dX12_sheet_64 rfl (lv_at hl 0 rfl) ?_
                  refine j_getR (k := 0) (k2 := 3) C (f_RX12_16_12) (ml (by decide)) (rfl) (rfl) dX12_sheet_65 ?_
                  refine j_bipush (v := 60) C dX12_sheet_68 (by decide) ?_
                  refine j_iload_n C dX12_sheet_70 rfl (lv_at hl 1 rfl) ?_
                  refine j_imul C dX12_sheet_71 ?_
                  refine j_iload C dX12_sheet_72 (lv_at hl 2 rfl) ?_
                  refine j_iadd C dX12_sheet_74 ?_
                  refine j_iconst (v := 0) C dX12_sheet_75 (by decide) ?_
                  refine j_iastE (k := 3) (n := 240) (t := 60 * j_1_ + i) C (ml (by decide)) (rfl) (rfl) (nA (nM (show (60 : Int32) = nI 60 from rfl) (ej1)) (rfl)) (by omega) (by decide) dX12_sheet_76 (fun V4 eV4 => ?_)
                  refine j_iinc (v := nI (i + 1)) (lv2 := [(4, .int (nI (i + 1))), (0, .ref (ad (0))), (1, .int (z0))]) C dX12_sheet_77 hl (k0 := 2) rfl (nI_1 _) (by decide) rfl (fun ls hl => ?_)
                  refine j_goto (tgt := 57) C dX12_sheet_80 (by decide) ?_
                  exact ih_loop (i + 1) V4 (by omega) (by rw [eV4, hV, rnM_s]) (by omega) ls (lv_sub hl [1, 2, 0] rfl)
            exact loop 61 0 V3 (by omega) (by rw [eV3, eV2, rnM_0]) (by omega) ls (lv_sub hl [1, 2, 0] rfl)
          · have n_6_ := Int32.not_le.mp c_6_
            refine j_aload_n C dX12_sheet_34 rfl (lv_at hl 0 rfl) ?_
            refine j_iconst (v := 4) C dX12_sheet_35 (by decide) ?_
            refine j_callV (k := 0) C [.int (4)] [] (k_X12_fails l ad V1 (4)  ) v_RX12_113 (ml (by decide)) (rfl) rfl ⟨rfl, rfl, Nat.le_of_ble_eq_true rfl, Nat.le_of_ble_eq_true rfl⟩ rfl hl.1 rfl (Nat.le_of_ble_eq_true rfl) ⟨Nat.le_of_ble_eq_true rfl, Nat.le_of_ble_eq_true rfl⟩ dX12_sheet_36 (kI fun x_8_ U8 h_8_ => ?_)
            obtain ⟨eU8, h_8_⟩ := h_8_
            refine j_iret C ⟨rfl, _, rfl, ?_⟩ dX12_sheet_39
            simp only [← eV1]
            obtain ⟨hin1, hcl1⟩ := inz ej1 hj1 (by omega)
            refine ⟨?_, ?_⟩
            · first | (simp only [if_pos hin1, hcl1, if_pos b4, if_neg (Int32.not_lt.mpr c_5_), if_pos (Int32.not_le.mp c_6_)]; done) | (simp only [if_pos hin1, hcl1, if_pos b4, if_neg (Int32.not_lt.mpr c_5_), if_pos (Int32.not_le.mp c_6_)]; exact eV1) | (simp only [if_pos hin1, hcl1, if_pos b4, if_neg (Int32.not_lt.mpr c_5_), if_pos (Int32.not_le.mp c_6_)]; rw [eV1]; done) | (simp only [if_pos hin1, hcl1, if_pos b4, if_neg (Int32.not_lt.mpr c_5_), if_pos (Int32.not_le.mp c_6_)]; exact eU8) | (simp only [if_pos hin1, hcl1, if_pos b4, if_neg (Int32.not_lt.mpr c_5_), if_pos (Int32.not_le.mp c_6_)]; rw [eU8]; done) | (simp only [if_pos hin1, hcl1, if_pos b4, if_neg (Int32.not_lt.mpr c_5_), if_pos (Int32.not_le.mp c_6_)]; exact h_8_) | (simp only [if_pos hin1, hcl1, if_pos b4, if_neg (Int32.not_lt.mpr c_5_), if_pos (Int32.not_le.mp c_6_)]; rw [h_8_]; done) | (simp only [if_pos hin1, hcl1, if_pos b4, if_neg (Int32.not_lt.mpr c_5_), if_pos (Int32.not_le.mp c_6_)]; rfl)
            · first | (simp only [if_pos hin1, hcl1, if_pos b4, if_neg (Int32.not_lt.mpr c_5_), if_pos (Int32.not_le.mp c_6_)]; done) | (simp only [if_pos hin1, hcl1, if_pos b4, if_neg (Int32.not_lt.mpr c_5_), if_pos (Int32.not_le.mp c_6_)]; exact h_3_) | (simp only [if_pos hin1, hcl1, if_pos b4, if_neg (Int32.not_lt.mpr c_5_), if_pos (Int32.not_le.mp c_6_)]; rw [h_3_]; done) | (simp only [if_pos hin1, hcl1, if_pos b4, if_neg (Int32.not_lt.mpr c_5_), if_pos (Int32.not_le.mp c_6_)]; exact h_8_) | (simp only [if_pos hin1, hcl1, if_pos b4, if_neg (Int32.not_lt.mpr c_5_), if_pos (Int32.not_le.mp c_6_)]; rw [h_8_]; done) | (simp only [if_pos hin1, hcl1, if_pos b4, if_neg (Int32.not_lt.mpr c_5_), if_pos (Int32.not_le.mp c_6_)]; rfl)
        · have n_5_ := Int32.not_le.mp c_5_
          refine j_bipush (v := (-2)) C dX12_sheet_27 (by decide) ?_
          refine j_iret C ⟨rfl, _, rfl, ?_⟩ dX12_sheet_29
          simp only [← eV1]
          obtain ⟨hin1, hcl1⟩ := inz ej1 hj1 (by omega)
          refine ⟨?_, ?_⟩
          · first | (simp only [if_pos hin1, hcl1, if_pos b4, if_pos (Int32.not_le.mp c_5_)]; done) | (simp only [if_pos hin1, hcl1, if_pos b4, if_pos (Int32.not_le.mp c_5_)]; exact eV1) | (simp only [if_pos hin1, hcl1, if_pos b4, if_pos (Int32.not_le.mp c_5_)]; rw [eV1]; done) | (simp only [if_pos hin1, hcl1, if_pos b4, if_pos (Int32.not_le.mp c_5_)]; exact h_3_) | (simp only [if_pos hin1, hcl1, if_pos b4, if_pos (Int32.not_le.mp c_5_)]; rw [h_3_]; done) | (simp only [if_pos hin1, hcl1, if_pos b4, if_pos (Int32.not_le.mp c_5_)]; rfl)
          · first | (simp only [if_pos hin1, hcl1, if_pos b4, if_pos (Int32.not_le.mp c_5_)]; done) | (simp only [if_pos hin1, hcl1, if_pos b4, if_pos (Int32.not_le.mp c_5_)]; exact h_3_) | (simp only [if_pos hin1, hcl1, if_pos b4, if_pos (Int32.not_le.mp c_5_)]; rw [h_3_]; done) | (simp only [if_pos hin1, hcl1, if_pos b4, if_pos (Int32.not_le.mp c_5_)]; rfl)
    · exact absurd c_2_ (by decide)
  · subst ex1
    refine j_if_ne (tgt := 14) C dX12_sheet_9 (by decide) (fun c_9_ => ?_) (fun c_9_ => ?_)
    · exact absurd rfl c_9_
    · skip
      refine j_iconst (v := (-1)) C dX12_sheet_12 (by decide) ?_
      refine j_iret C ⟨rfl, _, rfl, ?_⟩ dX12_sheet_13
      simp only [← eV1]
      have hot1 := outR ho1
      refine ⟨?_, ?_⟩
      · first | (simp only [if_neg hot1]; done) | (simp only [if_neg hot1]; exact eV1) | (simp only [if_neg hot1]; rw [eV1]; done) | (simp only [if_neg hot1]; rfl)
      · first | (simp only [if_neg hot1]; done) | (simp only [if_neg hot1]; rfl)
abbrev rm_X12_lose : Room := { frames := 2, cells := 0, slots := 0, locals := 42 }
set_option maxHeartbeats 4000000 in
set_option maxRecDepth 100000 in
theorem k_X12_lose (l : Launch) (ad : Nat → Nat) (V : Vt) (z0 : Int32) (ng : Nat) (rr : Nat → Nat) (nt c_0_ : Nat) (hM : MI V ng rr nt c_0_)  : Ct l yX12_lose cX12_lose 3 (some .int) rm_X12_lose (mS ad) V [.ref (ad (0)), .int (z0)] (rI fun x V2 => (V2 = if ¬ z0 < 0 ∧ z0 < nI 4 then up2 V 1 z0.toNatClampNeg (-9) else V) ∧ x = if ¬ z0 < 0 ∧ z0 < nI 4 then (if V 1 z0.toNatClampNeg = -9 then 0 else 1) else -1) := by
  refine Ct_of (by decide) (Nat.le_of_ble_eq_true rfl) ?_
  intro p e s m below meth c A D cy ls C hl
  have hl : lv_has ls 3 [(0, .ref (ad (0))), (1, .int (z0))] := hl
  have ng4 := hM.2.1
  have nt5 := hM.2.2.2.1
  refine j_iload_n C dX12_lose_0 rfl (lv_at hl 1 rfl) ?_
  refine j_callS C [.int (z0)] [] (k_X12_isSheet l (mS ad) V (z0)  ) v_RX12_102 ⟨rfl, rfl, Nat.le_of_ble_eq_true rfl, Nat.le_of_ble_eq_true rfl⟩ rfl hl.1 rfl (Nat.le_of_ble_eq_true rfl) ⟨Nat.le_of_ble_eq_true rfl, Nat.le_of_ble_eq_true rfl⟩ dX12_lose_1 (kI fun x_1_ U1 h_1_ => ?_)
  obtain ⟨eU1, h_1_⟩ := h_1_
  have eU1 := eU1.symm
  subst eU1
  rcases h_1_ with ⟨j_1_, hj1, ej1, ex1⟩ | ⟨ho1, ex1⟩
  · subst ex1
    refine j_if_ne (tgt := 9) C dX12_lose_4 (by decide) (fun c_2_ => ?_) (fun c_2_ => ?_)
    · skip
      refine j_aload_n C dX12_lose_9 rfl (lv_at hl 0 rfl) ?_
      refine j_getR (k := 0) (k2 := 1) C (f_RX12_9_12) (ml (by decide)) (rfl) (rfl) dX12_lose_10 ?_
      refine j_iload_n C dX12_lose_13 rfl (lv_at hl 1 rfl) ?_
      refine j_ialdE (k := 1) (n := 4) (t := j_1_) C (ml (by decide)) (rfl) (rfl) (ej1) (by omega) (by decide) dX12_lose_14 ?_
      refine j_bipush (v := (-9)) C dX12_lose_15 (by decide) ?_
      refine j_icmp_ne (tgt := 24) C dX12_lose_17 (by decide) (fun c_3_ => ?_) (fun c_3_ => ?_)
      · skip
        refine j_iconst (v := 1) C dX12_lose_24 (by decide) ?_
        refine j_istore_n (lv2 := [(2, .int (1)), (0, .ref (ad (0))), (1, .int (z0))]) C dX12_lose_25 rfl hl (by decide) rfl (fun ls hl => ?_)
        refine j_aload_n C dX12_lose_26 rfl (lv_at hl 1 rfl) ?_
        refine j_getR (k := 0) (k2 := 1) C (f_RX12_9_12) (ml (by decide)) (rfl) (rfl) dX12_lose_27 ?_
        refine j_iload_n C dX12_lose_30 rfl (lv_at hl 2 rfl) ?_
        refine j_bipush (v := (-9)) C dX12_lose_31 (by decide) ?_
        refine j_iastE (k := 1) (n := 4) (t := j_1_) C (ml (by decide)) (rfl) (rfl) (ej1) (by omega) (by decide) dX12_lose_33 (fun V1 eV1 => ?_)
        refine j_iload_n C dX12_lose_34 rfl (lv_at hl 0 rfl) ?_
        refine j_iret C ⟨rfl, _, rfl, ?_⟩ dX12_lose_35
        obtain ⟨hin1, hcl1⟩ := inz ej1 hj1 (by omega)
        refine ⟨?_, ?_⟩
        · first | (simp only [if_pos hin1, hcl1, if_neg c_3_]; done) | (simp only [if_pos hin1, hcl1, if_neg c_3_]; exact eV1) | (simp only [if_pos hin1, hcl1, if_neg c_3_]; rw [eV1]; done) | (simp only [if_pos hin1, hcl1, if_neg c_3_]; rfl)
        · first | (simp only [if_pos hin1, hcl1, if_neg c_3_]; done) | (simp only [if_pos hin1, hcl1, if_neg c_3_]; rfl)
      · skip
        refine j_iconst (v := 0) C dX12_lose_20 (by decide) ?_
        refine j_goto (tgt := 25) C dX12_lose_21 (by decide) ?_
        refine j_istore_n (lv2 := [(2, .int (0)), (0, .ref (ad (0))), (1, .int (z0))]) C dX12_lose_25 rfl hl (by decide) rfl (fun ls hl => ?_)
        refine j_aload_n C dX12_lose_26 rfl (lv_at hl 1 rfl) ?_
        refine j_getR (k := 0) (k2 := 1) C (f_RX12_9_12) (ml (by decide)) (rfl) (rfl) dX12_lose_27 ?_
        refine j_iload_n C dX12_lose_30 rfl (lv_at hl 2 rfl) ?_
        refine j_bipush (v := (-9)) C dX12_lose_31 (by decide) ?_
        refine j_iastE (k := 1) (n := 4) (t := j_1_) C (ml (by decide)) (rfl) (rfl) (ej1) (by omega) (by decide) dX12_lose_33 (fun V2 eV2 => ?_)
        refine j_iload_n C dX12_lose_34 rfl (lv_at hl 0 rfl) ?_
        refine j_iret C ⟨rfl, _, rfl, ?_⟩ dX12_lose_35
        obtain ⟨hin1, hcl1⟩ := inz ej1 hj1 (by omega)
        refine ⟨?_, ?_⟩
        · first | (simp only [if_pos hin1, hcl1, if_pos c_3_]; done) | (simp only [if_pos hin1, hcl1, if_pos c_3_]; exact eV2) | (simp only [if_pos hin1, hcl1, if_pos c_3_]; rw [eV2]; done) | (simp only [if_pos hin1, hcl1, if_pos c_3_]; rfl)
        · first | (simp only [if_pos hin1, hcl1, if_pos c_3_]; done) | (simp only [if_pos hin1, hcl1, if_pos c_3_]; rfl)
    · exact absurd c_2_ (by decide)
  · subst ex1
    refine j_if_ne (tgt := 9) C dX12_lose_4 (by decide) (fun c_4_ => ?_) (fun c_4_ => ?_)
    · exact absurd rfl c_4_
    · skip
      refine j_iconst (v := (-1)) C dX12_lose_7 (by decide) ?_
      refine j_iret C ⟨rfl, _, rfl, ?_⟩ dX12_lose_8
      have hot1 := outR ho1
      refine ⟨?_, ?_⟩
      · first | (simp only [if_neg hot1]; done) | (simp only [if_neg hot1]; rfl)
      · first | (simp only [if_neg hot1]; done) | (simp only [if_neg hot1]; rfl)
abbrev rm_X12_put : Room := { frames := 2, cells := 0, slots := 0, locals := 42 }
set_option maxHeartbeats 4000000 in
set_option maxRecDepth 100000 in
theorem k_X12_put (l : Launch) (ad : Nat → Nat) (V : Vt) (z0 z1 z2 : Int32) (ng : Nat) (rr : Nat → Nat) (nt c_0_ : Nat) (hM : MI V ng rr nt c_0_)  : Ct l yX12_put cX12_put 4 (some .int) rm_X12_put (mS ad) V [.ref (ad (0)), .int (z0), .int (z1), .int (z2)] (rI fun x V2 => (V2 = if ¬ z0 < 0 ∧ z0 < nI 4 then (if (up2 V 0 0 0) 1 z0.toNatClampNeg = -9 then up2 (up2 V 0 0 0) 0 0 1 else (if 0 ≤ z1 ∧ z1 < (up2 V 0 0 0) 2 z0.toNatClampNeg then up2 (up2 V 0 0 0) 3 (60 * z0.toNatClampNeg + z1.toNatClampNeg) (cutI ((up2 V 0 0 0) 1 z0.toNatClampNeg) z2) else up2 (up2 V 0 0 0) 0 0 3)) else (up2 V 0 0 0)) ∧ x = if ¬ z0 < 0 ∧ z0 < nI 4 then (if (up2 V 0 0 0) 1 z0.toNatClampNeg = -9 then -11 else (if 0 ≤ z1 ∧ z1 < (up2 V 0 0 0) 2 z0.toNatClampNeg then 1 else -13)) else -1) := by
  refine Ct_of (by decide) (Nat.le_of_ble_eq_true rfl) ?_
  intro p e s m below meth c A D cy ls C hl
  have hl : lv_has ls 4 [(0, .ref (ad (0))), (1, .int (z0)), (2, .int (z1)), (3, .int (z2))] := hl
  have ng4 := hM.2.1
  have nt5 := hM.2.2.2.1
  refine j_aload_n C dX12_put_0 rfl (lv_at hl 0 rfl) ?_
  refine j_iconst (v := 0) C dX12_put_1 (by decide) ?_
  refine j_putI (k := 0) C (f_RX12_79_12) p_12_0 (ml (by decide)) (rfl) dX12_put_2 (fun V1 eV1 => ?_)
  have hM1 : MI V1 ng rr nt c_0_ := by rw [eV1]; exact MI_f hM
  refine j_iload_n C dX12_put_5 rfl (lv_at hl 1 rfl) ?_
  refine j_callS C [.int (z0)] [] (k_X12_isSheet l (mS ad) V1 (z0)  ) v_RX12_102 ⟨rfl, rfl, Nat.le_of_ble_eq_true rfl, Nat.le_of_ble_eq_true rfl⟩ rfl hl.1 rfl (Nat.le_of_ble_eq_true rfl) ⟨Nat.le_of_ble_eq_true rfl, Nat.le_of_ble_eq_true rfl⟩ dX12_put_6 (kI fun x_1_ U1 h_1_ => ?_)
  obtain ⟨eU1, h_1_⟩ := h_1_
  have eU1 := eU1.symm
  subst eU1
  rcases h_1_ with ⟨j_1_, hj1, ej1, ex1⟩ | ⟨ho1, ex1⟩
  · subst ex1
    obtain ⟨n_8_, hn8, en8⟩ := hM1.2.2.2.2.2.2.2.2 j_1_ hj1
    refine j_if_ne (tgt := 14) C dX12_put_9 (by decide) (fun c_2_ => ?_) (fun c_2_ => ?_)
    · skip
      refine j_aload_n C dX12_put_14 rfl (lv_at hl 0 rfl) ?_
      refine j_getR (k := 0) (k2 := 1) C (f_RX12_9_12) (ml (by decide)) (rfl) (rfl) dX12_put_15 ?_
      refine j_iload_n C dX12_put_18 rfl (lv_at hl 1 rfl) ?_
      refine j_ialdE (k := 1) (n := 4) (t := j_1_) C (ml (by decide)) (rfl) (rfl) (ej1) (by omega) (by decide) dX12_put_19 ?_
      refine j_bipush (v := (-9)) C dX12_put_20 (by decide) ?_
      refine j_icmp_ne (tgt := 31) C dX12_put_22 (by decide) (fun c_3_ => ?_) (fun c_3_ => ?_)
      · skip
        refine j_iload_n C dX12_put_31 rfl (lv_at hl 2 rfl) ?_
        refine j_iconst (v := 0) C dX12_put_32 (by decide) ?_
        refine j_aload_n C dX12_put_33 rfl (lv_at hl 0 rfl) ?_
        refine j_getR (k := 0) (k2 := 2) C (f_RX12_13_12) (ml (by decide)) (rfl) (rfl) dX12_put_34 ?_
        refine j_iload_n C dX12_put_37 rfl (lv_at hl 1 rfl) ?_
        refine j_ialdE (k := 2) (n := 4) (t := j_1_) C (ml (by decide)) (rfl) (rfl) (ej1) (by omega) (by decide) dX12_put_38 ?_
        refine j_iconst (v := 1) C dX12_put_39 (by decide) ?_
        refine j_isub C dX12_put_40 ?_
        refine j_callS C [.int (z1), .int (0), .int ((V1 2 j_1_) - 1)] [] (k_X12_within l (mS ad) V1 (z1) (0) ((V1 2 j_1_) - 1)  ) v_RX12_85 ⟨rfl, rfl, Nat.le_of_ble_eq_true rfl, Nat.le_of_ble_eq_true rfl⟩ rfl hl.1 rfl (Nat.le_of_ble_eq_true rfl) ⟨Nat.le_of_ble_eq_true rfl, Nat.le_of_ble_eq_true rfl⟩ dX12_put_41 (kI fun x_4_ U4 h_4_ => ?_)
        obtain ⟨eU4, h_4_⟩ := h_4_
        have eU4 := eU4.symm
        subst eU4
        refine j_if_ne (tgt := 53) C dX12_put_44 (by decide) (fun c_5_ => ?_) (fun c_5_ => ?_)
        · skip
          have b5 := Decidable.not_not.mp (mt bI_0.mpr (h_4_ ▸ c_5_))
          have hc9 := (wl1 en8 hn8).mp b5
          obtain ⟨i9, hi9, ei9⟩ := in_n hn8 (en8 ▸ hc9)
          refine j_aload_n C dX12_put_53 rfl (lv_at hl 0 rfl) ?_
          refine j_getR (k := 0) (k2 := 3) C (f_RX12_16_12) (ml (by decide)) (rfl) (rfl) dX12_put_54 ?_
          refine j_bipush (v := 60) C dX12_put_57 (by decide) ?_
          refine j_iload_n C dX12_put_59 rfl (lv_at hl 1 rfl) ?_
          refine j_imul C dX12_put_60 ?_
          refine j_iload_n C dX12_put_61 rfl (lv_at hl 2 rfl) ?_
          refine j_iadd C dX12_put_62 ?_
          refine j_aload_n C dX12_put_63 rfl (lv_at hl 0 rfl) ?_
          refine j_getR (k := 0) (k2 := 1) C (f_RX12_9_12) (ml (by decide)) (rfl) (rfl) dX12_put_64 ?_
          refine j_iload_n C dX12_put_67 rfl (lv_at hl 1 rfl) ?_
          refine j_ialdE (k := 1) (n := 4) (t := j_1_) C (ml (by decide)) (rfl) (rfl) (ej1) (by omega) (by decide) dX12_put_68 ?_
          refine j_if_ne (tgt := 77) C dX12_put_69 (by decide) (fun c_6_ => ?_) (fun c_6_ => ?_)
          · skip
            refine j_aload_n C dX12_put_77 rfl (lv_at hl 0 rfl) ?_
            refine j_getR (k := 0) (k2 := 1) C (f_RX12_9_12) (ml (by decide)) (rfl) (rfl) dX12_put_78 ?_
            refine j_iload_n C dX12_put_81 rfl (lv_at hl 1 rfl) ?_
            refine j_ialdE (k := 1) (n := 4) (t := j_1_) C (ml (by decide)) (rfl) (rfl) (ej1) (by omega) (by decide) dX12_put_82 ?_
            refine j_iconst (v := 1) C dX12_put_83 (by decide) ?_
            refine j_icmp_ne (tgt := 92) C dX12_put_84 (by decide) (fun c_7_ => ?_) (fun c_7_ => ?_)
            · skip
              refine j_iload_n C dX12_put_92 rfl (lv_at hl 3 rfl) ?_
              refine j_iastE (k := 3) (n := 240) (t := 60 * j_1_ + i9) C (ml (by decide)) (rfl) (rfl) (nA (nM (show (60 : Int32) = nI 60 from rfl) (ej1)) (ei9)) (by omega) (by decide) dX12_put_93 (fun V2 eV2 => ?_)
              refine j_iconst (v := 1) C dX12_put_94 (by decide) ?_
              refine j_iret C ⟨rfl, _, rfl, ?_⟩ dX12_put_95
              simp only [← eV1]
              obtain ⟨hin1, hcl1⟩ := inz ej1 hj1 (by omega)
              have ecl : z1.toNatClampNeg = i9 := by rw [ei9, nI_clamp (by omega)]
              refine ⟨?_, ?_⟩
              · simp only [if_pos hin1, hcl1, if_neg c_3_, if_pos hc9, ecl]
                unfold cutI
                rw [if_neg c_6_, if_neg c_7_]
                exact eV2
              · simp only [if_pos hin1, hcl1, if_neg c_3_, if_pos hc9]
            · skip
              refine j_iload_n C dX12_put_87 rfl (lv_at hl 3 rfl) ?_
              refine j_i2s C dX12_put_88 rfl ?_
              refine j_goto (tgt := 93) C dX12_put_89 (by decide) ?_
              refine j_iastE (k := 3) (n := 240) (t := 60 * j_1_ + i9) C (ml (by decide)) (rfl) (rfl) (nA (nM (show (60 : Int32) = nI 60 from rfl) (ej1)) (ei9)) (by omega) (by decide) dX12_put_93 (fun V3 eV3 => ?_)
              refine j_iconst (v := 1) C dX12_put_94 (by decide) ?_
              refine j_iret C ⟨rfl, _, rfl, ?_⟩ dX12_put_95
              simp only [← eV1]
              obtain ⟨hin1, hcl1⟩ := inz ej1 hj1 (by omega)
              have ecl : z1.toNatClampNeg = i9 := by rw [ei9, nI_clamp (by omega)]
              refine ⟨?_, ?_⟩
              · simp only [if_pos hin1, hcl1, if_neg c_3_, if_pos hc9, ecl]
                unfold cutI
                rw [if_neg c_6_, if_pos c_7_]
                exact eV3
              · simp only [if_pos hin1, hcl1, if_neg c_3_, if_pos hc9]
          · skip
            refine j_iload_n C dX12_put_72 rfl (lv_at hl 3 rfl) ?_
            refine j_i2b C dX12_put_73 rfl ?_
            refine j_goto (tgt := 93) C dX12_put_74 (by decide) ?_
            refine j_iastE (k := 3) (n := 240) (t := 60 * j_1_ + i9) C (ml (by decide)) (rfl) (rfl) (nA (nM (show (60 : Int32) = nI 60 from rfl) (ej1)) (ei9)) (by omega) (by decide) dX12_put_93 (fun V4 eV4 => ?_)
            refine j_iconst (v := 1) C dX12_put_94 (by decide) ?_
            refine j_iret C ⟨rfl, _, rfl, ?_⟩ dX12_put_95
            simp only [← eV1]
            obtain ⟨hin1, hcl1⟩ := inz ej1 hj1 (by omega)
            have ecl : z1.toNatClampNeg = i9 := by rw [ei9, nI_clamp (by omega)]
            refine ⟨?_, ?_⟩
            · simp only [if_pos hin1, hcl1, if_neg c_3_, if_pos hc9, ecl]
              unfold cutI
              rw [if_pos c_6_]
              exact eV4
            · simp only [if_pos hin1, hcl1, if_neg c_3_, if_pos hc9]
        · skip
          have b5 := bI_0.mp (h_4_ ▸ c_5_)
          refine j_aload_n C dX12_put_47 rfl (lv_at hl 0 rfl) ?_
          refine j_iconst (v := 3) C dX12_put_48 (by decide) ?_
          refine j_callV (k := 0) C [.int (3)] [] (k_X12_fails l ad V1 (3)  ) v_RX12_113 (ml (by decide)) (rfl) rfl ⟨rfl, rfl, Nat.le_of_ble_eq_true rfl, Nat.le_of_ble_eq_true rfl⟩ rfl hl.1 rfl (Nat.le_of_ble_eq_true rfl) ⟨Nat.le_of_ble_eq_true rfl, Nat.le_of_ble_eq_true rfl⟩ dX12_put_49 (kI fun x_8_ U8 h_8_ => ?_)
          obtain ⟨eU8, h_8_⟩ := h_8_
          refine j_iret C ⟨rfl, _, rfl, ?_⟩ dX12_put_52
          simp only [← eV1]
          obtain ⟨hin1, hcl1⟩ := inz ej1 hj1 (by omega)
          have hc9 := fun q => b5 ((wl1 en8 hn8).mpr q)
          refine ⟨?_, ?_⟩
          · simp only [if_pos hin1, hcl1, if_neg c_3_, if_neg hc9]
            exact eU8
          · simp only [if_pos hin1, hcl1, if_neg c_3_, if_neg hc9]
            exact h_8_
      · skip
        refine j_aload_n C dX12_put_25 rfl (lv_at hl 0 rfl) ?_
        refine j_iconst (v := 1) C dX12_put_26 (by decide) ?_
        refine j_callV (k := 0) C [.int (1)] [] (k_X12_fails l ad V1 (1)  ) v_RX12_113 (ml (by decide)) (rfl) rfl ⟨rfl, rfl, Nat.le_of_ble_eq_true rfl, Nat.le_of_ble_eq_true rfl⟩ rfl hl.1 rfl (Nat.le_of_ble_eq_true rfl) ⟨Nat.le_of_ble_eq_true rfl, Nat.le_of_ble_eq_true rfl⟩ dX12_put_27 (kI fun x_9_ U9 h_9_ => ?_)
        obtain ⟨eU9, h_9_⟩ := h_9_
        refine j_iret C ⟨rfl, _, rfl, ?_⟩ dX12_put_30
        simp only [← eV1]
        obtain ⟨hin1, hcl1⟩ := inz ej1 hj1 (by omega)
        refine ⟨?_, ?_⟩
        · simp only [if_pos hin1, hcl1, if_pos c_3_]
          exact eU9
        · simp only [if_pos hin1, hcl1, if_pos c_3_]
          exact h_9_
    · exact absurd c_2_ (by decide)
  · subst ex1
    refine j_if_ne (tgt := 14) C dX12_put_9 (by decide) (fun c_10_ => ?_) (fun c_10_ => ?_)
    · exact absurd rfl c_10_
    · skip
      refine j_iconst (v := (-1)) C dX12_put_12 (by decide) ?_
      refine j_iret C ⟨rfl, _, rfl, ?_⟩ dX12_put_13
      simp only [← eV1]
      have hot1 := outR ho1
      refine ⟨?_, ?_⟩
      · first | (simp only [if_neg hot1]; done) | (simp only [if_neg hot1]; exact eV1) | (simp only [if_neg hot1]; rw [eV1]; done) | (simp only [if_neg hot1]; rfl)
      · first | (simp only [if_neg hot1]; done) | (simp only [if_neg hot1]; rfl)
def clM (s z : Int32) (hc : Bool) : Int32 := if s = -9 then 1 else if s = z then (if hc then 0 else 3) else 2
abbrev rm_X12_cell : Room := { frames := 2, cells := 0, slots := 0, locals := 42 }
set_option maxHeartbeats 4000000 in
set_option maxRecDepth 100000 in
theorem k_X12_cell (l : Launch) (ad : Nat → Nat) (V : Vt) (z0 z1 z2 : Int32) (ng : Nat) (rr : Nat → Nat) (nt c_0_ : Nat) (hM : MI V ng rr nt c_0_)  : Ct l yX12_cell cX12_cell 4 (some .long) rm_X12_cell (mS ad) V [.ref (ad (0)), .int (z0), .int (z1), .int (z2)] (rL fun x V2 => (V2 = if ¬ z0 < 0 ∧ z0 < nI 4 then (if 0 ≤ z2 ∧ z2 ≤ 2 then (if clM ((up2 V 0 0 0) 1 z0.toNatClampNeg) z2 (decide (0 ≤ z1 ∧ z1 < (up2 V 0 0 0) 2 z0.toNatClampNeg)) = 0 then (up2 V 0 0 0) else up2 (up2 V 0 0 0) 0 0 (clM ((up2 V 0 0 0) 1 z0.toNatClampNeg) z2 (decide (0 ≤ z1 ∧ z1 < (up2 V 0 0 0) 2 z0.toNatClampNeg)))) else (up2 V 0 0 0)) else (up2 V 0 0 0)) ∧ x = if ¬ z0 < 0 ∧ z0 < nI 4 then (if 0 ≤ z2 ∧ z2 ≤ 2 then (if clM ((up2 V 0 0 0) 1 z0.toNatClampNeg) z2 (decide (0 ≤ z1 ∧ z1 < (up2 V 0 0 0) 2 z0.toNatClampNeg)) = 0 then ((up2 V 0 0 0) 3 (60 * z0.toNatClampNeg + z1.toNatClampNeg)).toInt64 else (-9223372036854775808)) else (-9223372036854775808)) else (-9223372036854775808)) := by
  refine Ct_of (by decide) (Nat.le_of_ble_eq_true rfl) ?_
  intro p e s m below meth c A D cy ls C hl
  have hl : lv_has ls 4 [(0, .ref (ad (0))), (1, .int (z0)), (2, .int (z1)), (3, .int (z2))] := hl
  have ng4 := hM.2.1
  have nt5 := hM.2.2.2.1
  refine j_aload_n C dX12_cell_0 rfl (lv_at hl 0 rfl) ?_
  refine j_iconst (v := 0) C dX12_cell_1 (by decide) ?_
  refine j_putI (k := 0) C (f_RX12_79_12) p_12_0 (ml (by decide)) (rfl) dX12_cell_2 (fun V1 eV1 => ?_)
  have hM1 : MI V1 ng rr nt c_0_ := by rw [eV1]; exact MI_f hM
  refine j_iload_n C dX12_cell_5 rfl (lv_at hl 1 rfl) ?_
  refine j_callS C [.int (z0)] [] (k_X12_isSheet l (mS ad) V1 (z0)  ) v_RX12_102 ⟨rfl, rfl, Nat.le_of_ble_eq_true rfl, Nat.le_of_ble_eq_true rfl⟩ rfl hl.1 rfl (Nat.le_of_ble_eq_true rfl) ⟨Nat.le_of_ble_eq_true rfl, Nat.le_of_ble_eq_true rfl⟩ dX12_cell_6 (kI fun x_1_ U1 h_1_ => ?_)
  obtain ⟨eU1, h_1_⟩ := h_1_
  have eU1 := eU1.symm
  subst eU1
  rcases h_1_ with ⟨j_1_, hj1, ej1, ex1⟩ | ⟨ho1, ex1⟩
  · subst ex1
    obtain ⟨n_8_, hn8, en8⟩ := hM1.2.2.2.2.2.2.2.2 j_1_ hj1
    refine j_if_eq (tgt := 19) C dX12_cell_9 (by decide) (fun c_2_ => ?_) (fun c_2_ => ?_)
    · exact absurd c_2_ (by decide)
    · skip
      refine j_iload_n C dX12_cell_12 rfl (lv_at hl 3 rfl) ?_
      refine j_callS C [.int (z2)] [] (k_X12_isSort l (mS ad) V1 (z2)  ) v_RX12_106 ⟨rfl, rfl, Nat.le_of_ble_eq_true rfl, Nat.le_of_ble_eq_true rfl⟩ rfl hl.1 rfl (Nat.le_of_ble_eq_true rfl) ⟨Nat.le_of_ble_eq_true rfl, Nat.le_of_ble_eq_true rfl⟩ dX12_cell_13 (kI fun x_3_ U3 h_3_ => ?_)
      obtain ⟨eU3, h_3_⟩ := h_3_
      have eU3 := eU3.symm
      subst eU3
      refine j_if_ne (tgt := 23) C dX12_cell_16 (by decide) (fun c_4_ => ?_) (fun c_4_ => ?_)
      · skip
        have b4 := Decidable.not_not.mp (mt bI_0.mpr (h_3_ ▸ c_4_))
        refine j_aload_n C dX12_cell_23 rfl (lv_at hl 0 rfl) ?_
        refine j_getR (k := 0) (k2 := 1) C (f_RX12_9_12) (ml (by decide)) (rfl) (rfl) dX12_cell_24 ?_
        refine j_iload_n C dX12_cell_27 rfl (lv_at hl 1 rfl) ?_
        refine j_ialdE (k := 1) (n := 4) (t := j_1_) C (ml (by decide)) (rfl) (rfl) (ej1) (by omega) (by decide) dX12_cell_28 ?_
        refine j_bipush (v := (-9)) C dX12_cell_29 (by decide) ?_
        refine j_icmp_eq (tgt := 50) C dX12_cell_31 (by decide) (fun c_5_ => ?_) (fun c_5_ => ?_)
        · skip
          refine j_aload_n C dX12_cell_50 rfl (lv_at hl 0 rfl) ?_
          refine j_getR (k := 0) (k2 := 1) C (f_RX12_9_12) (ml (by decide)) (rfl) (rfl) dX12_cell_51 ?_
          refine j_iload_n C dX12_cell_54 rfl (lv_at hl 1 rfl) ?_
          refine j_ialdE (k := 1) (n := 4) (t := j_1_) C (ml (by decide)) (rfl) (rfl) (ej1) (by omega) (by decide) dX12_cell_55 ?_
          refine j_bipush (v := (-9)) C dX12_cell_56 (by decide) ?_
          refine j_icmp_ne (tgt := 67) C dX12_cell_58 (by decide) (fun c_6_ => ?_) (fun c_6_ => ?_)
          · skip
            refine j_iload_n C dX12_cell_67 rfl (lv_at hl 2 rfl) ?_
            refine j_iconst (v := 0) C dX12_cell_68 (by decide) ?_
            refine j_aload_n C dX12_cell_69 rfl (lv_at hl 0 rfl) ?_
            refine j_getR (k := 0) (k2 := 2) C (f_RX12_13_12) (ml (by decide)) (rfl) (rfl) dX12_cell_70 ?_
            refine j_iload_n C dX12_cell_73 rfl (lv_at hl 1 rfl) ?_
            refine j_ialdE (k := 2) (n := 4) (t := j_1_) C (ml (by decide)) (rfl) (rfl) (ej1) (by omega) (by decide) dX12_cell_74 ?_
            refine j_iconst (v := 1) C dX12_cell_75 (by decide) ?_
            refine j_isub C dX12_cell_76 ?_
            refine j_callS C [.int (z1), .int (0), .int ((V1 2 j_1_) - 1)] [] (k_X12_within l (mS ad) V1 (z1) (0) ((V1 2 j_1_) - 1)  ) v_RX12_85 ⟨rfl, rfl, Nat.le_of_ble_eq_true rfl, Nat.le_of_ble_eq_true rfl⟩ rfl hl.1 rfl (Nat.le_of_ble_eq_true rfl) ⟨Nat.le_of_ble_eq_true rfl, Nat.le_of_ble_eq_true rfl⟩ dX12_cell_77 (kI fun x_7_ U7 h_7_ => ?_)
            obtain ⟨eU7, h_7_⟩ := h_7_
            have eU7 := eU7.symm
            subst eU7
            refine j_if_ne (tgt := 89) C dX12_cell_80 (by decide) (fun c_8_ => ?_) (fun c_8_ => ?_)
            · skip
              have b8 := Decidable.not_not.mp (mt bI_0.mpr (h_7_ ▸ c_8_))
              have hc9 := (wl1 en8 hn8).mp b8
              obtain ⟨i9, hi9, ei9⟩ := in_n hn8 (en8 ▸ hc9)
              refine j_aload_n C dX12_cell_89 rfl (lv_at hl 0 rfl) ?_
              refine j_getR (k := 0) (k2 := 3) C (f_RX12_16_12) (ml (by decide)) (rfl) (rfl) dX12_cell_90 ?_
              refine j_bipush (v := 60) C dX12_cell_93 (by decide) ?_
              refine j_iload_n C dX12_cell_95 rfl (lv_at hl 1 rfl) ?_
              refine j_imul C dX12_cell_96 ?_
              refine j_iload_n C dX12_cell_97 rfl (lv_at hl 2 rfl) ?_
              refine j_iadd C dX12_cell_98 ?_
              refine j_ialdE (k := 3) (n := 240) (t := 60 * j_1_ + i9) C (ml (by decide)) (rfl) (rfl) (nA (nM (show (60 : Int32) = nI 60 from rfl) (ej1)) (ei9)) (by omega) (by decide) dX12_cell_99 ?_
              refine j_i2l C dX12_cell_100 rfl ?_
              refine j_lret C ⟨rfl, _, rfl, ?_⟩ dX12_cell_101
              exact absurd c_5_ c_6_
            · skip
              have b8 := bI_0.mp (h_7_ ▸ c_8_)
              refine j_aload_n C dX12_cell_83 rfl (lv_at hl 0 rfl) ?_
              refine j_iconst (v := 3) C dX12_cell_84 (by decide) ?_
              refine j_callV (k := 0) C [.int (3)] [] (k_X12_lost l ad V1 (3)  ) v_RX12_251 (ml (by decide)) (rfl) rfl ⟨rfl, rfl, Nat.le_of_ble_eq_true rfl, Nat.le_of_ble_eq_true rfl⟩ rfl hl.1 rfl (Nat.le_of_ble_eq_true rfl) ⟨Nat.le_of_ble_eq_true rfl, Nat.le_of_ble_eq_true rfl⟩ dX12_cell_85 (kL fun x_9_ U9 h_9_ => ?_)
              obtain ⟨eU9, h_9_⟩ := h_9_
              refine j_lret C ⟨rfl, _, rfl, ?_⟩ dX12_cell_88
              exact absurd c_5_ c_6_
          · skip
            refine j_aload_n C dX12_cell_61 rfl (lv_at hl 0 rfl) ?_
            refine j_iconst (v := 1) C dX12_cell_62 (by decide) ?_
            refine j_callV (k := 0) C [.int (1)] [] (k_X12_lost l ad V1 (1)  ) v_RX12_251 (ml (by decide)) (rfl) rfl ⟨rfl, rfl, Nat.le_of_ble_eq_true rfl, Nat.le_of_ble_eq_true rfl⟩ rfl hl.1 rfl (Nat.le_of_ble_eq_true rfl) ⟨Nat.le_of_ble_eq_true rfl, Nat.le_of_ble_eq_true rfl⟩ dX12_cell_63 (kL fun x_10_ U10 h_10_ => ?_)
            obtain ⟨eU10, h_10_⟩ := h_10_
            refine j_lret C ⟨rfl, _, rfl, ?_⟩ dX12_cell_66
            simp only [← eV1]
            obtain ⟨hin1, hcl1⟩ := inz ej1 hj1 (by omega)
            have ec : clM (V1 1 j_1_) z2 (decide (0 ≤ z1 ∧ z1 < V1 2 j_1_)) = 1 := by unfold clM; rw [if_pos c_6_]
            refine ⟨?_, ?_⟩
            · simp only [if_pos hin1, if_pos b4, hcl1, ec]
              rw [if_neg (by decide)]
              exact eU10
            · simp only [if_pos hin1, if_pos b4, hcl1, ec]
              rw [if_neg (by decide)]
              exact h_10_
        · skip
          refine j_aload_n C dX12_cell_34 rfl (lv_at hl 0 rfl) ?_
          refine j_getR (k := 0) (k2 := 1) C (f_RX12_9_12) (ml (by decide)) (rfl) (rfl) dX12_cell_35 ?_
          refine j_iload_n C dX12_cell_38 rfl (lv_at hl 1 rfl) ?_
          refine j_ialdE (k := 1) (n := 4) (t := j_1_) C (ml (by decide)) (rfl) (rfl) (ej1) (by omega) (by decide) dX12_cell_39 ?_
          refine j_iload_n C dX12_cell_40 rfl (lv_at hl 3 rfl) ?_
          refine j_icmp_eq (tgt := 50) C dX12_cell_41 (by decide) (fun c_11_ => ?_) (fun c_11_ => ?_)
          · skip
            refine j_aload_n C dX12_cell_50 rfl (lv_at hl 0 rfl) ?_
            refine j_getR (k := 0) (k2 := 1) C (f_RX12_9_12) (ml (by decide)) (rfl) (rfl) dX12_cell_51 ?_
            refine j_iload_n C dX12_cell_54 rfl (lv_at hl 1 rfl) ?_
            refine j_ialdE (k := 1) (n := 4) (t := j_1_) C (ml (by decide)) (rfl) (rfl) (ej1) (by omega) (by decide) dX12_cell_55 ?_
            refine j_bipush (v := (-9)) C dX12_cell_56 (by decide) ?_
            refine j_icmp_ne (tgt := 67) C dX12_cell_58 (by decide) (fun c_12_ => ?_) (fun c_12_ => ?_)
            · skip
              refine j_iload_n C dX12_cell_67 rfl (lv_at hl 2 rfl) ?_
              refine j_iconst (v := 0) C dX12_cell_68 (by decide) ?_
              refine j_aload_n C dX12_cell_69 rfl (lv_at hl 0 rfl) ?_
              refine j_getR (k := 0) (k2 := 2) C (f_RX12_13_12) (ml (by decide)) (rfl) (rfl) dX12_cell_70 ?_
              refine j_iload_n C dX12_cell_73 rfl (lv_at hl 1 rfl) ?_
              refine j_ialdE (k := 2) (n := 4) (t := j_1_) C (ml (by decide)) (rfl) (rfl) (ej1) (by omega) (by decide) dX12_cell_74 ?_
              refine j_iconst (v := 1) C dX12_cell_75 (by decide) ?_
              refine j_isub C dX12_cell_76 ?_
              refine j_callS C [.int (z1), .int (0), .int ((V1 2 j_1_) - 1)] [] (k_X12_within l (mS ad) V1 (z1) (0) ((V1 2 j_1_) - 1)  ) v_RX12_85 ⟨rfl, rfl, Nat.le_of_ble_eq_true rfl, Nat.le_of_ble_eq_true rfl⟩ rfl hl.1 rfl (Nat.le_of_ble_eq_true rfl) ⟨Nat.le_of_ble_eq_true rfl, Nat.le_of_ble_eq_true rfl⟩ dX12_cell_77 (kI fun x_13_ U13 h_13_ => ?_)
              obtain ⟨eU13, h_13_⟩ := h_13_
              have eU13 := eU13.symm
              subst eU13
              refine j_if_ne (tgt := 89) C dX12_cell_80 (by decide) (fun c_14_ => ?_) (fun c_14_ => ?_)
              · skip
                have b14 := Decidable.not_not.mp (mt bI_0.mpr (h_13_ ▸ c_14_))
                have hc9 := (wl1 en8 hn8).mp b14
                obtain ⟨i9, hi9, ei9⟩ := in_n hn8 (en8 ▸ hc9)
                refine j_aload_n C dX12_cell_89 rfl (lv_at hl 0 rfl) ?_
                refine j_getR (k := 0) (k2 := 3) C (f_RX12_16_12) (ml (by decide)) (rfl) (rfl) dX12_cell_90 ?_
                refine j_bipush (v := 60) C dX12_cell_93 (by decide) ?_
                refine j_iload_n C dX12_cell_95 rfl (lv_at hl 1 rfl) ?_
                refine j_imul C dX12_cell_96 ?_
                refine j_iload_n C dX12_cell_97 rfl (lv_at hl 2 rfl) ?_
                refine j_iadd C dX12_cell_98 ?_
                refine j_ialdE (k := 3) (n := 240) (t := 60 * j_1_ + i9) C (ml (by decide)) (rfl) (rfl) (nA (nM (show (60 : Int32) = nI 60 from rfl) (ej1)) (ei9)) (by omega) (by decide) dX12_cell_99 ?_
                refine j_i2l C dX12_cell_100 rfl ?_
                refine j_lret C ⟨rfl, _, rfl, ?_⟩ dX12_cell_101
                simp only [← eV1]
                obtain ⟨hin1, hcl1⟩ := inz ej1 hj1 (by omega)
                have ecl : z1.toNatClampNeg = i9 := by rw [ei9, nI_clamp (by omega)]
                have ec : clM (V1 1 j_1_) z2 (decide (0 ≤ z1 ∧ z1 < V1 2 j_1_)) = 0 := by unfold clM; rw [if_neg (c_12_), if_pos c_11_, if_pos (by simpa using hc9)]
                refine ⟨?_, ?_⟩
                · simp only [if_pos hin1, if_pos b4, hcl1, ec]
                  rw [if_pos trivial]
                · simp only [if_pos hin1, if_pos b4, hcl1, ec, ecl]
                  rw [if_pos trivial]
              · skip
                have b14 := bI_0.mp (h_13_ ▸ c_14_)
                refine j_aload_n C dX12_cell_83 rfl (lv_at hl 0 rfl) ?_
                refine j_iconst (v := 3) C dX12_cell_84 (by decide) ?_
                refine j_callV (k := 0) C [.int (3)] [] (k_X12_lost l ad V1 (3)  ) v_RX12_251 (ml (by decide)) (rfl) rfl ⟨rfl, rfl, Nat.le_of_ble_eq_true rfl, Nat.le_of_ble_eq_true rfl⟩ rfl hl.1 rfl (Nat.le_of_ble_eq_true rfl) ⟨Nat.le_of_ble_eq_true rfl, Nat.le_of_ble_eq_true rfl⟩ dX12_cell_85 (kL fun x_15_ U15 h_15_ => ?_)
                obtain ⟨eU15, h_15_⟩ := h_15_
                refine j_lret C ⟨rfl, _, rfl, ?_⟩ dX12_cell_88
                simp only [← eV1]
                obtain ⟨hin1, hcl1⟩ := inz ej1 hj1 (by omega)
                have hc9 := fun q => b14 ((wl1 en8 hn8).mpr q)
                have ec : clM (V1 1 j_1_) z2 (decide (0 ≤ z1 ∧ z1 < V1 2 j_1_)) = 3 := by unfold clM; rw [if_neg (c_12_), if_pos c_11_, if_neg (by simpa using hc9)]
                refine ⟨?_, ?_⟩
                · simp only [if_pos hin1, if_pos b4, hcl1, ec]
                  rw [if_neg (by decide)]
                  exact eU15
                · simp only [if_pos hin1, if_pos b4, hcl1, ec]
                  rw [if_neg (by decide)]
                  exact h_15_
            · skip
              refine j_aload_n C dX12_cell_61 rfl (lv_at hl 0 rfl) ?_
              refine j_iconst (v := 1) C dX12_cell_62 (by decide) ?_
              refine j_callV (k := 0) C [.int (1)] [] (k_X12_lost l ad V1 (1)  ) v_RX12_251 (ml (by decide)) (rfl) rfl ⟨rfl, rfl, Nat.le_of_ble_eq_true rfl, Nat.le_of_ble_eq_true rfl⟩ rfl hl.1 rfl (Nat.le_of_ble_eq_true rfl) ⟨Nat.le_of_ble_eq_true rfl, Nat.le_of_ble_eq_true rfl⟩ dX12_cell_63 (kL fun x_16_ U16 h_16_ => ?_)
              obtain ⟨eU16, h_16_⟩ := h_16_
              refine j_lret C ⟨rfl, _, rfl, ?_⟩ dX12_cell_66
              simp only [← eV1]
              obtain ⟨hin1, hcl1⟩ := inz ej1 hj1 (by omega)
              have ec : clM (V1 1 j_1_) z2 (decide (0 ≤ z1 ∧ z1 < V1 2 j_1_)) = 1 := by unfold clM; rw [if_pos c_12_]
              refine ⟨?_, ?_⟩
              · simp only [if_pos hin1, if_pos b4, hcl1, ec]
                rw [if_neg (by decide)]
                exact eU16
              · simp only [if_pos hin1, if_pos b4, hcl1, ec]
                rw [if_neg (by decide)]
                exact h_16_
          · skip
            refine j_aload_n C dX12_cell_44 rfl (lv_at hl 0 rfl) ?_
            refine j_iconst (v := 2) C dX12_cell_45 (by decide) ?_
            refine j_callV (k := 0) C [.int (2)] [] (k_X12_lost l ad V1 (2)  ) v_RX12_251 (ml (by decide)) (rfl) rfl ⟨rfl, rfl, Nat.le_of_ble_eq_true rfl, Nat.le_of_ble_eq_true rfl⟩ rfl hl.1 rfl (Nat.le_of_ble_eq_true rfl) ⟨Nat.le_of_ble_eq_true rfl, Nat.le_of_ble_eq_true rfl⟩ dX12_cell_46 (kL fun x_17_ U17 h_17_ => ?_)
            obtain ⟨eU17, h_17_⟩ := h_17_
            refine j_lret C ⟨rfl, _, rfl, ?_⟩ dX12_cell_49
            simp only [← eV1]
            obtain ⟨hin1, hcl1⟩ := inz ej1 hj1 (by omega)
            have ec : clM (V1 1 j_1_) z2 (decide (0 ≤ z1 ∧ z1 < V1 2 j_1_)) = 2 := by unfold clM; rw [if_neg c_5_, if_neg c_11_]
            refine ⟨?_, ?_⟩
            · simp only [if_pos hin1, if_pos b4, hcl1, ec]
              rw [if_neg (by decide)]
              exact eU17
            · simp only [if_pos hin1, if_pos b4, hcl1, ec]
              rw [if_neg (by decide)]
              exact h_17_
      · skip
        have b4 := bI_0.mp (h_3_ ▸ c_4_)
        refine j_ldc2 C wj_RX12_83 dX12_cell_19 ?_
        refine j_lret C ⟨rfl, _, rfl, ?_⟩ dX12_cell_22
        simp only [← eV1]
        obtain ⟨hin1, hcl1⟩ := inz ej1 hj1 (by omega)
        refine ⟨?_, ?_⟩ <;> simp only [if_pos hin1, if_neg b4]
  · subst ex1
    refine j_if_eq (tgt := 19) C dX12_cell_9 (by decide) (fun c_18_ => ?_) (fun c_18_ => ?_)
    · skip
      refine j_ldc2 C wj_RX12_83 dX12_cell_19 ?_
      refine j_lret C ⟨rfl, _, rfl, ?_⟩ dX12_cell_22
      simp only [← eV1]
      have hot1 := outR ho1
      refine ⟨?_, ?_⟩ <;> simp only [if_neg hot1]
    · exact absurd rfl c_18_
abbrev rm_X12_reading : Room := { frames := 1, cells := 0, slots := 0, locals := 22 }
set_option maxHeartbeats 4000000 in
set_option maxRecDepth 100000 in
theorem k_X12_reading (l : Launch) (ad : Nat → Nat) (V : Vt) (z0 z1 z2 : Int32) (ng : Nat) (rr : Nat → Nat) (nt c_0_ : Nat) (hM : MI V ng rr nt c_0_)  : Ct l yX12_reading cX12_reading 4 (some .int) rm_X12_reading (mS ad) V [.ref (ad (0)), .int (z0), .int (z1), .int (z2)] (rI fun x V2 => (V2 = if ¬ z0 < 0 ∧ z0 < nI nt then (if ¬ z1 < 0 ∧ z1 < nI ng then (if 0 ≤ z2 ∧ z2 ≤ 20 then (if c_0_ < 8 then up2 (up2 (up2 (up2 V 21 c_0_ z0) 22 c_0_ z1) 23 c_0_ z2) 0 34 (nI (c_0_ + 1)) else V) else V) else V) else V) ∧ x = if ¬ z0 < 0 ∧ z0 < nI nt then (if ¬ z1 < 0 ∧ z1 < nI ng then (if 0 ≤ z2 ∧ z2 ≤ 20 then (if c_0_ < 8 then nI c_0_ else -4) else -2) else -1) else -1) := by
  refine Ct_of (by decide) (Nat.le_of_ble_eq_true rfl) ?_
  intro p e s m below meth c A D cy ls C hl
  have hl : lv_has ls 4 [(0, .ref (ad (0))), (1, .int (z0)), (2, .int (z1)), (3, .int (z2))] := hl
  have ng4 := hM.2.1
  have nt5 := hM.2.2.2.1
  have hc8 := hM.2.2.2.2.2.2.1
  refine j_aload_n C dX12_reading_0 rfl (lv_at hl 0 rfl) ?_
  refine j_iload_n C dX12_reading_1 rfl (lv_at hl 1 rfl) ?_
  refine j_callV (k := 0) C [.int (z0)] [] (k_X12_isThrower l ad V (z0)  nt hM.2.2.1 hM.2.2.2.1) v_RX12_170 (ml (by decide)) (rfl) rfl ⟨rfl, rfl, Nat.le_of_ble_eq_true rfl, Nat.le_of_ble_eq_true rfl⟩ rfl hl.1 rfl (Nat.le_of_ble_eq_true rfl) ⟨Nat.le_of_ble_eq_true rfl, Nat.le_of_ble_eq_true rfl⟩ dX12_reading_2 (kI fun x_1_ U1 h_1_ => ?_)
  obtain ⟨eU1, h_1_⟩ := h_1_
  have eU1 := eU1.symm
  subst eU1
  rcases h_1_ with ⟨j_1_, hj1, ej1, ex1⟩ | ⟨ho1, ex1⟩
  · subst ex1
    refine j_if_eq (tgt := 16) C dX12_reading_5 (by decide) (fun c_2_ => ?_) (fun c_2_ => ?_)
    · exact absurd c_2_ (by decide)
    · skip
      refine j_aload_n C dX12_reading_8 rfl (lv_at hl 0 rfl) ?_
      refine j_iload_n C dX12_reading_9 rfl (lv_at hl 2 rfl) ?_
      refine j_callV (k := 0) C [.int (z1)] [] (k_X12_isGirl l ad V (z1)  ng hM.1 (by omega)) v_RX12_161 (ml (by decide)) (rfl) rfl ⟨rfl, rfl, Nat.le_of_ble_eq_true rfl, Nat.le_of_ble_eq_true rfl⟩ rfl hl.1 rfl (Nat.le_of_ble_eq_true rfl) ⟨Nat.le_of_ble_eq_true rfl, Nat.le_of_ble_eq_true rfl⟩ dX12_reading_10 (kI fun x_3_ U3 h_3_ => ?_)
      obtain ⟨eU3, h_3_⟩ := h_3_
      have eU3 := eU3.symm
      subst eU3
      rcases h_3_ with ⟨j_3_, hj3, ej3, ex3⟩ | ⟨ho3, ex3⟩
      · subst ex3
        refine j_if_ne (tgt := 18) C dX12_reading_13 (by decide) (fun c_4_ => ?_) (fun c_4_ => ?_)
        · skip
          refine j_iload_n C dX12_reading_18 rfl (lv_at hl 3 rfl) ?_
          refine j_iconst (v := 0) C dX12_reading_19 (by decide) ?_
          refine j_bipush (v := 20) C dX12_reading_20 (by decide) ?_
          refine j_callS C [.int (z2), .int (0), .int (20)] [] (k_X12_within l (mS ad) V (z2) (0) (20)  ) v_RX12_85 ⟨rfl, rfl, Nat.le_of_ble_eq_true rfl, Nat.le_of_ble_eq_true rfl⟩ rfl hl.1 rfl (Nat.le_of_ble_eq_true rfl) ⟨Nat.le_of_ble_eq_true rfl, Nat.le_of_ble_eq_true rfl⟩ dX12_reading_22 (kI fun x_5_ U5 h_5_ => ?_)
          obtain ⟨eU5, h_5_⟩ := h_5_
          have eU5 := eU5.symm
          subst eU5
          refine j_if_ne (tgt := 31) C dX12_reading_25 (by decide) (fun c_6_ => ?_) (fun c_6_ => ?_)
          · skip
            have b6 := Decidable.not_not.mp (mt bI_0.mpr (h_5_ ▸ c_6_))
            refine j_aload_n C dX12_reading_31 rfl (lv_at hl 0 rfl) ?_
            refine j_getI (k := 0) C (f_RX12_135_12) (ml (by decide)) (rfl) dX12_reading_32 ?_
            refine j_bipush (v := 8) C dX12_reading_35 (by decide) ?_
            refine j_icmp_ne (tgt := 43) C dX12_reading_37 (by decide) (fun c_7_ => ?_) (fun c_7_ => ?_)
            · skip
              have q7 := cNq (hM.2.2.2.2.2.1) (show (8 : Int32) = nI 8 from rfl) (by omega) (by omega) c_7_
              refine j_aload_n C dX12_reading_43 rfl (lv_at hl 0 rfl) ?_
              refine j_getR (k := 0) (k2 := 21) C (f_RX12_70_12) (ml (by decide)) (rfl) (rfl) dX12_reading_44 ?_
              refine j_aload_n C dX12_reading_47 rfl (lv_at hl 0 rfl) ?_
              refine j_getI (k := 0) C (f_RX12_135_12) (ml (by decide)) (rfl) dX12_reading_48 ?_
              refine j_iload_n C dX12_reading_51 rfl (lv_at hl 1 rfl) ?_
              refine j_iastE (k := 21) (n := 8) (t := c_0_) C (ml (by decide)) (rfl) (rfl) (hM.2.2.2.2.2.1) (by omega) (by decide) dX12_reading_52 (fun V1 eV1 => ?_)
              refine j_aload_n C dX12_reading_53 rfl (lv_at hl 0 rfl) ?_
              refine j_getR (k := 0) (k2 := 22) C (f_RX12_73_12) (ml (by decide)) (rfl) (rfl) dX12_reading_54 ?_
              refine j_aload_n C dX12_reading_57 rfl (lv_at hl 0 rfl) ?_
              refine j_getI (k := 0) C (f_RX12_135_12) (ml (by decide)) (rfl) dX12_reading_58 ?_
              refine j_iload_n C dX12_reading_61 rfl (lv_at hl 2 rfl) ?_
              refine j_iastE (k := 22) (n := 8) (t := c_0_) C (ml (by decide)) (rfl) (rfl) ((by rw [eV1, up2_k _ _ (by decide)]; exact hM.2.2.2.2.2.1 : V1 0 34 = nI c_0_)) (by omega) (by decide) dX12_reading_62 (fun V2 eV2 => ?_)
              refine j_aload_n C dX12_reading_63 rfl (lv_at hl 0 rfl) ?_
              refine j_getR (k := 0) (k2 := 23) C (f_RX12_76_12) (ml (by decide)) (rfl) (rfl) dX12_reading_64 ?_
              refine j_aload_n C dX12_reading_67 rfl (lv_at hl 0 rfl) ?_
              refine j_getI (k := 0) C (f_RX12_135_12) (ml (by decide)) (rfl) dX12_reading_68 ?_
              refine j_iload_n C dX12_reading_71 rfl (lv_at hl 3 rfl) ?_
              refine j_iastE (k := 23) (n := 8) (t := c_0_) C (ml (by decide)) (rfl) (rfl) ((by rw [eV2, up2_k _ _ (by decide), eV1, up2_k _ _ (by decide)]; exact hM.2.2.2.2.2.1 : V2 0 34 = nI c_0_)) (by omega) (by decide) dX12_reading_72 (fun V3 eV3 => ?_)
              refine j_aload_n C dX12_reading_73 rfl (lv_at hl 0 rfl) ?_
              refine j_dup C dX12_reading_74 rfl ?_
              refine j_getI (k := 0) C (f_RX12_135_12) (ml (by decide)) (rfl) dX12_reading_75 ?_
              refine j_iconst (v := 1) C dX12_reading_78 (by decide) ?_
              refine j_iadd C dX12_reading_79 ?_
              refine j_putI (k := 0) C (f_RX12_135_12) p_12_34 (ml (by decide)) (rfl) dX12_reading_80 (fun V4 eV4 => ?_)
              refine j_aload_n C dX12_reading_83 rfl (lv_at hl 0 rfl) ?_
              refine j_getI (k := 0) C (f_RX12_135_12) (ml (by decide)) (rfl) dX12_reading_84 ?_
              refine j_iconst (v := 1) C dX12_reading_87 (by decide) ?_
              refine j_isub C dX12_reading_88 ?_
              refine j_iret C ⟨rfl, _, rfl, ?_⟩ dX12_reading_89
              obtain ⟨hin1, hcl1⟩ := inz ej1 hj1 (by omega)
              obtain ⟨hin3, hcl3⟩ := inz ej3 hj3 (by omega)
              have e8 : c_0_ < 8 := by omega
              have e3 : V3 0 34 = nI c_0_ := by rw [eV3, up2_k _ _ (by decide), eV2, up2_k _ _ (by decide), eV1, up2_k _ _ (by decide)]; exact hM.2.2.2.2.2.1
              rw [e3, nI_1] at eV4
              refine ⟨?_, ?_⟩
              · simp only [if_pos hin1, if_pos hin3, if_pos b6, if_pos e8]
                rw [eV4, eV3, eV2, eV1]
              · simp only [if_pos hin1, if_pos hin3, if_pos b6, if_pos e8]
                rw [eV4, up2_s, nI_pred]
            · skip
              have q7 := cEq (hM.2.2.2.2.2.1) (show (8 : Int32) = nI 8 from rfl) (by omega) (by omega) c_7_
              refine j_bipush (v := (-4)) C dX12_reading_40 (by decide) ?_
              refine j_iret C ⟨rfl, _, rfl, ?_⟩ dX12_reading_42
              obtain ⟨hin1, hcl1⟩ := inz ej1 hj1 (by omega)
              obtain ⟨hin3, hcl3⟩ := inz ej3 hj3 (by omega)
              have e8 : ¬ c_0_ < 8 := by omega
              refine ⟨?_, ?_⟩
              · first | (simp only [if_pos hin1, hcl1, if_pos hin3, hcl3, if_pos b6, if_neg e8]; done) | (simp only [if_pos hin1, hcl1, if_pos hin3, hcl3, if_pos b6, if_neg e8]; exact h_5_) | (simp only [if_pos hin1, hcl1, if_pos hin3, hcl3, if_pos b6, if_neg e8]; rw [h_5_]; done) | (simp only [if_pos hin1, hcl1, if_pos hin3, hcl3, if_pos b6, if_neg e8]; rfl)
              · first | (simp only [if_pos hin1, hcl1, if_pos hin3, hcl3, if_pos b6, if_neg e8]; done) | (simp only [if_pos hin1, hcl1, if_pos hin3, hcl3, if_pos b6, if_neg e8]; exact h_5_) | (simp only [if_pos hin1, hcl1, if_pos hin3, hcl3, if_pos b6, if_neg e8]; rw [h_5_]; done) | (simp only [if_pos hin1, hcl1, if_pos hin3, hcl3, if_pos b6, if_neg e8]; rfl)
          · skip
            have b6 := bI_0.mp (h_5_ ▸ c_6_)
            refine j_bipush (v := (-2)) C dX12_reading_28 (by decide) ?_
            refine j_iret C ⟨rfl, _, rfl, ?_⟩ dX12_reading_30
            obtain ⟨hin1, hcl1⟩ := inz ej1 hj1 (by omega)
            obtain ⟨hin3, hcl3⟩ := inz ej3 hj3 (by omega)
            refine ⟨?_, ?_⟩
            · first | (simp only [if_pos hin1, hcl1, if_pos hin3, hcl3, if_neg b6]; done) | (simp only [if_pos hin1, hcl1, if_pos hin3, hcl3, if_neg b6]; exact h_5_) | (simp only [if_pos hin1, hcl1, if_pos hin3, hcl3, if_neg b6]; rw [h_5_]; done) | (simp only [if_pos hin1, hcl1, if_pos hin3, hcl3, if_neg b6]; rfl)
            · first | (simp only [if_pos hin1, hcl1, if_pos hin3, hcl3, if_neg b6]; done) | (simp only [if_pos hin1, hcl1, if_pos hin3, hcl3, if_neg b6]; exact h_5_) | (simp only [if_pos hin1, hcl1, if_pos hin3, hcl3, if_neg b6]; rw [h_5_]; done) | (simp only [if_pos hin1, hcl1, if_pos hin3, hcl3, if_neg b6]; rfl)
        · exact absurd c_4_ (by decide)
      · subst ex3
        refine j_if_ne (tgt := 18) C dX12_reading_13 (by decide) (fun c_8_ => ?_) (fun c_8_ => ?_)
        · exact absurd rfl c_8_
        · skip
          refine j_iconst (v := (-1)) C dX12_reading_16 (by decide) ?_
          refine j_iret C ⟨rfl, _, rfl, ?_⟩ dX12_reading_17
          obtain ⟨hin1, hcl1⟩ := inz ej1 hj1 (by omega)
          have hot3 := outR ho3
          refine ⟨?_, ?_⟩
          · first | (simp only [if_pos hin1, hcl1, if_neg hot3]; done) | (simp only [if_pos hin1, hcl1, if_neg hot3]; rfl)
          · first | (simp only [if_pos hin1, hcl1, if_neg hot3]; done) | (simp only [if_pos hin1, hcl1, if_neg hot3]; rfl)
  · subst ex1
    refine j_if_eq (tgt := 16) C dX12_reading_5 (by decide) (fun c_9_ => ?_) (fun c_9_ => ?_)
    · skip
      refine j_iconst (v := (-1)) C dX12_reading_16 (by decide) ?_
      refine j_iret C ⟨rfl, _, rfl, ?_⟩ dX12_reading_17
      have hot1 := outR ho1
      refine ⟨?_, ?_⟩
      · first | (simp only [if_neg hot1]; done) | (simp only [if_neg hot1]; rfl)
      · first | (simp only [if_neg hot1]; done) | (simp only [if_neg hot1]; rfl)
    · exact absurd rfl c_9_
abbrev rm_X12_back : Room := { frames := 1, cells := 0, slots := 0, locals := 22 }
set_option maxHeartbeats 4000000 in
set_option maxRecDepth 100000 in
theorem k_X12_back (l : Launch) (ad : Nat → Nat) (V : Vt) (z0 : Int32) (ng : Nat) (rr : Nat → Nat) (nt c_0_ : Nat) (hM : MI V ng rr nt c_0_)  : Ct l yX12_back cX12_back 2 (some .int) rm_X12_back (mS ad) V [.ref (ad (0)), .int (z0)] (rI fun x V2 => (V2 = if 0 ≤ z0 ∧ z0 ≤ nI c_0_ then up2 V 0 34 (nI (c_0_ - z0.toNatClampNeg)) else V) ∧ x = if 0 ≤ z0 ∧ z0 ≤ nI c_0_ then nI (c_0_ - z0.toNatClampNeg) else -2) := by
  refine Ct_of (by decide) (Nat.le_of_ble_eq_true rfl) ?_
  intro p e s m below meth c A D cy ls C hl
  have hl : lv_has ls 2 [(0, .ref (ad (0))), (1, .int (z0))] := hl
  have ng4 := hM.2.1
  have nt5 := hM.2.2.2.1
  refine j_iload_n C dX12_back_0 rfl (lv_at hl 1 rfl) ?_
  refine j_iconst (v := 0) C dX12_back_1 (by decide) ?_
  refine j_aload_n C dX12_back_2 rfl (lv_at hl 0 rfl) ?_
  refine j_getI (k := 0) C (f_RX12_135_12) (ml (by decide)) (rfl) dX12_back_3 ?_
  refine j_callS C [.int (z0), .int (0), .int (V 0 34)] [] (k_X12_within l (mS ad) V (z0) (0) (V 0 34)  ) v_RX12_85 ⟨rfl, rfl, Nat.le_of_ble_eq_true rfl, Nat.le_of_ble_eq_true rfl⟩ rfl hl.1 rfl (Nat.le_of_ble_eq_true rfl) ⟨Nat.le_of_ble_eq_true rfl, Nat.le_of_ble_eq_true rfl⟩ dX12_back_6 (kI fun x_1_ U1 h_1_ => ?_)
  obtain ⟨eU1, h_1_⟩ := h_1_
  have eU1 := eU1.symm
  subst eU1
  refine j_if_ne (tgt := 15) C dX12_back_9 (by decide) (fun c_2_ => ?_) (fun c_2_ => ?_)
  · skip
    have b2 := Decidable.not_not.mp (mt bI_0.mpr (h_1_ ▸ c_2_))
    refine j_aload_n C dX12_back_15 rfl (lv_at hl 0 rfl) ?_
    refine j_dup C dX12_back_16 rfl ?_
    refine j_getI (k := 0) C (f_RX12_135_12) (ml (by decide)) (rfl) dX12_back_17 ?_
    refine j_iload_n C dX12_back_20 rfl (lv_at hl 1 rfl) ?_
    refine j_isub C dX12_back_21 ?_
    refine j_putI (k := 0) C (f_RX12_135_12) p_12_34 (ml (by decide)) (rfl) dX12_back_22 (fun V1 eV1 => ?_)
    refine j_aload_n C dX12_back_25 rfl (lv_at hl 0 rfl) ?_
    refine j_getI (k := 0) C (f_RX12_135_12) (ml (by decide)) (rfl) dX12_back_26 ?_
    refine j_iret C ⟨rfl, _, rfl, ?_⟩ dX12_back_29
    rw [hM.2.2.2.2.2.1] at b2 eV1
    have hc8 := hM.2.2.2.2.2.2.1
    obtain ⟨m8, hm8, em8⟩ := nI_of2 (nI_toInt (n := c_0_) (by omega)) (Int32.not_lt.mpr b2.1) b2.2
    have e7 : nI c_0_ - z0 = nI (c_0_ - z0.toNatClampNeg) := by rw [em8, nI_clamp (by omega), pk_sub hm8]
    rw [e7] at eV1
    refine ⟨?_, ?_⟩
    · rw [if_pos b2]; exact eV1
    · rw [if_pos b2, eV1, up2_s]
  · skip
    have b2 := bI_0.mp (h_1_ ▸ c_2_)
    refine j_bipush (v := (-2)) C dX12_back_12 (by decide) ?_
    refine j_iret C ⟨rfl, _, rfl, ?_⟩ dX12_back_14
    rw [hM.2.2.2.2.2.1] at b2
    refine ⟨?_, ?_⟩ <;> rw [if_neg b2]
