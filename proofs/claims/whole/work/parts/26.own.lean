/-- the fault that a row of lane la comes to, taken as one of lane z, for a cell that is there (hc) or not -/
def clF (la z : Int32) (hc : Bool) : Int32 := if la = -1 then 1 else if la = z then (if hc then 0 else 3) else 2
theorem k_take2 (l : Launch) (ad tk : Nat → Nat) (nt : Nat) (V : Vt) (k : Nat) (hg : isH k) (za zb zc : Int32) (k2 : Nat) (hg2 : isH k2) (m1 m2 i j n : Nat) (ea : za = nI i) (eb : zb = nI j) (ec : zc = nI n) (hn1 : V k 1 = nI m1) (h_61_ : m1 ≤ 60) (hn2 : V k2 1 = nI m2) (h_62_ : m2 ≤ 60) (hin : i + n ≤ m2) (hjn : j + n ≤ m1) : Ct l yX7_takeCells cX7_takeCells 6 none rm_X7_takeCells (xS ad tk nt) V [.ref (ad (k)), .ref (ad (k2)), .int za, .int zb, .int zc] (rU fun V2 => V2 = tkV V (k + 1) (k2 + 1) (V k 0) i j 0 n) := by
  subst ea eb ec
  exact k_X7_takeCells l ad tk nt V k hg k2 hg2 m1 m2 i j n hn1 h_61_ hn2 h_62_ hin hjn
theorem re60 {a b len : Int32} {m : Nat} (hm : len = nI m) (h_60_ : m ≤ 60) (h : 0 ≤ a ∧ a ≤ len ∧ 0 ≤ b ∧ b ≤ len - a) : ∃ i n : Nat, a = nI i ∧ b = nI n ∧ i + n ≤ m := by
  subst hm
  obtain ⟨i, hi, rfl⟩ := nI_of2 (nI_toInt (n := m) (by omega)) (Int32.not_lt.mpr h.1) h.2.1
  have hs : nI m - nI i = nI (m - i) := pk_sub hi
  rw [hs] at h
  obtain ⟨n, hn, rfl⟩ := nI_of2 (nI_toInt (n := m - i) (by omega)) (Int32.not_lt.mpr h.2.2.1) h.2.2.2
  exact ⟨i, n, rfl, rfl, by omega⟩
abbrev rm_X11_cell : Room := { frames := 2, cells := 0, slots := 0, locals := 42 }
set_option maxHeartbeats 4000000 in
set_option maxRecDepth 100000 in
theorem k_X11_cell (l : Launch) (ad tk : Nat → Nat) (nt : Nat) (V : Vt) (ng : Nat) (rr : Nat → Nat) (c_0_ : Nat) (hX : XI tk nt V ng rr c_0_) (z0 z1 z2 : Int32) : Ct l yX11_cell cX11_cell 6 (some .long) rm_X11_cell (xS ad tk nt) V [.ref (ad (55)), .int (z0), .int (z1), .int (z2)] (rL fun x V2 => (V2 = if ¬ z0 < 0 ∧ z0 < nI 4 then (if 0 ≤ z2 ∧ z2 ≤ 2 then up2 (up2 V 55 9 0) 55 9 (clF ((up2 V 55 9 0) (34 + 2 * z0.toNatClampNeg) 0) z2 (decide (0 ≤ z1 ∧ z1 < (up2 V 55 9 0) (34 + 2 * z0.toNatClampNeg) 1))) else (up2 V 55 9 0)) else (up2 V 55 9 0)) ∧ x = if ¬ z0 < 0 ∧ z0 < nI 4 then (if 0 ≤ z2 ∧ z2 ≤ 2 then (if clF ((up2 V 55 9 0) (34 + 2 * z0.toNatClampNeg) 0) z2 (decide (0 ≤ z1 ∧ z1 < (up2 V 55 9 0) (34 + 2 * z0.toNatClampNeg) 1)) = 0 then ((up2 V 55 9 0) ((34 + 2 * z0.toNatClampNeg) + 1) z1.toNatClampNeg).toInt64 else (-9223372036854775808)) else (-9223372036854775808)) else (-9223372036854775808)) := by
  refine Ct_of (by decide) (Nat.le_of_ble_eq_true rfl) ?_
  intro p e s m below meth c A D cy ls C hl
  have hl : lv_has ls 6 [(0, .ref (ad (55))), (1, .int (z0)), (2, .int (z1)), (3, .int (z2))] := hl
  have ng4 := hX.1.2.1
  have nt5 := hX.2.2.1
  refine j_aload_n C dX11_cell_0 rfl (lv_at hl 0 rfl) ?_
  refine j_iconst (v := 0) C dX11_cell_1 (by decide) ?_
  refine j_putI (k := 55) C (f_RX11_66_11) p_11_9 (xl (by decide)) (rfl) dX11_cell_2 (fun V1 eV1 => ?_)
  have hX1 : XI tk nt V1 ng rr c_0_ := by rw [eV1]; exact XI_f hX
  refine j_aload_n C dX11_cell_5 rfl (lv_at hl 0 rfl) ?_
  refine j_iload_n C dX11_cell_6 rfl (lv_at hl 1 rfl) ?_
  refine j_callV (k := 55) C [.int (z0)] [] (k_X11_sheetOf l ad tk nt V1  (z0)) v_RX11_70 (xl (by decide)) (rfl) rfl ⟨rfl, rfl, Nat.le_of_ble_eq_true rfl, Nat.le_of_ble_eq_true rfl⟩ rfl hl.1 rfl (Nat.le_of_ble_eq_true rfl) ⟨Nat.le_of_ble_eq_true rfl, Nat.le_of_ble_eq_true rfl⟩ dX11_cell_7 (kA fun x_1_ U1 h_1_ => ?_)
  obtain ⟨eU1, h_1_⟩ := h_1_
  have eU1 := eU1.symm
  subst eU1
  rcases h_1_ with ⟨j_1_, hj1, ej1, ev1⟩ | ⟨ho1, ev1⟩
  · subst ev1
    obtain ⟨n_8_, hn8, en8⟩ := h60_n hX1 hj1
    refine j_astore (lv2 := [(4, .ref (ad (34 + 2 * j_1_))), (0, .ref (ad (55))), (1, .int (z0)), (2, .int (z1)), (3, .int (z2))]) C dX11_cell_10 hl (by decide) rfl (fun ls hl => ?_)
    refine j_aload C dX11_cell_12 (lv_at hl 0 rfl) ?_
    refine j_ifnull C dX11_cell_14 ?_
    refine j_iload_n C dX11_cell_17 rfl (lv_at hl 4 rfl) ?_
    refine j_callS C [.int (z2)] [] (k_X11_isLane l (xS ad tk nt) V1 (z2)) v_RX11_74 ⟨rfl, rfl, Nat.le_of_ble_eq_true rfl, Nat.le_of_ble_eq_true rfl⟩ rfl hl.1 rfl (Nat.le_of_ble_eq_true rfl) ⟨Nat.le_of_ble_eq_true rfl, Nat.le_of_ble_eq_true rfl⟩ dX11_cell_18 (kI fun x_2_ U2 h_2_ => ?_)
    obtain ⟨eU2, h_2_⟩ := h_2_
    have eU2 := eU2.symm
    subst eU2
    refine j_if_ne (tgt := 28) C dX11_cell_21 (by decide) (fun c_3_ => ?_) (fun c_3_ => ?_)
    · skip
      have b3 := Decidable.not_not.mp (mt bI_0.mpr (h_2_ ▸ c_3_))
      refine j_aload C dX11_cell_28 (lv_at hl 0 rfl) ?_
      refine j_iload_n C dX11_cell_30 rfl (lv_at hl 4 rfl) ?_
      refine j_callV (k := 34 + 2 * j_1_) C [.int (z2)] [] (k_X7_faultAs l ad tk nt V1 (34 + 2 * j_1_) (isH_j hj1)  (z2)) v_RX11_78 (xl (xH (tk := tk) (nt := nt) (isH_j hj1)).1.1) ((xH (tk := tk) (nt := nt) (isH_j hj1)).2.1) rfl ⟨rfl, rfl, Nat.le_of_ble_eq_true rfl, Nat.le_of_ble_eq_true rfl⟩ rfl hl.1 rfl (Nat.le_of_ble_eq_true rfl) ⟨Nat.le_of_ble_eq_true rfl, Nat.le_of_ble_eq_true rfl⟩ dX11_cell_31 (kI fun x_4_ U4 h_4_ => ?_)
      obtain ⟨eU4, h_4_⟩ := h_4_
      have eU4 := eU4.symm
      subst eU4
      skip
      refine j_istore (lv2 := [(5, .int (x_4_)), (4, .ref (ad (34 + 2 * j_1_))), (0, .ref (ad (55))), (1, .int (z0)), (2, .int (z1)), (3, .int (z2))]) C dX11_cell_34 hl (by decide) rfl (fun ls hl => ?_)
      refine j_iload C dX11_cell_36 (lv_at hl 0 rfl) ?_
      refine j_if_ne (tgt := 53) C dX11_cell_38 (by decide) (fun c_5_ => ?_) (fun c_5_ => ?_)
      · skip
        refine j_aload_n C dX11_cell_53 rfl (lv_at hl 2 rfl) ?_
        refine j_iload C dX11_cell_54 (lv_at hl 0 rfl) ?_
        refine j_putI (k := 55) C (f_RX11_66_11) p_11_9 (xl (by decide)) (rfl) dX11_cell_56 (fun V2 eV2 => ?_)
        refine j_iload C dX11_cell_59 (lv_at hl 0 rfl) ?_
        refine j_if_ne (tgt := 74) C dX11_cell_61 (by decide) (fun c_6_ => ?_) (fun c_6_ => ?_)
        · skip
          refine j_ldc2 C wj_RX11_222 dX11_cell_74 ?_
          refine j_lret C ⟨rfl, _, rfl, ?_⟩ dX11_cell_77
          simp only [← eV1]
          obtain ⟨hin1, hcl1⟩ := inz ej1 hj1 (by omega)
          have ec : clF (V1 (34 + 2 * j_1_) 0) z2 (decide (0 ≤ z1 ∧ z1 < V1 (34 + 2 * j_1_) 1)) = x_4_ := by
            rw [h_4_]
            unfold clF
            rw [h_4_] at c_5_
            split
            · rfl
            · split
              · rename_i qa qb
                rw [if_neg qa, if_pos qb] at c_5_
                exact absurd rfl c_5_
              · rfl
          refine ⟨?_, ?_⟩
          · simp only [if_pos hin1, hcl1, if_pos b3, ec]
            exact eV2
          · simp only [if_pos hin1, hcl1, if_pos b3, ec]
            rw [if_neg c_6_]
        · skip
          exact absurd c_6_ c_5_
      · skip
        refine j_aload C dX11_cell_41 (lv_at hl 1 rfl) ?_
        refine j_iload_n C dX11_cell_43 rfl (lv_at hl 4 rfl) ?_
        refine j_callV (k := 34 + 2 * j_1_) C [.int (z1)] [] (k_X7_hasCell l ad tk nt V1 (34 + 2 * j_1_) (isH_j hj1)  (z1)) v_RX11_236 (xl (xH (tk := tk) (nt := nt) (isH_j hj1)).1.1) ((xH (tk := tk) (nt := nt) (isH_j hj1)).2.1) rfl ⟨rfl, rfl, Nat.le_of_ble_eq_true rfl, Nat.le_of_ble_eq_true rfl⟩ rfl hl.1 rfl (Nat.le_of_ble_eq_true rfl) ⟨Nat.le_of_ble_eq_true rfl, Nat.le_of_ble_eq_true rfl⟩ dX11_cell_44 (kI fun x_7_ U7 h_7_ => ?_)
        obtain ⟨eU7, h_7_⟩ := h_7_
        have eU7 := eU7.symm
        subst eU7
        refine j_if_ne (tgt := 53) C dX11_cell_47 (by decide) (fun c_8_ => ?_) (fun c_8_ => ?_)
        · skip
          have b8 := Decidable.not_not.mp (mt bI_0.mpr (h_7_ ▸ c_8_))
          refine j_aload_n C dX11_cell_53 rfl (lv_at hl 2 rfl) ?_
          refine j_iload C dX11_cell_54 (lv_at hl 0 rfl) ?_
          refine j_putI (k := 55) C (f_RX11_66_11) p_11_9 (xl (by decide)) (rfl) dX11_cell_56 (fun V3 eV3 => ?_)
          refine j_iload C dX11_cell_59 (lv_at hl 0 rfl) ?_
          refine j_if_ne (tgt := 74) C dX11_cell_61 (by decide) (fun c_9_ => ?_) (fun c_9_ => ?_)
          · skip
            exact absurd c_5_ c_9_
          · skip
            refine j_aload C dX11_cell_64 (lv_at hl 1 rfl) ?_
            refine j_iload_n C dX11_cell_66 rfl (lv_at hl 4 rfl) ?_
            refine j_callV (k := 34 + 2 * j_1_) C [.int (z1)] [] (k_X7_at l ad tk nt V3 (34 + 2 * j_1_) (isH_j hj1) n_8_ (by rw [eV3, up2_k _ _ (by omega)]; exact en8) hn8 (z1)) v_RX11_242 (xl (xH (tk := tk) (nt := nt) (isH_j hj1)).1.1) ((xH (tk := tk) (nt := nt) (isH_j hj1)).2.1) rfl ⟨rfl, rfl, Nat.le_of_ble_eq_true rfl, Nat.le_of_ble_eq_true rfl⟩ rfl hl.1 rfl (Nat.le_of_ble_eq_true rfl) ⟨Nat.le_of_ble_eq_true rfl, Nat.le_of_ble_eq_true rfl⟩ dX11_cell_67 (kI fun x_10_ U10 h_10_ => ?_)
            obtain ⟨eU10, h_10_⟩ := h_10_
            have eU10 := eU10.symm
            subst eU10
            refine j_i2l C dX11_cell_70 rfl ?_
            refine j_goto (tgt := 77) C dX11_cell_71 (by decide) ?_
            refine j_lret C ⟨rfl, _, rfl, ?_⟩ dX11_cell_77
            simp only [← eV1]
            obtain ⟨hin1, hcl1⟩ := inz ej1 hj1 (by omega)
            have el : ¬ V1 (34 + 2 * j_1_) 0 = -1 ∧ V1 (34 + 2 * j_1_) 0 = z2 := by
              rw [h_4_] at c_5_
              split at c_5_
              · exact absurd c_5_ (by decide)
              · split at c_5_
                · exact ⟨by assumption, by assumption⟩
                · exact absurd c_5_ (by decide)
            have ec : clF (V1 (34 + 2 * j_1_) 0) z2 (decide (0 ≤ z1 ∧ z1 < V1 (34 + 2 * j_1_) 1)) = x_4_ := by
              unfold clF
              rw [if_neg el.1, if_pos el.2, if_pos (by simpa using b8), c_5_]
            have ea : x_10_ = V1 ((34 + 2 * j_1_) + 1) z1.toNatClampNeg := by
              rw [h_10_, eV3, up2_k _ _ (by omega), up2_k _ _ (by omega)]
              unfold atS
              rw [if_pos b8]
            refine ⟨?_, ?_⟩
            · simp only [if_pos hin1, hcl1, if_pos b3, ec]
              exact eV3
            · simp only [if_pos hin1, hcl1, if_pos b3, ec]
              rw [if_pos c_9_, ea]
        · skip
          have b8 := bI_0.mp (h_7_ ▸ c_8_)
          refine j_iconst (v := 3) C dX11_cell_50 (by decide) ?_
          refine j_istore (lv2 := [(5, .int (3)), (4, .ref (ad (34 + 2 * j_1_))), (0, .ref (ad (55))), (1, .int (z0)), (2, .int (z1)), (3, .int (z2))]) C dX11_cell_51 hl (by decide) rfl (fun ls hl => ?_)
          refine j_aload_n C dX11_cell_53 rfl (lv_at hl 2 rfl) ?_
          refine j_iload C dX11_cell_54 (lv_at hl 0 rfl) ?_
          refine j_putI (k := 55) C (f_RX11_66_11) p_11_9 (xl (by decide)) (rfl) dX11_cell_56 (fun V4 eV4 => ?_)
          refine j_iload C dX11_cell_59 (lv_at hl 0 rfl) ?_
          refine j_if_ne (tgt := 74) C dX11_cell_61 (by decide) (fun c_11_ => ?_) (fun c_11_ => ?_)
          · skip
            refine j_ldc2 C wj_RX11_222 dX11_cell_74 ?_
            refine j_lret C ⟨rfl, _, rfl, ?_⟩ dX11_cell_77
            simp only [← eV1]
            obtain ⟨hin1, hcl1⟩ := inz ej1 hj1 (by omega)
            have el : ¬ V1 (34 + 2 * j_1_) 0 = -1 ∧ V1 (34 + 2 * j_1_) 0 = z2 := by
              rw [h_4_] at c_5_
              split at c_5_
              · exact absurd c_5_ (by decide)
              · split at c_5_
                · exact ⟨by assumption, by assumption⟩
                · exact absurd c_5_ (by decide)
            have ec : clF (V1 (34 + 2 * j_1_) 0) z2 (decide (0 ≤ z1 ∧ z1 < V1 (34 + 2 * j_1_) 1)) = 3 := by
              unfold clF
              rw [if_neg el.1, if_pos el.2, if_neg (by simpa using b8)]
            refine ⟨?_, ?_⟩
            · simp only [if_pos hin1, hcl1, if_pos b3, ec]
              exact eV4
            · simp only [if_pos hin1, hcl1, if_pos b3, ec]
              rw [if_neg c_11_]
          · skip
            exact absurd c_11_ (by decide)
    · skip
      have b3 := bI_0.mp (h_2_ ▸ c_3_)
      refine j_ldc2 C wj_RX11_222 dX11_cell_24 ?_
      refine j_lret C ⟨rfl, _, rfl, ?_⟩ dX11_cell_27
      simp only [← eV1]
      obtain ⟨hin1, hcl1⟩ := inz ej1 hj1 (by omega)
      refine ⟨?_, ?_⟩ <;> simp only [if_pos hin1, hcl1, if_neg b3]
  · subst ev1
    refine j_astoreN (lv2 := [(4, .null), (0, .ref (ad (55))), (1, .int (z0)), (2, .int (z1)), (3, .int (z2))]) C dX11_cell_10 hl (by decide) rfl (fun ls hl => ?_)
    refine j_aloadN C dX11_cell_12 (lv_at hl 0 rfl) ?_
    refine j_ifnullN (tgt := 24) C dX11_cell_14 (by decide) ?_
    refine j_ldc2 C wj_RX11_222 dX11_cell_24 ?_
    refine j_lret C ⟨rfl, _, rfl, ?_⟩ dX11_cell_27
    simp only [← eV1]
    have hot1 := outR ho1
    refine ⟨?_, ?_⟩ <;> simp only [if_neg hot1]
