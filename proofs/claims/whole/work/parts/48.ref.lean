theorem MI_f {V : Vt} {ng : Nat} {rr : Nat → Nat} {nt c_0_ : Nat} {z : Int32} (h : MI V ng rr nt c_0_) : MI (up2 V 0 0 z) ng rr nt c_0_ := by
  obtain ⟨a, b, c, d, e, f, g, i, j⟩ := h
  refine ⟨by rw [up2_i _ _ (by decide)]; exact a, b, by rw [up2_i _ _ (by decide)]; exact c, d, fun q hq => ?_, by rw [up2_i _ _ (by decide)]; exact f, g, fun r hr => ?_, fun k hk => ?_⟩
  · rw [up2_k _ _ (by decide)]; exact e q hq
  · rw [up2_k _ _ (by decide), up2_k _ _ (by decide)]; exact i r hr
  · rw [up2_k _ _ (by decide)]; exact j k hk
def bgM (V : Vt) (z : Int32) : Vt := up2 V 0 1 (31 * V 0 1 + z)
def tlM (V : Vt) (k : Int32) : Vt := if k = 1 then bgM (bgM V 2) 1 else if k = 2 then bgM (bgM (bgM (bgM V 3) 2) 1) 1 else bgM V 1
def tlX (a k : Int32) : Int32 := if k = 1 then a + 100 else if k = 2 then 2 * a + 100 else a
theorem wl1 {z len : Int32} {n : Nat} (hn : len = nI n) (h_60_ : n ≤ 60) : (0 ≤ z ∧ z ≤ len - 1) ↔ (0 ≤ z ∧ z < len) := by
  subst hn
  cases n with
  | zero =>
    refine ⟨fun h => absurd (Int32.le_trans h.1 h.2) (by decide), fun h => absurd (Int32.lt_of_le_of_lt h.1 h.2) (by decide)⟩
  | succ m =>
    rw [nI_pred]
    refine ⟨fun h => ⟨h.1, Int32.lt_of_le_of_lt h.2 (nI_lt (by omega) (by omega))⟩, fun h => ⟨h.1, ?_⟩⟩
    have h_1_ := (Int32.lt_iff_toInt_lt).mp h.2
    rw [nI_toInt (by omega)] at h_1_
    rw [Int32.le_iff_toInt_le, nI_toInt (by omega)]
    omega
theorem in_n {z : Int32} {n : Nat} (h_60_ : n ≤ 60) (h : 0 ≤ z ∧ z < nI n) : ∃ i, i < n ∧ z = nI i := by
  rcases pk_ix z (n := n) (by omega) with q | q | ⟨j, q, e⟩
  · exact absurd q (Int32.not_lt.mpr h.1)
  · exact absurd h.2 (Int32.not_lt.mpr q)
  · exact ⟨j, q, e⟩
def rnM (V : Vt) (k : Nat) (z1 z2 : Int32) (i : Nat) : Vt := fun a j => if a = 1 ∧ j = k then z1 else if a = 2 ∧ j = k then z2 else if a = 3 ∧ 60 * k ≤ j ∧ j < 60 * k + i then 0 else V a j
theorem rnM_0 (V : Vt) (k : Nat) (z1 z2 : Int32) : rnM V k z1 z2 0 = up2 (up2 V 1 k z1) 2 k z2 := by
  funext a j
  unfold rnM up2
  by_cases h_2_ : a = 2 ∧ j = k
  · rw [if_neg (by omega), if_pos h_2_, if_pos h_2_]
  · by_cases h_1_ : a = 1 ∧ j = k
    · rw [if_pos h_1_, if_neg h_2_, if_pos h_1_]
    · rw [if_neg h_1_, if_neg h_2_, if_neg (by omega), if_neg h_2_, if_neg h_1_]
theorem rnM_s (V : Vt) (k : Nat) (z1 z2 : Int32) (i : Nat) : up2 (rnM V k z1 z2 i) 3 (60 * k + i) 0 = rnM V k z1 z2 (i + 1) := by
  funext a j
  unfold up2
  by_cases h : a = 3 ∧ j = 60 * k + i
  · rw [if_pos h]
    unfold rnM
    rw [if_neg (by omega), if_neg (by omega), if_pos (by omega)]
  · rw [if_neg h]
    unfold rnM
    have e : (a = 3 ∧ 60 * k ≤ j ∧ j < 60 * k + i) ↔ (a = 3 ∧ 60 * k ≤ j ∧ j < 60 * k + (i + 1)) := by omega
    simp only [e]
abbrev rm_X12_begins : Room := { frames := 0, cells := 0, slots := 0, locals := 0 }
set_option maxHeartbeats 4000000 in
set_option maxRecDepth 100000 in
theorem k_X12_begins (l : Launch) (ad : Nat → Nat) (V : Vt) (z0 : Int32)  : Ct l yX12_begins cX12_begins 2 none rm_X12_begins (mS ad) V [.ref (ad (0)), .int (z0)] (rU fun V2 => V2 = bgM V z0) := by
  refine Ct_of (by decide) (Nat.le_of_ble_eq_true rfl) ?_
  intro p e s m below meth c A D cy ls C hl
  have hl : lv_has ls 2 [(0, .ref (ad (0))), (1, .int (z0))] := hl
  refine j_aload_n C dX12_begins_0 rfl (lv_at hl 0 rfl) ?_
  refine j_bipush (v := 31) C dX12_begins_1 (by decide) ?_
  refine j_aload_n C dX12_begins_3 rfl (lv_at hl 0 rfl) ?_
  refine j_getI (k := 0) C (f_RX12_255_12) (ml (by decide)) (rfl) dX12_begins_4 ?_
  refine j_imul C dX12_begins_7 ?_
  refine j_iload_n C dX12_begins_8 rfl (lv_at hl 1 rfl) ?_
  refine j_iadd C dX12_begins_9 ?_
  refine j_putI (k := 0) C (f_RX12_255_12) p_12_1 (ml (by decide)) (rfl) dX12_begins_10 (fun V1 eV1 => ?_)
  refine j_vret C ⟨rfl, rfl, ?_⟩ dX12_begins_13
  exact eV1
abbrev rm_X12_tell : Room := { frames := 1, cells := 0, slots := 0, locals := 21 }
set_option maxHeartbeats 4000000 in
set_option maxRecDepth 100000 in
theorem k_X12_tell (l : Launch) (ad : Nat → Nat) (V : Vt) (z0 : Int32) (ng : Nat) (rr : Nat → Nat) (nt c_0_ : Nat) (hM : MI V ng rr nt c_0_)  : Ct l yX12_tell cX12_tell 3 (some .int) rm_X12_tell (mS ad) V [.ref (ad (0)), .int (z0)] (rI fun x V2 => (V2 = if ¬ z0 < 0 ∧ z0 < nI nt then tlM V (V 6 z0.toNatClampNeg) else V) ∧ x = if ¬ z0 < 0 ∧ z0 < nI nt then tlX (V 7 z0.toNatClampNeg) (V 6 z0.toNatClampNeg) else -1) := by
  refine Ct_of (by decide) (Nat.le_of_ble_eq_true rfl) ?_
  intro p e s m below meth c A D cy ls C hl
  have hl : lv_has ls 3 [(0, .ref (ad (0))), (1, .int (z0))] := hl
  have ng4 := hM.2.1
  have nt5 := hM.2.2.2.1
  refine j_aload_n C dX12_tell_0 rfl (lv_at hl 0 rfl) ?_
  refine j_iload_n C dX12_tell_1 rfl (lv_at hl 1 rfl) ?_
  refine j_callV (k := 0) C [.int (z0)] [] (k_X12_isThrower l ad V (z0)  nt hM.2.2.1 hM.2.2.2.1) v_RX12_170 (ml (by decide)) (rfl) rfl ⟨rfl, rfl, Nat.le_of_ble_eq_true rfl, Nat.le_of_ble_eq_true rfl⟩ rfl hl.1 rfl (Nat.le_of_ble_eq_true rfl) ⟨Nat.le_of_ble_eq_true rfl, Nat.le_of_ble_eq_true rfl⟩ dX12_tell_2 (kI fun x_1_ U1 h_1_ => ?_)
  obtain ⟨eU1, h_1_⟩ := h_1_
  have eU1 := eU1.symm
  subst eU1
  rcases h_1_ with ⟨j_1_, hj1, ej1, ex1⟩ | ⟨ho1, ex1⟩
  · subst ex1
    refine j_if_ne (tgt := 10) C dX12_tell_5 (by decide) (fun c_2_ => ?_) (fun c_2_ => ?_)
    · skip
      refine j_aload_n C dX12_tell_10 rfl (lv_at hl 0 rfl) ?_
      refine j_getR (k := 0) (k2 := 7) C (f_RX12_28_12) (ml (by decide)) (rfl) (rfl) dX12_tell_11 ?_
      refine j_iload_n C dX12_tell_14 rfl (lv_at hl 1 rfl) ?_
      refine j_ialdE (k := 7) (n := 5) (t := j_1_) C (ml (by decide)) (rfl) (rfl) (ej1) (by omega) (by decide) dX12_tell_15 ?_
      refine j_istore_n (lv2 := [(2, .int (V 7 j_1_)), (0, .ref (ad (0))), (1, .int (z0))]) C dX12_tell_16 rfl hl (by decide) rfl (fun ls hl => ?_)
      refine j_aload_n C dX12_tell_17 rfl (lv_at hl 1 rfl) ?_
      refine j_getR (k := 0) (k2 := 6) C (f_RX12_25_12) (ml (by decide)) (rfl) (rfl) dX12_tell_18 ?_
      refine j_iload_n C dX12_tell_21 rfl (lv_at hl 2 rfl) ?_
      refine j_ialdE (k := 6) (n := 5) (t := j_1_) C (ml (by decide)) (rfl) (rfl) (ej1) (by omega) (by decide) dX12_tell_22 ?_
      by_cases s_3_ : V 6 j_1_ = 1
      · refine j_lookup (off := 25) (tgt := 48) C dX12_tell_23 (by decide) (by rw [s_3_]; rfl) (by decide) ?_
        refine j_aload_n C dX12_tell_48 rfl (lv_at hl 1 rfl) ?_
        refine j_iconst (v := 2) C dX12_tell_49 (by decide) ?_
        refine j_callV (k := 0) C [.int (2)] [] (k_X12_begins l ad V (2)  ) v_RX12_258 (ml (by decide)) (rfl) rfl ⟨rfl, rfl, Nat.le_of_ble_eq_true rfl, Nat.le_of_ble_eq_true rfl⟩ rfl hl.1 rfl (Nat.le_of_ble_eq_true rfl) ⟨Nat.le_of_ble_eq_true rfl, Nat.le_of_ble_eq_true rfl⟩ dX12_tell_50 (kU fun U4 h_4_ => ?_)
        refine j_aload_n C dX12_tell_53 rfl (lv_at hl 1 rfl) ?_
        refine j_iconst (v := 1) C dX12_tell_54 (by decide) ?_
        refine j_callV (k := 0) C [.int (1)] [] (k_X12_begins l ad U4 (1)  ) v_RX12_258 (ml (by decide)) (rfl) rfl ⟨rfl, rfl, Nat.le_of_ble_eq_true rfl, Nat.le_of_ble_eq_true rfl⟩ rfl hl.1 rfl (Nat.le_of_ble_eq_true rfl) ⟨Nat.le_of_ble_eq_true rfl, Nat.le_of_ble_eq_true rfl⟩ dX12_tell_55 (kU fun U5 h_5_ => ?_)
        refine j_iload_n C dX12_tell_58 rfl (lv_at hl 0 rfl) ?_
        refine j_bipush (v := 100) C dX12_tell_59 (by decide) ?_
        refine j_iadd C dX12_tell_61 ?_
        refine j_iret C ⟨rfl, _, rfl, ?_⟩ dX12_tell_62
        obtain ⟨hin1, hcl1⟩ := inz ej1 hj1 (by omega)
        refine ⟨?_, ?_⟩
        · rw [if_pos hin1, hcl1]
          unfold tlM
          rw [if_pos s_3_, h_5_, h_4_]
        · rw [if_pos hin1, hcl1]
          unfold tlX
          rw [if_pos s_3_]
      · skip
        by_cases s_6_ : V 6 j_1_ = 2
        · refine j_lookup (off := 40) (tgt := 63) C dX12_tell_23 (by decide) (by rw [s_6_]; rfl) (by decide) ?_
          refine j_aload_n C dX12_tell_63 rfl (lv_at hl 1 rfl) ?_
          refine j_iconst (v := 3) C dX12_tell_64 (by decide) ?_
          refine j_callV (k := 0) C [.int (3)] [] (k_X12_begins l ad V (3)  ) v_RX12_258 (ml (by decide)) (rfl) rfl ⟨rfl, rfl, Nat.le_of_ble_eq_true rfl, Nat.le_of_ble_eq_true rfl⟩ rfl hl.1 rfl (Nat.le_of_ble_eq_true rfl) ⟨Nat.le_of_ble_eq_true rfl, Nat.le_of_ble_eq_true rfl⟩ dX12_tell_65 (kU fun U7 h_7_ => ?_)
          refine j_aload_n C dX12_tell_68 rfl (lv_at hl 1 rfl) ?_
          refine j_iconst (v := 2) C dX12_tell_69 (by decide) ?_
          refine j_callV (k := 0) C [.int (2)] [] (k_X12_begins l ad U7 (2)  ) v_RX12_258 (ml (by decide)) (rfl) rfl ⟨rfl, rfl, Nat.le_of_ble_eq_true rfl, Nat.le_of_ble_eq_true rfl⟩ rfl hl.1 rfl (Nat.le_of_ble_eq_true rfl) ⟨Nat.le_of_ble_eq_true rfl, Nat.le_of_ble_eq_true rfl⟩ dX12_tell_70 (kU fun U8 h_8_ => ?_)
          refine j_aload_n C dX12_tell_73 rfl (lv_at hl 1 rfl) ?_
          refine j_iconst (v := 1) C dX12_tell_74 (by decide) ?_
          refine j_callV (k := 0) C [.int (1)] [] (k_X12_begins l ad U8 (1)  ) v_RX12_258 (ml (by decide)) (rfl) rfl ⟨rfl, rfl, Nat.le_of_ble_eq_true rfl, Nat.le_of_ble_eq_true rfl⟩ rfl hl.1 rfl (Nat.le_of_ble_eq_true rfl) ⟨Nat.le_of_ble_eq_true rfl, Nat.le_of_ble_eq_true rfl⟩ dX12_tell_75 (kU fun U9 h_9_ => ?_)
          refine j_aload_n C dX12_tell_78 rfl (lv_at hl 1 rfl) ?_
          refine j_iconst (v := 1) C dX12_tell_79 (by decide) ?_
          refine j_callV (k := 0) C [.int (1)] [] (k_X12_begins l ad U9 (1)  ) v_RX12_258 (ml (by decide)) (rfl) rfl ⟨rfl, rfl, Nat.le_of_ble_eq_true rfl, Nat.le_of_ble_eq_true rfl⟩ rfl hl.1 rfl (Nat.le_of_ble_eq_true rfl) ⟨Nat.le_of_ble_eq_true rfl, Nat.le_of_ble_eq_true rfl⟩ dX12_tell_80 (kU fun U10 h_10_ => ?_)
          refine j_iconst (v := 2) C dX12_tell_83 (by decide) ?_
          refine j_iload_n C dX12_tell_84 rfl (lv_at hl 0 rfl) ?_
          refine j_imul C dX12_tell_85 ?_
          refine j_bipush (v := 100) C dX12_tell_86 (by decide) ?_
          refine j_iadd C dX12_tell_88 ?_
          refine j_iret C ⟨rfl, _, rfl, ?_⟩ dX12_tell_89
          obtain ⟨hin1, hcl1⟩ := inz ej1 hj1 (by omega)
          refine ⟨?_, ?_⟩
          · rw [if_pos hin1, hcl1]
            unfold tlM
            rw [if_neg s_3_, if_pos s_6_, h_10_, h_9_, h_8_, h_7_]
          · rw [if_pos hin1, hcl1]
            unfold tlX
            rw [if_neg s_3_, if_pos s_6_]
        · skip
          refine j_lookup (off := 67) (tgt := 90) C dX12_tell_23 (by decide) (by simp only []; rw [Op.lookupswitch.offset_cons, if_neg (show ¬ (1 : Int) = (V 6 j_1_).toInt from ne_toInt s_3_), Op.lookupswitch.offset_cons, if_neg (show ¬ (2 : Int) = (V 6 j_1_).toInt from ne_toInt s_6_), Op.lookupswitch.offset_nil]) (by decide) ?_
          refine j_aload_n C dX12_tell_90 rfl (lv_at hl 1 rfl) ?_
          refine j_iconst (v := 1) C dX12_tell_91 (by decide) ?_
          refine j_callV (k := 0) C [.int (1)] [] (k_X12_begins l ad V (1)  ) v_RX12_258 (ml (by decide)) (rfl) rfl ⟨rfl, rfl, Nat.le_of_ble_eq_true rfl, Nat.le_of_ble_eq_true rfl⟩ rfl hl.1 rfl (Nat.le_of_ble_eq_true rfl) ⟨Nat.le_of_ble_eq_true rfl, Nat.le_of_ble_eq_true rfl⟩ dX12_tell_92 (kU fun U11 h_11_ => ?_)
          refine j_iload_n C dX12_tell_95 rfl (lv_at hl 0 rfl) ?_
          refine j_iret C ⟨rfl, _, rfl, ?_⟩ dX12_tell_96
          obtain ⟨hin1, hcl1⟩ := inz ej1 hj1 (by omega)
          refine ⟨?_, ?_⟩
          · rw [if_pos hin1, hcl1]
            unfold tlM
            rw [if_neg s_3_, if_neg s_6_, h_11_]
          · rw [if_pos hin1, hcl1]
            unfold tlX
            rw [if_neg s_3_, if_neg s_6_]
    · exact absurd c_2_ (by decide)
  · subst ex1
    refine j_if_ne (tgt := 10) C dX12_tell_5 (by decide) (fun c_12_ => ?_) (fun c_12_ => ?_)
    · exact absurd rfl c_12_
    · skip
      refine j_iconst (v := (-1)) C dX12_tell_8 (by decide) ?_
      refine j_iret C ⟨rfl, _, rfl, ?_⟩ dX12_tell_9
      have hot1 := outR ho1
      refine ⟨?_, ?_⟩ <;> rw [if_neg hot1]
abbrev rm_X12_cheer : Room := { frames := 1, cells := 0, slots := 0, locals := 21 }
set_option maxHeartbeats 4000000 in
set_option maxRecDepth 100000 in
theorem k_X12_cheer (l : Launch) (ad : Nat → Nat) (V : Vt) (z0 : Int32) (ng : Nat) (rr : Nat → Nat) (nt c_0_ : Nat) (hM : MI V ng rr nt c_0_)  : Ct l yX12_cheer cX12_cheer 2 (some .int) rm_X12_cheer (mS ad) V [.ref (ad (0)), .int (z0)] (rI fun x V2 => (V2 = if ¬ z0 < 0 ∧ z0 < nI nt then (if V 6 z0.toNatClampNeg = 2 then bgM V 5 else bgM V 4) else V) ∧ x = if ¬ z0 < 0 ∧ z0 < nI nt then (if V 6 z0.toNatClampNeg = 2 then 50 else z0) else -1) := by
  refine Ct_of (by decide) (Nat.le_of_ble_eq_true rfl) ?_
  intro p e s m below meth c A D cy ls C hl
  have hl : lv_has ls 2 [(0, .ref (ad (0))), (1, .int (z0))] := hl
  have ng4 := hM.2.1
  have nt5 := hM.2.2.2.1
  refine j_aload_n C dX12_cheer_0 rfl (lv_at hl 0 rfl) ?_
  refine j_iload_n C dX12_cheer_1 rfl (lv_at hl 1 rfl) ?_
  refine j_callV (k := 0) C [.int (z0)] [] (k_X12_isThrower l ad V (z0)  nt hM.2.2.1 hM.2.2.2.1) v_RX12_170 (ml (by decide)) (rfl) rfl ⟨rfl, rfl, Nat.le_of_ble_eq_true rfl, Nat.le_of_ble_eq_true rfl⟩ rfl hl.1 rfl (Nat.le_of_ble_eq_true rfl) ⟨Nat.le_of_ble_eq_true rfl, Nat.le_of_ble_eq_true rfl⟩ dX12_cheer_2 (kI fun x_1_ U1 h_1_ => ?_)
  obtain ⟨eU1, h_1_⟩ := h_1_
  have eU1 := eU1.symm
  subst eU1
  rcases h_1_ with ⟨j_1_, hj1, ej1, ex1⟩ | ⟨ho1, ex1⟩
  · subst ex1
    refine j_if_ne (tgt := 10) C dX12_cheer_5 (by decide) (fun c_2_ => ?_) (fun c_2_ => ?_)
    · skip
      refine j_aload_n C dX12_cheer_10 rfl (lv_at hl 0 rfl) ?_
      refine j_aload_n C dX12_cheer_11 rfl (lv_at hl 0 rfl) ?_
      refine j_getR (k := 0) (k2 := 6) C (f_RX12_25_12) (ml (by decide)) (rfl) (rfl) dX12_cheer_12 ?_
      refine j_iload_n C dX12_cheer_15 rfl (lv_at hl 1 rfl) ?_
      refine j_ialdE (k := 6) (n := 5) (t := j_1_) C (ml (by decide)) (rfl) (rfl) (ej1) (by omega) (by decide) dX12_cheer_16 ?_
      refine j_iconst (v := 2) C dX12_cheer_17 (by decide) ?_
      refine j_icmp_ne (tgt := 25) C dX12_cheer_18 (by decide) (fun c_3_ => ?_) (fun c_3_ => ?_)
      · skip
        refine j_iconst (v := 4) C dX12_cheer_25 (by decide) ?_
        refine j_callV (k := 0) C [.int (4)] [] (k_X12_begins l ad V (4)  ) v_RX12_258 (ml (by decide)) (rfl) rfl ⟨rfl, rfl, Nat.le_of_ble_eq_true rfl, Nat.le_of_ble_eq_true rfl⟩ rfl hl.1 rfl (Nat.le_of_ble_eq_true rfl) ⟨Nat.le_of_ble_eq_true rfl, Nat.le_of_ble_eq_true rfl⟩ dX12_cheer_26 (kU fun U4 h_4_ => ?_)
        refine j_aload_n C dX12_cheer_29 rfl (lv_at hl 0 rfl) ?_
        refine j_getR (k := 0) (k2 := 6) C (f_RX12_25_12) (ml (by decide)) (rfl) (rfl) dX12_cheer_30 ?_
        refine j_iload_n C dX12_cheer_33 rfl (lv_at hl 1 rfl) ?_
        refine j_ialdE (k := 6) (n := 5) (t := j_1_) C (ml (by decide)) (rfl) (rfl) (ej1) (by omega) (by decide) dX12_cheer_34 ?_
        refine j_iconst (v := 2) C dX12_cheer_35 (by decide) ?_
        refine j_icmp_ne (tgt := 44) C dX12_cheer_36 (by decide) (fun c_5_ => ?_) (fun c_5_ => ?_)
        · skip
          have e9 : U4 6 j_1_ = V 6 j_1_ := by rw [h_4_]; exact congrFun (up2_k _ _ (by decide)) j_1_
          rw [e9] at c_5_
          refine j_iload_n C dX12_cheer_44 rfl (lv_at hl 1 rfl) ?_
          refine j_iret C ⟨rfl, _, rfl, ?_⟩ dX12_cheer_45
          obtain ⟨hin1, hcl1⟩ := inz ej1 hj1 (by omega)
          refine ⟨?_, ?_⟩
          · rw [if_pos hin1, hcl1, if_neg c_3_, h_4_]
          · rw [if_pos hin1, hcl1, if_neg c_3_]
        · skip
          have e9 : U4 6 j_1_ = V 6 j_1_ := by rw [h_4_]; exact congrFun (up2_k _ _ (by decide)) j_1_
          rw [e9] at c_5_
          exact absurd c_5_ c_3_
      · skip
        refine j_iconst (v := 5) C dX12_cheer_21 (by decide) ?_
        refine j_goto (tgt := 26) C dX12_cheer_22 (by decide) ?_
        refine j_callV (k := 0) C [.int (5)] [] (k_X12_begins l ad V (5)  ) v_RX12_258 (ml (by decide)) (rfl) rfl ⟨rfl, rfl, Nat.le_of_ble_eq_true rfl, Nat.le_of_ble_eq_true rfl⟩ rfl hl.1 rfl (Nat.le_of_ble_eq_true rfl) ⟨Nat.le_of_ble_eq_true rfl, Nat.le_of_ble_eq_true rfl⟩ dX12_cheer_26 (kU fun U6 h_6_ => ?_)
        refine j_aload_n C dX12_cheer_29 rfl (lv_at hl 0 rfl) ?_
        refine j_getR (k := 0) (k2 := 6) C (f_RX12_25_12) (ml (by decide)) (rfl) (rfl) dX12_cheer_30 ?_
        refine j_iload_n C dX12_cheer_33 rfl (lv_at hl 1 rfl) ?_
        refine j_ialdE (k := 6) (n := 5) (t := j_1_) C (ml (by decide)) (rfl) (rfl) (ej1) (by omega) (by decide) dX12_cheer_34 ?_
        refine j_iconst (v := 2) C dX12_cheer_35 (by decide) ?_
        refine j_icmp_ne (tgt := 44) C dX12_cheer_36 (by decide) (fun c_7_ => ?_) (fun c_7_ => ?_)
        · skip
          have e9 : U6 6 j_1_ = V 6 j_1_ := by rw [h_6_]; exact congrFun (up2_k _ _ (by decide)) j_1_
          rw [e9] at c_7_
          exact absurd c_3_ c_7_
        · skip
          have e9 : U6 6 j_1_ = V 6 j_1_ := by rw [h_6_]; exact congrFun (up2_k _ _ (by decide)) j_1_
          rw [e9] at c_7_
          refine j_bipush (v := 50) C dX12_cheer_39 (by decide) ?_
          refine j_goto (tgt := 45) C dX12_cheer_41 (by decide) ?_
          refine j_iret C ⟨rfl, _, rfl, ?_⟩ dX12_cheer_45
          obtain ⟨hin1, hcl1⟩ := inz ej1 hj1 (by omega)
          refine ⟨?_, ?_⟩
          · rw [if_pos hin1, hcl1, if_pos c_3_, h_6_]
          · rw [if_pos hin1, hcl1, if_pos c_3_]
    · exact absurd c_2_ (by decide)
  · subst ex1
    refine j_if_ne (tgt := 10) C dX12_cheer_5 (by decide) (fun c_8_ => ?_) (fun c_8_ => ?_)
    · exact absurd rfl c_8_
    · skip
      refine j_iconst (v := (-1)) C dX12_cheer_8 (by decide) ?_
      refine j_iret C ⟨rfl, _, rfl, ?_⟩ dX12_cheer_9
      have hot1 := outR ho1
      refine ⟨?_, ?_⟩ <;> rw [if_neg hot1]
abbrev rm_X12_as : Room := { frames := 1, cells := 0, slots := 0, locals := 22 }
set_option maxHeartbeats 4000000 in
set_option maxRecDepth 100000 in
theorem k_X12_as (l : Launch) (ad : Nat → Nat) (V : Vt) (z0 z1 : Int32) (ng : Nat) (rr : Nat → Nat) (nt c_0_ : Nat) (hM : MI V ng rr nt c_0_)  : Ct l yX12_as cX12_as 3 (some .int) rm_X12_as (mS ad) V [.ref (ad (0)), .int (z0), .int (z1)] (rI fun x V2 => (V2 = if ¬ z0 < 0 ∧ z0 < nI nt then (if 0 ≤ z1 ∧ z1 ≤ 2 then (if z1 ≤ (up2 V 0 0 0) 6 z0.toNatClampNeg then (up2 V 0 0 0) else up2 (up2 V 0 0 0) 0 0 2) else (up2 V 0 0 0)) else (up2 V 0 0 0)) ∧ x = if ¬ z0 < 0 ∧ z0 < nI nt then (if 0 ≤ z1 ∧ z1 ≤ 2 then (if z1 ≤ (up2 V 0 0 0) 6 z0.toNatClampNeg then 1 else -12) else -2) else -1) := by
  refine Ct_of (by decide) (Nat.le_of_ble_eq_true rfl) ?_
  intro p e s m below meth c A D cy ls C hl
  have hl : lv_has ls 3 [(0, .ref (ad (0))), (1, .int (z0)), (2, .int (z1))] := hl
  have ng4 := hM.2.1
  have nt5 := hM.2.2.2.1
  refine j_aload_n C dX12_as_0 rfl (lv_at hl 0 rfl) ?_
  refine j_iconst (v := 0) C dX12_as_1 (by decide) ?_
  refine j_putI (k := 0) C (f_RX12_79_12) p_12_0 (ml (by decide)) (rfl) dX12_as_2 (fun V1 eV1 => ?_)
  have hM1 : MI V1 ng rr nt c_0_ := by rw [eV1]; exact MI_f hM
  refine j_aload_n C dX12_as_5 rfl (lv_at hl 0 rfl) ?_
  refine j_iload_n C dX12_as_6 rfl (lv_at hl 1 rfl) ?_
  refine j_callV (k := 0) C [.int (z0)] [] (k_X12_isThrower l ad V1 (z0)  nt hM1.2.2.1 hM1.2.2.2.1) v_RX12_170 (ml (by decide)) (rfl) rfl ⟨rfl, rfl, Nat.le_of_ble_eq_true rfl, Nat.le_of_ble_eq_true rfl⟩ rfl hl.1 rfl (Nat.le_of_ble_eq_true rfl) ⟨Nat.le_of_ble_eq_true rfl, Nat.le_of_ble_eq_true rfl⟩ dX12_as_7 (kI fun x_1_ U1 h_1_ => ?_)
  obtain ⟨eU1, h_1_⟩ := h_1_
  have eU1 := eU1.symm
  subst eU1
  rcases h_1_ with ⟨j_1_, hj1, ej1, ex1⟩ | ⟨ho1, ex1⟩
  · subst ex1
    refine j_if_ne (tgt := 15) C dX12_as_10 (by decide) (fun c_2_ => ?_) (fun c_2_ => ?_)
    · skip
      refine j_iload_n C dX12_as_15 rfl (lv_at hl 2 rfl) ?_
      refine j_iconst (v := 0) C dX12_as_16 (by decide) ?_
      refine j_iconst (v := 2) C dX12_as_17 (by decide) ?_
      refine j_callS C [.int (z1), .int (0), .int (2)] [] (k_X12_within l (mS ad) V1 (z1) (0) (2)  ) v_RX12_85 ⟨rfl, rfl, Nat.le_of_ble_eq_true rfl, Nat.le_of_ble_eq_true rfl⟩ rfl hl.1 rfl (Nat.le_of_ble_eq_true rfl) ⟨Nat.le_of_ble_eq_true rfl, Nat.le_of_ble_eq_true rfl⟩ dX12_as_18 (kI fun x_3_ U3 h_3_ => ?_)
      obtain ⟨eU3, h_3_⟩ := h_3_
      have eU3 := eU3.symm
      subst eU3
      refine j_if_ne (tgt := 27) C dX12_as_21 (by decide) (fun c_4_ => ?_) (fun c_4_ => ?_)
      · skip
        have b4 := Decidable.not_not.mp (mt bI_0.mpr (h_3_ ▸ c_4_))
        refine j_aload_n C dX12_as_27 rfl (lv_at hl 0 rfl) ?_
        refine j_getR (k := 0) (k2 := 6) C (f_RX12_25_12) (ml (by decide)) (rfl) (rfl) dX12_as_28 ?_
        refine j_iload_n C dX12_as_31 rfl (lv_at hl 1 rfl) ?_
        refine j_ialdE (k := 6) (n := 5) (t := j_1_) C (ml (by decide)) (rfl) (rfl) (ej1) (by omega) (by decide) dX12_as_32 ?_
        refine j_iload_n C dX12_as_33 rfl (lv_at hl 2 rfl) ?_
        refine j_icmp_lt (tgt := 41) C dX12_as_34 (by decide) (fun c_5_ => ?_) (fun c_5_ => ?_)
        · have n_5_ := Int32.not_le.mpr c_5_
          refine j_aload_n C dX12_as_41 rfl (lv_at hl 0 rfl) ?_
          refine j_iconst (v := 2) C dX12_as_42 (by decide) ?_
          refine j_callV (k := 0) C [.int (2)] [] (k_X12_fails l ad V1 (2)  ) v_RX12_113 (ml (by decide)) (rfl) rfl ⟨rfl, rfl, Nat.le_of_ble_eq_true rfl, Nat.le_of_ble_eq_true rfl⟩ rfl hl.1 rfl (Nat.le_of_ble_eq_true rfl) ⟨Nat.le_of_ble_eq_true rfl, Nat.le_of_ble_eq_true rfl⟩ dX12_as_43 (kI fun x_6_ U6 h_6_ => ?_)
          obtain ⟨eU6, h_6_⟩ := h_6_
          refine j_iret C ⟨rfl, _, rfl, ?_⟩ dX12_as_46
          simp only [← eV1]
          obtain ⟨hin1, hcl1⟩ := inz ej1 hj1 (by omega)
          refine ⟨?_, ?_⟩
          · first | (simp only [if_pos hin1, hcl1, if_pos b4, if_neg (Int32.not_le.mpr c_5_)]; done) | (simp only [if_pos hin1, hcl1, if_pos b4, if_neg (Int32.not_le.mpr c_5_)]; exact eV1) | (simp only [if_pos hin1, hcl1, if_pos b4, if_neg (Int32.not_le.mpr c_5_)]; rw [eV1]; done) | (simp only [if_pos hin1, hcl1, if_pos b4, if_neg (Int32.not_le.mpr c_5_)]; exact eU6) | (simp only [if_pos hin1, hcl1, if_pos b4, if_neg (Int32.not_le.mpr c_5_)]; rw [eU6]; done) | (simp only [if_pos hin1, hcl1, if_pos b4, if_neg (Int32.not_le.mpr c_5_)]; exact h_6_) | (simp only [if_pos hin1, hcl1, if_pos b4, if_neg (Int32.not_le.mpr c_5_)]; rw [h_6_]; done) | (simp only [if_pos hin1, hcl1, if_pos b4, if_neg (Int32.not_le.mpr c_5_)]; rfl)
          · first | (simp only [if_pos hin1, hcl1, if_pos b4, if_neg (Int32.not_le.mpr c_5_)]; done) | (simp only [if_pos hin1, hcl1, if_pos b4, if_neg (Int32.not_le.mpr c_5_)]; exact h_3_) | (simp only [if_pos hin1, hcl1, if_pos b4, if_neg (Int32.not_le.mpr c_5_)]; rw [h_3_]; done) | (simp only [if_pos hin1, hcl1, if_pos b4, if_neg (Int32.not_le.mpr c_5_)]; exact h_6_) | (simp only [if_pos hin1, hcl1, if_pos b4, if_neg (Int32.not_le.mpr c_5_)]; rw [h_6_]; done) | (simp only [if_pos hin1, hcl1, if_pos b4, if_neg (Int32.not_le.mpr c_5_)]; rfl)
        · have n_5_ := Int32.not_lt.mp c_5_
          refine j_iconst (v := 1) C dX12_as_37 (by decide) ?_
          refine j_goto (tgt := 46) C dX12_as_38 (by decide) ?_
          refine j_iret C ⟨rfl, _, rfl, ?_⟩ dX12_as_46
          simp only [← eV1]
          obtain ⟨hin1, hcl1⟩ := inz ej1 hj1 (by omega)
          refine ⟨?_, ?_⟩
          · first | (simp only [if_pos hin1, hcl1, if_pos b4, if_pos (Int32.not_lt.mp c_5_)]; done) | (simp only [if_pos hin1, hcl1, if_pos b4, if_pos (Int32.not_lt.mp c_5_)]; exact eV1) | (simp only [if_pos hin1, hcl1, if_pos b4, if_pos (Int32.not_lt.mp c_5_)]; rw [eV1]; done) | (simp only [if_pos hin1, hcl1, if_pos b4, if_pos (Int32.not_lt.mp c_5_)]; exact h_3_) | (simp only [if_pos hin1, hcl1, if_pos b4, if_pos (Int32.not_lt.mp c_5_)]; rw [h_3_]; done) | (simp only [if_pos hin1, hcl1, if_pos b4, if_pos (Int32.not_lt.mp c_5_)]; rfl)
          · first | (simp only [if_pos hin1, hcl1, if_pos b4, if_pos (Int32.not_lt.mp c_5_)]; done) | (simp only [if_pos hin1, hcl1, if_pos b4, if_pos (Int32.not_lt.mp c_5_)]; exact h_3_) | (simp only [if_pos hin1, hcl1, if_pos b4, if_pos (Int32.not_lt.mp c_5_)]; rw [h_3_]; done) | (simp only [if_pos hin1, hcl1, if_pos b4, if_pos (Int32.not_lt.mp c_5_)]; rfl)
      · skip
        have b4 := bI_0.mp (h_3_ ▸ c_4_)
        refine j_bipush (v := (-2)) C dX12_as_24 (by decide) ?_
        refine j_iret C ⟨rfl, _, rfl, ?_⟩ dX12_as_26
        simp only [← eV1]
        obtain ⟨hin1, hcl1⟩ := inz ej1 hj1 (by omega)
        refine ⟨?_, ?_⟩
        · first | (simp only [if_pos hin1, hcl1, if_neg b4]; done) | (simp only [if_pos hin1, hcl1, if_neg b4]; exact eV1) | (simp only [if_pos hin1, hcl1, if_neg b4]; rw [eV1]; done) | (simp only [if_pos hin1, hcl1, if_neg b4]; exact h_3_) | (simp only [if_pos hin1, hcl1, if_neg b4]; rw [h_3_]; done) | (simp only [if_pos hin1, hcl1, if_neg b4]; rfl)
        · first | (simp only [if_pos hin1, hcl1, if_neg b4]; done) | (simp only [if_pos hin1, hcl1, if_neg b4]; exact h_3_) | (simp only [if_pos hin1, hcl1, if_neg b4]; rw [h_3_]; done) | (simp only [if_pos hin1, hcl1, if_neg b4]; rfl)
    · exact absurd c_2_ (by decide)
  · subst ex1
    refine j_if_ne (tgt := 15) C dX12_as_10 (by decide) (fun c_7_ => ?_) (fun c_7_ => ?_)
    · exact absurd rfl c_7_
    · skip
      refine j_iconst (v := (-1)) C dX12_as_13 (by decide) ?_
      refine j_iret C ⟨rfl, _, rfl, ?_⟩ dX12_as_14
      simp only [← eV1]
      have hot1 := outR ho1
      refine ⟨?_, ?_⟩
      · first | (simp only [if_neg hot1]; done) | (simp only [if_neg hot1]; exact eV1) | (simp only [if_neg hot1]; rw [eV1]; done) | (simp only [if_neg hot1]; rfl)
      · first | (simp only [if_neg hot1]; done) | (simp only [if_neg hot1]; rfl)
abbrev rm_X12_trace : Room := { frames := 0, cells := 0, slots := 0, locals := 0 }
set_option maxHeartbeats 4000000 in
set_option maxRecDepth 100000 in
theorem k_X12_trace (l : Launch) (ad : Nat → Nat) (V : Vt)  : Ct l yX12_trace cX12_trace 1 (some .int) rm_X12_trace (mS ad) V [.ref (ad (0))] (rI fun x V2 => V2 = V ∧ x = V 0 1) := by
  refine Ct_of (by decide) (Nat.le_of_ble_eq_true rfl) ?_
  intro p e s m below meth c A D cy ls C hl
  have hl : lv_has ls 1 [(0, .ref (ad (0)))] := hl
  refine j_aload_n C dX12_trace_0 rfl (lv_at hl 0 rfl) ?_
  refine j_getI (k := 0) C (f_RX12_255_12) (ml (by decide)) (rfl) dX12_trace_1 ?_
  refine j_iret C ⟨rfl, _, rfl, ?_⟩ dX12_trace_4
  exact ⟨rfl, rfl⟩
abbrev rm_X12_fault : Room := { frames := 0, cells := 0, slots := 0, locals := 0 }
set_option maxHeartbeats 4000000 in
set_option maxRecDepth 100000 in
theorem k_X12_fault (l : Launch) (ad : Nat → Nat) (V : Vt)  : Ct l yX12_fault cX12_fault 1 (some .int) rm_X12_fault (mS ad) V [.ref (ad (0))] (rI fun x V2 => V2 = V ∧ x = V 0 0) := by
  refine Ct_of (by decide) (Nat.le_of_ble_eq_true rfl) ?_
  intro p e s m below meth c A D cy ls C hl
  have hl : lv_has ls 1 [(0, .ref (ad (0)))] := hl
  refine j_aload_n C dX12_fault_0 rfl (lv_at hl 0 rfl) ?_
  refine j_getI (k := 0) C (f_RX12_79_12) (ml (by decide)) (rfl) dX12_fault_1 ?_
  refine j_iret C ⟨rfl, _, rfl, ?_⟩ dX12_fault_4
  exact ⟨rfl, rfl⟩
abbrev rm_X12_many : Room := { frames := 0, cells := 0, slots := 0, locals := 0 }
set_option maxHeartbeats 4000000 in
set_option maxRecDepth 100000 in
theorem k_X12_many (l : Launch) (ad : Nat → Nat) (V : Vt) (z0 : Int32) (ng : Nat) (rr : Nat → Nat) (nt c_0_ : Nat) (hM : MI V ng rr nt c_0_)  : Ct l yX12_many cX12_many 4 (some .int) rm_X12_many (mS ad) V [.ref (ad (0)), .int (z0)] (rI fun x V2 => V2 = V ∧ x = if z0 = 0 then V 0 6 else if z0 = 1 then V 0 7 else if z0 = 2 then V 0 5 else if z0 = 3 then nI (sumN rr ng) else if z0 = 4 then V 0 34 else -2) := by
  refine Ct_of (by decide) (Nat.le_of_ble_eq_true rfl) ?_
  intro p e s m below meth c A D cy ls C hl
  have hl : lv_has ls 4 [(0, .ref (ad (0))), (1, .int (z0))] := hl
  have ng4 := hM.2.1
  have nt5 := hM.2.2.2.1
  refine j_iload_n C dX12_many_0 rfl (lv_at hl 1 rfl) ?_
  rcases sw_in (z0) 5 (by decide) with ⟨js1, hjs1, s_1_⟩ | s_1_
  · rcases (show js1 = 0 ∨ js1 = 1 ∨ js1 = 2 ∨ js1 = 3 ∨ js1 = 4 by omega) with rfl | rfl | rfl | rfl | rfl
    · refine j_tableIn (off := 35) (tgt := 36) C dX12_many_1 (by rw [s_1_]; decide) (by rw [s_1_]; decide) (by rw [s_1_]; rfl) (by decide) ?_
      refine j_aload_n C dX12_many_36 rfl (lv_at hl 0 rfl) ?_
      refine j_getI (k := 0) C (f_RX12_89_12) (ml (by decide)) (rfl) dX12_many_37 ?_
      refine j_iret C ⟨rfl, _, rfl, ?_⟩ dX12_many_40
      refine ⟨rfl, ?_⟩
      rw [if_pos (show z0 = 0 from s_1_)]
    · refine j_tableIn (off := 40) (tgt := 41) C dX12_many_1 (by rw [s_1_]; decide) (by rw [s_1_]; decide) (by rw [s_1_]; rfl) (by decide) ?_
      refine j_aload_n C dX12_many_41 rfl (lv_at hl 0 rfl) ?_
      refine j_getI (k := 0) C (f_RX12_92_12) (ml (by decide)) (rfl) dX12_many_42 ?_
      refine j_iret C ⟨rfl, _, rfl, ?_⟩ dX12_many_45
      refine ⟨rfl, ?_⟩
      rw [if_neg (fun q => by rw [q] at s_1_; revert s_1_; decide)]
      rw [if_pos (show z0 = 1 from s_1_)]
    · refine j_tableIn (off := 45) (tgt := 46) C dX12_many_1 (by rw [s_1_]; decide) (by rw [s_1_]; decide) (by rw [s_1_]; rfl) (by decide) ?_
      refine j_aload_n C dX12_many_46 rfl (lv_at hl 0 rfl) ?_
      refine j_getI (k := 0) C (f_RX12_126_12) (ml (by decide)) (rfl) dX12_many_47 ?_
      refine j_iret C ⟨rfl, _, rfl, ?_⟩ dX12_many_50
      refine ⟨rfl, ?_⟩
      rw [if_neg (fun q => by rw [q] at s_1_; revert s_1_; decide)]
      rw [if_neg (fun q => by rw [q] at s_1_; revert s_1_; decide)]
      rw [if_pos (show z0 = 2 from s_1_)]
    · refine j_tableIn (off := 50) (tgt := 51) C dX12_many_1 (by rw [s_1_]; decide) (by rw [s_1_]; decide) (by rw [s_1_]; rfl) (by decide) ?_
      refine j_iconst (v := 0) C dX12_many_51 (by decide) ?_
      refine j_istore_n (lv2 := [(2, .int (0)), (0, .ref (ad (0))), (1, .int (z0))]) C dX12_many_52 rfl hl (by decide) rfl (fun ls hl => ?_)
      refine j_iconst (v := 0) C dX12_many_53 (by decide) ?_
      refine j_istore_n (lv2 := [(3, .int (0)), (2, .int (0)), (0, .ref (ad (0))), (1, .int (z0))]) C dX12_many_54 rfl hl (by decide) rfl (fun ls hl => ?_)
      have loop : ∀ (n_9_ : Nat) (g : Nat) (b : Int32), g ≤ ng → b = nI (sumN rr g) → ng - g < n_9_ → ∀ (ls : Array Slot), lv_has ls 4 [(0, .ref (ad (0))), (2, .int (b)), (3, .int (nI g))] → J p l e rm_X12_many s m [.ref (ad (0)), .int (z0)].toArray below meth c A D cy 0 0 (MQ below (gPost D cy A (fun o9 σ2 V2 => σ2 = mS ad ∧ (rI fun x V2 => V2 = V ∧ x = if z0 = 0 then V 0 6 else if z0 = 1 then V 0 7 else if z0 = 2 then V 0 5 else if z0 = 3 then nI (sumN rr ng) else if z0 = 4 then V 0 34 else -2) o9 V2)) [.ref (ad (0)), .int (z0)].toArray s 0 0 A) (mS ad) V (F0 m 55 ls []) := by
        intro n_9_
        induction n_9_ with
        | zero =>
          intro g b hi hb hm
          exact absurd hm (by omega)
        | succ n_9_ ih_loop =>
          intro g b hi hb hm ls hl
          refine j_iload_n C dX12_many_55 rfl (lv_at hl 2 rfl) ?_
          refine j_aload_n C dX12_many_56 rfl (lv_at hl 0 rfl) ?_
          refine j_getI (k := 0) C (f_RX12_89_12) (ml (by decide)) (rfl) dX12_many_57 ?_
          refine j_icmp_ge (tgt := 78) C dX12_many_60 (by decide) (fun c_2_ => ?_) (fun c_2_ => ?_)
          · have n_2_ := Int32.not_lt.mpr c_2_
            have q2 := cLe (hM.1) (rfl) (by omega) (by omega) c_2_
            refine j_iload_n C dX12_many_78 rfl (lv_at hl 1 rfl) ?_
            refine j_iret C ⟨rfl, _, rfl, ?_⟩ dX12_many_79
            obtain rfl : g = ng := by omega
            refine ⟨rfl, ?_⟩
            rw [if_neg (fun q => by rw [q] at s_1_; revert s_1_; decide)]
            rw [if_neg (fun q => by rw [q] at s_1_; revert s_1_; decide)]
            rw [if_neg (fun q => by rw [q] at s_1_; revert s_1_; decide)]
            rw [if_pos (show z0 = 3 from s_1_)]
            exact hb
          · have n_2_ := Int32.not_le.mp c_2_
            have q2 := cNe (hM.1) (rfl) (by omega) (by omega) c_2_
            have hlt : g < ng := by omega
            have hr8 := (hM.2.2.2.2.1 g hlt).2
            refine j_iload_n C dX12_many_63 rfl (lv_at hl 1 rfl) ?_
            refine j_aload_n C dX12_many_64 rfl (lv_at hl 0 rfl) ?_
            refine j_getR (k := 0) (k2 := 8) C (f_RX12_31_12) (ml (by decide)) (rfl) (rfl) dX12_many_65 ?_
            refine j_iload_n C dX12_many_68 rfl (lv_at hl 2 rfl) ?_
            refine j_ialdE (k := 8) (n := 4) (t := g) C (ml (by decide)) (rfl) (rfl) (rfl) (by omega) (by decide) dX12_many_69 ?_
            refine j_iadd C dX12_many_70 ?_
            refine j_istore_n (lv2 := [(2, .int (b + (V 8 g))), (0, .ref (ad (0))), (3, .int (nI g))]) C dX12_many_71 rfl hl (by decide) rfl (fun ls hl => ?_)
            refine j_iinc (v := nI (g + 1)) (lv2 := [(3, .int (nI (g + 1))), (2, .int (b + (V 8 g))), (0, .ref (ad (0)))]) C dX12_many_72 hl (k0 := 2) rfl (nI_1 _) (by decide) rfl (fun ls hl => ?_)
            refine j_goto (tgt := 55) C dX12_many_75 (by decide) ?_
            exact ih_loop (g + 1) (b + (V 8 g)) (by omega) (by rw [hb, (hM.2.2.2.2.1 g hlt).1, nI_add, sumN]) (by omega) ls (lv_sub hl [2, 1, 0] rfl)
      exact loop (ng + 1) 0 0 (by omega) rfl (by omega) ls (lv_sub hl [2, 1, 0] rfl)
    · refine j_tableIn (off := 79) (tgt := 80) C dX12_many_1 (by rw [s_1_]; decide) (by rw [s_1_]; decide) (by rw [s_1_]; rfl) (by decide) ?_
      refine j_aload_n C dX12_many_80 rfl (lv_at hl 0 rfl) ?_
      refine j_getI (k := 0) C (f_RX12_135_12) (ml (by decide)) (rfl) dX12_many_81 ?_
      refine j_iret C ⟨rfl, _, rfl, ?_⟩ dX12_many_84
      refine ⟨rfl, ?_⟩
      rw [if_neg (fun q => by rw [q] at s_1_; revert s_1_; decide)]
      rw [if_neg (fun q => by rw [q] at s_1_; revert s_1_; decide)]
      rw [if_neg (fun q => by rw [q] at s_1_; revert s_1_; decide)]
      rw [if_neg (fun q => by rw [q] at s_1_; revert s_1_; decide)]
      rw [if_pos (show z0 = 4 from s_1_)]
  · refine j_tableOut (tgt := 85) C dX12_many_1 (by omega) (by decide) ?_
    refine j_bipush (v := (-2)) C dX12_many_85 (by decide) ?_
    refine j_iret C ⟨rfl, _, rfl, ?_⟩ dX12_many_87
    refine ⟨rfl, ?_⟩
    rw [if_neg (fun q => by rw [q] at s_1_; revert s_1_; decide)]
    rw [if_neg (fun q => by rw [q] at s_1_; revert s_1_; decide)]
    rw [if_neg (fun q => by rw [q] at s_1_; revert s_1_; decide)]
    rw [if_neg (fun q => by rw [q] at s_1_; revert s_1_; decide)]
    rw [if_neg (fun q => by rw [q] at s_1_; revert s_1_; decide)]
