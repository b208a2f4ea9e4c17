abbrev rm_X12_hasSet : Room := { frames := 2, cells := 0, slots := 0, locals := 46 }
set_option maxHeartbeats 4000000 in
set_option maxRecDepth 100000 in
theorem k_X12_hasSet (l : Launch) (ad : Nat → Nat) (V : Vt) (z0 : Int32) (ng : Nat) (rr : Nat → Nat) (nt c_0_ : Nat) (hM : MI V ng rr nt c_0_)  : Ct l yX12_hasSet cX12_hasSet 4 (some .int) rm_X12_hasSet (mS ad) V [.ref (ad (0)), .int (z0)] (rI fun x V2 => V2 = V ∧ x = setI (fun g => holI (mW V g) (mM V g) (rr g) = z0) ng) := by
  refine Ct_of (by decide) (Nat.le_of_ble_eq_true rfl) ?_
  intro p e s m below meth c A D cy ls C hl
  have hl : lv_has ls 4 [(0, .ref (ad (0))), (1, .int (z0))] := hl
  have ng4 := hM.2.1
  have nt5 := hM.2.2.2.1
  refine j_iconst (v := 0) C dX12_hasSet_0 (by decide) ?_
  refine j_istore_n (lv2 := [(2, .int (0)), (0, .ref (ad (0))), (1, .int (z0))]) C dX12_hasSet_1 rfl hl (by decide) rfl (fun ls hl => ?_)
  refine j_iconst (v := 0) C dX12_hasSet_2 (by decide) ?_
  refine j_istore_n (lv2 := [(3, .int (0)), (2, .int (0)), (0, .ref (ad (0))), (1, .int (z0))]) C dX12_hasSet_3 rfl hl (by decide) rfl (fun ls hl => ?_)
  have loop : ∀ (n_9_ : Nat) (g : Nat) (b : Int32), g ≤ ng → b = setI (fun g => holI (mW V g) (mM V g) (rr g) = z0) g → ng - g < n_9_ → ∀ (ls : Array Slot), lv_has ls 4 [(0, .ref (ad (0))), (1, .int (z0)), (2, .int (b)), (3, .int (nI g))] → J p l e rm_X12_hasSet s m [.ref (ad (0)), .int (z0)].toArray below meth c A D cy 0 0 (MQ below (gPost D cy A (fun o9 σ2 V2 => σ2 = mS ad ∧ (rI fun x V2 => V2 = V ∧ x = setI (fun g => holI (mW V g) (mM V g) (rr g) = z0) ng) o9 V2)) [.ref (ad (0)), .int (z0)].toArray s 0 0 A) (mS ad) V (F0 m 4 ls []) := by
    intro n_9_
    induction n_9_ with
    | zero =>
      intro g b hi hb hm
      exact absurd hm (by omega)
    | succ n_9_ ih_loop =>
      intro g b hi hb hm ls hl
      refine j_iload_n C dX12_hasSet_4 rfl (lv_at hl 3 rfl) ?_
      refine j_aload_n C dX12_hasSet_5 rfl (lv_at hl 0 rfl) ?_
      refine j_getI (k := 0) C (f_RX12_89_12) (ml (by decide)) (rfl) dX12_hasSet_6 ?_
      refine j_icmp_ge (tgt := 37) C dX12_hasSet_9 (by decide) (fun c_1_ => ?_) (fun c_1_ => ?_)
      · have n_1_ := Int32.not_lt.mpr c_1_
        have q1 := cLe (hM.1) (rfl) (by omega) (by omega) c_1_
        refine j_iload_n C dX12_hasSet_37 rfl (lv_at hl 2 rfl) ?_
        refine j_iret C ⟨rfl, _, rfl, ?_⟩ dX12_hasSet_38
        obtain rfl : g = ng := by omega
        exact ⟨rfl, hb⟩
      · have n_1_ := Int32.not_le.mp c_1_
        have q1 := cNe (hM.1) (rfl) (by omega) (by omega) c_1_
        refine j_iload_n C dX12_hasSet_12 rfl (lv_at hl 2 rfl) ?_
        refine j_aload_n C dX12_hasSet_13 rfl (lv_at hl 0 rfl) ?_
        refine j_iload_n C dX12_hasSet_14 rfl (lv_at hl 3 rfl) ?_
        refine j_callV (k := 0) C [.int (nI g)] [.int (b)] (k_X12_hasHer l ad V (nI g) g (rfl) (by omega) (rr g) (hM.2.2.2.2.1 g (by omega)).1 (hM.2.2.2.2.1 g (by omega)).2) v_RX12_164 (ml (by decide)) (rfl) rfl ⟨rfl, rfl, Nat.le_of_ble_eq_true rfl, Nat.le_of_ble_eq_true rfl⟩ rfl hl.1 rfl (Nat.le_of_ble_eq_true rfl) ⟨Nat.le_of_ble_eq_true rfl, Nat.le_of_ble_eq_true rfl⟩ dX12_hasSet_15 (kI fun x_2_ U2 h_2_ => ?_)
        obtain ⟨eU2, h_2_⟩ := h_2_
        have eU2 := eU2.symm
        subst eU2
        refine j_iload_n C dX12_hasSet_18 rfl (lv_at hl 1 rfl) ?_
        refine j_icmp_ne (tgt := 28) C dX12_hasSet_19 (by decide) (fun c_3_ => ?_) (fun c_3_ => ?_)
        · skip
          refine j_iconst (v := 0) C dX12_hasSet_28 (by decide) ?_
          refine j_ior C dX12_hasSet_29 ?_
          refine j_istore_n (lv2 := [(2, .int (b ||| 0)), (0, .ref (ad (0))), (1, .int (z0)), (3, .int (nI g))]) C dX12_hasSet_30 rfl hl (by decide) rfl (fun ls hl => ?_)
          refine j_iinc (v := nI (g + 1)) (lv2 := [(3, .int (nI (g + 1))), (2, .int (b ||| 0)), (0, .ref (ad (0))), (1, .int (z0))]) C dX12_hasSet_31 hl (k0 := 3) rfl (nI_1 _) (by decide) rfl (fun ls hl => ?_)
          refine j_goto (tgt := 4) C dX12_hasSet_34 (by decide) ?_
          exact ih_loop (g + 1) (b ||| 0) (by omega) (by rw [setI, if_neg (by rw [← h_2_]; exact c_3_), ← hb]; exact Int32.or_zero) (by omega) ls (lv_sub hl [2, 3, 1, 0] rfl)
        · skip
          refine j_iconst (v := 1) C dX12_hasSet_22 (by decide) ?_
          refine j_iload_n C dX12_hasSet_23 rfl (lv_at hl 3 rfl) ?_
          refine j_ishl C dX12_hasSet_24 ?_
          refine j_goto (tgt := 29) C dX12_hasSet_25 (by decide) ?_
          refine j_ior C dX12_hasSet_29 ?_
          refine j_istore_n (lv2 := [(2, .int (b ||| (1 <<< ((nI g) &&& 31)))), (0, .ref (ad (0))), (1, .int (z0)), (3, .int (nI g))]) C dX12_hasSet_30 rfl hl (by decide) rfl (fun ls hl => ?_)
          refine j_iinc (v := nI (g + 1)) (lv2 := [(3, .int (nI (g + 1))), (2, .int (b ||| (1 <<< ((nI g) &&& 31)))), (0, .ref (ad (0))), (1, .int (z0))]) C dX12_hasSet_31 hl (k0 := 3) rfl (nI_1 _) (by decide) rfl (fun ls hl => ?_)
          refine j_goto (tgt := 4) C dX12_hasSet_34 (by decide) ?_
          exact ih_loop (g + 1) (b ||| (1 <<< ((nI g) &&& 31))) (by omega) (by rw [setI, if_pos (by rw [← h_2_]; exact c_3_), ← hb]) (by omega) ls (lv_sub hl [2, 3, 1, 0] rfl)
  exact loop (ng + 1) 0 0 (by omega) rfl (by omega) ls (lv_sub hl [2, 3, 1, 0] rfl)
abbrev rm_X12_ringsOf : Room := { frames := 0, cells := 0, slots := 0, locals := 0 }
set_option maxHeartbeats 4000000 in
set_option maxRecDepth 100000 in
theorem k_X12_ringsOf (l : Launch) (ad : Nat → Nat) (V : Vt) (z0 : Int32) (ng : Nat) (rr : Nat → Nat) (nt c_0_ : Nat) (hM : MI V ng rr nt c_0_)  : Ct l yX12_ringsOf cX12_ringsOf 5 (some .int) rm_X12_ringsOf (mS ad) V [.ref (ad (0)), .int (z0)] (rI fun x V2 => V2 = V ∧ x = nI (sumN (fun g => cntI (fun j => mW V g j = z0) (rr g)) ng)) := by
  refine Ct_of (by decide) (Nat.le_of_ble_eq_true rfl) ?_
  intro p e s m below meth c A D cy ls C hl
  have hl : lv_has ls 5 [(0, .ref (ad (0))), (1, .int (z0))] := hl
  have ng4 := hM.2.1
  have nt5 := hM.2.2.2.1
  refine j_iconst (v := 0) C dX12_ringsOf_0 (by decide) ?_
  refine j_istore_n (lv2 := [(2, .int (0)), (0, .ref (ad (0))), (1, .int (z0))]) C dX12_ringsOf_1 rfl hl (by decide) rfl (fun ls hl => ?_)
  refine j_iconst (v := 0) C dX12_ringsOf_2 (by decide) ?_
  refine j_istore_n (lv2 := [(3, .int (0)), (2, .int (0)), (0, .ref (ad (0))), (1, .int (z0))]) C dX12_ringsOf_3 rfl hl (by decide) rfl (fun ls hl => ?_)
  have loop : ∀ (n_9_ : Nat) (g : Nat) (b : Int32), g ≤ ng → b = nI (sumN (fun g => cntI (fun j => mW V g j = z0) (rr g)) g) → ng - g < n_9_ → ∀ (ls : Array Slot), lv_has ls 5 [(0, .ref (ad (0))), (1, .int (z0)), (2, .int (b)), (3, .int (nI g))] → J p l e rm_X12_ringsOf s m [.ref (ad (0)), .int (z0)].toArray below meth c A D cy 0 0 (MQ below (gPost D cy A (fun o9 σ2 V2 => σ2 = mS ad ∧ (rI fun x V2 => V2 = V ∧ x = nI (sumN (fun g => cntI (fun j => mW V g j = z0) (rr g)) ng)) o9 V2)) [.ref (ad (0)), .int (z0)].toArray s 0 0 A) (mS ad) V (F0 m 4 ls []) := by
    intro n_9_
    induction n_9_ with
    | zero =>
      intro g b hi hb hm
      exact absurd hm (by omega)
    | succ n_9_ ih_loop =>
      intro g b hi hb hm ls hl
      refine j_iload_n C dX12_ringsOf_4 rfl (lv_at hl 3 rfl) ?_
      refine j_aload_n C dX12_ringsOf_5 rfl (lv_at hl 0 rfl) ?_
      refine j_getI (k := 0) C (f_RX12_89_12) (ml (by decide)) (rfl) dX12_ringsOf_6 ?_
      refine j_icmp_ge (tgt := 62) C dX12_ringsOf_9 (by decide) (fun c_1_ => ?_) (fun c_1_ => ?_)
      · have n_1_ := Int32.not_lt.mpr c_1_
        have q1 := cLe (hM.1) (rfl) (by omega) (by omega) c_1_
        refine j_iload_n C dX12_ringsOf_62 rfl (lv_at hl 2 rfl) ?_
        refine j_iret C ⟨rfl, _, rfl, ?_⟩ dX12_ringsOf_63
        obtain rfl : g = ng := by omega
        exact ⟨rfl, hb⟩
      · have n_1_ := Int32.not_le.mp c_1_
        have q1 := cNe (hM.1) (rfl) (by omega) (by omega) c_1_
        have hlt : g < ng := by omega
        have hr8 := (hM.2.2.2.2.1 g hlt).2
        refine j_iconst (v := 0) C dX12_ringsOf_12 (by decide) ?_
        refine j_istore (lv2 := [(4, .int (0)), (0, .ref (ad (0))), (1, .int (z0)), (2, .int (b)), (3, .int (nI g))]) C dX12_ringsOf_13 hl (by decide) rfl (fun ls hl => ?_)
        have loop2 : ∀ (n_9_ : Nat) (i : Nat) (b2 : Int32), i ≤ rr g → b2 = nI (sumN (fun g => cntI (fun j => mW V g j = z0) (rr g)) g + cntI (fun j => mW V g j = z0) i) → rr g - i < n_9_ → ∀ (ls : Array Slot), lv_has ls 5 [(0, .ref (ad (0))), (1, .int (z0)), (2, .int (b2)), (3, .int (nI g)), (4, .int (nI i))] → J p l e rm_X12_ringsOf s m [.ref (ad (0)), .int (z0)].toArray below meth c A D cy 0 0 (MQ below (gPost D cy A (fun o9 σ2 V2 => σ2 = mS ad ∧ (rI fun x V2 => V2 = V ∧ x = nI (sumN (fun g => cntI (fun j => mW V g j = z0) (rr g)) ng)) o9 V2)) [.ref (ad (0)), .int (z0)].toArray s 0 0 A) (mS ad) V (F0 m 15 ls []) := by
          intro n_9_
          induction n_9_ with
          | zero =>
            intro i b2 hi2 hb2 hm
            exact absurd hm (by omega)
          | succ n_9_ ih_loop2 =>
            intro i b2 hi2 hb2 hm ls hl
            refine j_iload C dX12_ringsOf_15 (lv_at hl 4 rfl) ?_
            refine j_aload_n C dX12_ringsOf_17 rfl (lv_at hl 0 rfl) ?_
            refine j_getR (k := 0) (k2 := 8) C (f_RX12_31_12) (ml (by decide)) (rfl) (rfl) dX12_ringsOf_18 ?_
            refine j_iload_n C dX12_ringsOf_21 rfl (lv_at hl 3 rfl) ?_
            refine j_ialdE (k := 8) (n := 4) (t := g) C (ml (by decide)) (rfl) (rfl) (rfl) (by omega) (by decide) dX12_ringsOf_22 ?_
            refine j_icmp_ge (tgt := 56) C dX12_ringsOf_23 (by decide) (fun c_2_ => ?_) (fun c_2_ => ?_)
            · have n_2_ := Int32.not_lt.mpr c_2_
              have q2 := cLe ((hM.2.2.2.2.1 g hlt).1) (rfl) (by omega) (by omega) c_2_
              obtain e9 : i = rr g := by omega
              refine j_iinc (v := nI (g + 1)) (lv2 := [(3, .int (nI (g + 1))), (0, .ref (ad (0))), (1, .int (z0)), (2, .int (b2)), (4, .int (nI i))]) C dX12_ringsOf_56 hl (k0 := 3) rfl (nI_1 _) (by decide) rfl (fun ls hl => ?_)
              refine j_goto (tgt := 4) C dX12_ringsOf_59 (by decide) ?_
              exact ih_loop (g + 1) (b2) (by omega) (by rw [hb2, sumN, e9]) (by omega) ls (lv_sub hl [1, 2, 3, 0] rfl)
            · have n_2_ := Int32.not_le.mp c_2_
              have q2 := cNe ((hM.2.2.2.2.1 g hlt).1) (rfl) (by omega) (by omega) c_2_
              refine j_iload_n C dX12_ringsOf_26 rfl (lv_at hl 2 rfl) ?_
              refine j_aload_n C dX12_ringsOf_27 rfl (lv_at hl 0 rfl) ?_
              refine j_getR (k := 0) (k2 := 9) C (f_RX12_34_12) (ml (by decide)) (rfl) (rfl) dX12_ringsOf_28 ?_
              refine j_bipush (v := 8) C dX12_ringsOf_31 (by decide) ?_
              refine j_iload_n C dX12_ringsOf_33 rfl (lv_at hl 3 rfl) ?_
              refine j_imul C dX12_ringsOf_34 ?_
              refine j_iload C dX12_ringsOf_35 (lv_at hl 4 rfl) ?_
              refine j_iadd C dX12_ringsOf_37 ?_
              refine j_ialdE (k := 9) (n := 32) (t := 8 * g + i) C (ml (by decide)) (rfl) (rfl) (nA (nM (show (8 : Int32) = nI 8 from rfl) (rfl)) (rfl)) (by omega) (by decide) dX12_ringsOf_38 ?_
              refine j_iload_n C dX12_ringsOf_39 rfl (lv_at hl 1 rfl) ?_
              refine j_icmp_ne (tgt := 47) C dX12_ringsOf_40 (by decide) (fun c_3_ => ?_) (fun c_3_ => ?_)
              · skip
                refine j_iconst (v := 0) C dX12_ringsOf_47 (by decide) ?_
                refine j_iadd C dX12_ringsOf_48 ?_
                refine j_istore_n (lv2 := [(2, .int (b2 + 0)), (0, .ref (ad (0))), (1, .int (z0)), (3, .int (nI g)), (4, .int (nI i))]) C dX12_ringsOf_49 rfl hl (by decide) rfl (fun ls hl => ?_)
                refine j_iinc (v := nI (i + 1)) (lv2 := [(4, .int (nI (i + 1))), (2, .int (b2 + 0)), (0, .ref (ad (0))), (1, .int (z0)), (3, .int (nI g))]) C dX12_ringsOf_50 hl (k0 := 4) rfl (nI_1 _) (by decide) rfl (fun ls hl => ?_)
                refine j_goto (tgt := 15) C dX12_ringsOf_53 (by decide) ?_
                exact ih_loop2 (i + 1) (b2 + 0) (by omega) (by rw [hb2, cntI, if_neg (show ¬ mW V g i = z0 from c_3_)]; exact Int32.add_zero _) (by omega) ls (lv_sub hl [2, 3, 1, 4, 0] rfl)
              · skip
                refine j_iconst (v := 1) C dX12_ringsOf_43 (by decide) ?_
                refine j_goto (tgt := 48) C dX12_ringsOf_44 (by decide) ?_
                refine j_iadd C dX12_ringsOf_48 ?_
                refine j_istore_n (lv2 := [(2, .int (b2 + 1)), (0, .ref (ad (0))), (1, .int (z0)), (3, .int (nI g)), (4, .int (nI i))]) C dX12_ringsOf_49 rfl hl (by decide) rfl (fun ls hl => ?_)
                refine j_iinc (v := nI (i + 1)) (lv2 := [(4, .int (nI (i + 1))), (2, .int (b2 + 1)), (0, .ref (ad (0))), (1, .int (z0)), (3, .int (nI g))]) C dX12_ringsOf_50 hl (k0 := 4) rfl (nI_1 _) (by decide) rfl (fun ls hl => ?_)
                refine j_goto (tgt := 15) C dX12_ringsOf_53 (by decide) ?_
                exact ih_loop2 (i + 1) (b2 + 1) (by omega) (by rw [hb2, cntI, if_pos (show mW V g i = z0 from c_3_)]; exact nI_1 _) (by omega) ls (lv_sub hl [2, 3, 1, 4, 0] rfl)
        exact loop2 (rr g + 1) 0 b (by omega) hb (by omega) ls (lv_sub hl [1, 2, 3, 4, 0] rfl)
  exact loop (ng + 1) 0 0 (by omega) rfl (by omega) ls (lv_sub hl [2, 3, 1, 0] rfl)
abbrev rm_X12_ofThrower : Room := { frames := 3, cells := 0, slots := 0, locals := 69 }
set_option maxHeartbeats 4000000 in
set_option maxRecDepth 100000 in
theorem k_X12_ofThrower (l : Launch) (ad : Nat → Nat) (V : Vt) (z0 z1 : Int32) (ng : Nat) (rr : Nat → Nat) (nt c_0_ : Nat) (hM : MI V ng rr nt c_0_)  : Ct l yX12_ofThrower cX12_ofThrower 3 (some .int) rm_X12_ofThrower (mS ad) V [.ref (ad (0)), .int (z0), .int (z1)] (rI fun x V2 => V2 = V ∧ x = if ¬ z0 < 0 ∧ z0 < nI nt then (if z1 = 0 then V 6 z0.toNatClampNeg else if z1 = 1 then V 7 z0.toNatClampNeg else if z1 = 2 then rchM (V 6 z0.toNatClampNeg) (V 7 z0.toNatClampNeg) else if z1 = 3 then setI (fun g => holI (mW V g) (mM V g) (rr g) = z0) ng else if z1 = 4 then nI (sumN (fun g => cntI (fun j => mW V g j = z0) (rr g)) ng) else -2) else -1) := by
  refine Ct_of (by decide) (Nat.le_of_ble_eq_true rfl) ?_
  intro p e s m below meth c A D cy ls C hl
  have hl : lv_has ls 3 [(0, .ref (ad (0))), (1, .int (z0)), (2, .int (z1))] := hl
  have ng4 := hM.2.1
  have nt5 := hM.2.2.2.1
  refine j_aload_n C dX12_ofThrower_0 rfl (lv_at hl 0 rfl) ?_
  refine j_iload_n C dX12_ofThrower_1 rfl (lv_at hl 1 rfl) ?_
  refine j_callV (k := 0) C [.int (z0)] [] (k_X12_isThrower l ad V (z0)  nt hM.2.2.1 hM.2.2.2.1) v_RX12_170 (ml (by decide)) (rfl) rfl ⟨rfl, rfl, Nat.le_of_ble_eq_true rfl, Nat.le_of_ble_eq_true rfl⟩ rfl hl.1 rfl (Nat.le_of_ble_eq_true rfl) ⟨Nat.le_of_ble_eq_true rfl, Nat.le_of_ble_eq_true rfl⟩ dX12_ofThrower_2 (kI fun x_1_ U1 h_1_ => ?_)
  obtain ⟨eU1, h_1_⟩ := h_1_
  have eU1 := eU1.symm
  subst eU1
  rcases h_1_ with ⟨j_1_, hj1, ej1, ex1⟩ | ⟨ho1, ex1⟩
  · subst ex1
    refine j_if_ne (tgt := 10) C dX12_ofThrower_5 (by decide) (fun c_2_ => ?_) (fun c_2_ => ?_)
    · skip
      refine j_iload_n C dX12_ofThrower_10 rfl (lv_at hl 2 rfl) ?_
      rcases sw_in (z1) 5 (by decide) with ⟨js3, hjs3, s_3_⟩ | s_3_
      · rcases (show js3 = 0 ∨ js3 = 1 ∨ js3 = 2 ∨ js3 = 3 ∨ js3 = 4 by omega) with rfl | rfl | rfl | rfl | rfl
        · refine j_tableIn (off := 33) (tgt := 44) C dX12_ofThrower_11 (by rw [s_3_]; decide) (by rw [s_3_]; decide) (by rw [s_3_]; rfl) (by decide) ?_
          refine j_aload_n C dX12_ofThrower_44 rfl (lv_at hl 0 rfl) ?_
          refine j_getR (k := 0) (k2 := 6) C (f_RX12_25_12) (ml (by decide)) (rfl) (rfl) dX12_ofThrower_45 ?_
          refine j_iload_n C dX12_ofThrower_48 rfl (lv_at hl 1 rfl) ?_
          refine j_ialdE (k := 6) (n := 5) (t := j_1_) C (ml (by decide)) (rfl) (rfl) (ej1) (by omega) (by decide) dX12_ofThrower_49 ?_
          refine j_iret C ⟨rfl, _, rfl, ?_⟩ dX12_ofThrower_50
          obtain ⟨hin1, hcl1⟩ := inz ej1 hj1 (by omega)
          refine ⟨rfl, ?_⟩
          rw [if_pos hin1, hcl1]
          rw [if_pos (show z1 = 0 from s_3_)]
        · refine j_tableIn (off := 40) (tgt := 51) C dX12_ofThrower_11 (by rw [s_3_]; decide) (by rw [s_3_]; decide) (by rw [s_3_]; rfl) (by decide) ?_
          refine j_aload_n C dX12_ofThrower_51 rfl (lv_at hl 0 rfl) ?_
          refine j_getR (k := 0) (k2 := 7) C (f_RX12_28_12) (ml (by decide)) (rfl) (rfl) dX12_ofThrower_52 ?_
          refine j_iload_n C dX12_ofThrower_55 rfl (lv_at hl 1 rfl) ?_
          refine j_ialdE (k := 7) (n := 5) (t := j_1_) C (ml (by decide)) (rfl) (rfl) (ej1) (by omega) (by decide) dX12_ofThrower_56 ?_
          refine j_iret C ⟨rfl, _, rfl, ?_⟩ dX12_ofThrower_57
          obtain ⟨hin1, hcl1⟩ := inz ej1 hj1 (by omega)
          refine ⟨rfl, ?_⟩
          rw [if_pos hin1, hcl1]
          rw [if_neg (fun q => by rw [q] at s_3_; revert s_3_; decide)]
          rw [if_pos (show z1 = 1 from s_3_)]
        · refine j_tableIn (off := 47) (tgt := 58) C dX12_ofThrower_11 (by rw [s_3_]; decide) (by rw [s_3_]; decide) (by rw [s_3_]; rfl) (by decide) ?_
          refine j_aload_n C dX12_ofThrower_58 rfl (lv_at hl 0 rfl) ?_
          refine j_iload_n C dX12_ofThrower_59 rfl (lv_at hl 1 rfl) ?_
          refine j_callV (k := 0) C [.int (z0)] [] (k_X12_reachOf l ad V (z0) j_1_ (ej1) (by omega) ) v_RX12_151 (ml (by decide)) (rfl) rfl ⟨rfl, rfl, Nat.le_of_ble_eq_true rfl, Nat.le_of_ble_eq_true rfl⟩ rfl hl.1 rfl (Nat.le_of_ble_eq_true rfl) ⟨Nat.le_of_ble_eq_true rfl, Nat.le_of_ble_eq_true rfl⟩ dX12_ofThrower_60 (kI fun x_4_ U4 h_4_ => ?_)
          obtain ⟨eU4, h_4_⟩ := h_4_
          have eU4 := eU4.symm
          subst eU4
          refine j_iret C ⟨rfl, _, rfl, ?_⟩ dX12_ofThrower_63
          obtain ⟨hin1, hcl1⟩ := inz ej1 hj1 (by omega)
          refine ⟨rfl, ?_⟩
          rw [if_pos hin1, hcl1]
          rw [if_neg (fun q => by rw [q] at s_3_; revert s_3_; decide)]
          rw [if_neg (fun q => by rw [q] at s_3_; revert s_3_; decide)]
          rw [if_pos (show z1 = 2 from s_3_)]
          exact h_4_
        · refine j_tableIn (off := 53) (tgt := 64) C dX12_ofThrower_11 (by rw [s_3_]; decide) (by rw [s_3_]; decide) (by rw [s_3_]; rfl) (by decide) ?_
          refine j_aload_n C dX12_ofThrower_64 rfl (lv_at hl 0 rfl) ?_
          refine j_iload_n C dX12_ofThrower_65 rfl (lv_at hl 1 rfl) ?_
          refine j_callV (k := 0) C [.int (z0)] [] (k_X12_hasSet l ad V (z0)  ng rr nt c_0_ hM) v_RX12_173 (ml (by decide)) (rfl) rfl ⟨rfl, rfl, Nat.le_of_ble_eq_true rfl, Nat.le_of_ble_eq_true rfl⟩ rfl hl.1 rfl (Nat.le_of_ble_eq_true rfl) ⟨Nat.le_of_ble_eq_true rfl, Nat.le_of_ble_eq_true rfl⟩ dX12_ofThrower_66 (kI fun x_5_ U5 h_5_ => ?_)
          obtain ⟨eU5, h_5_⟩ := h_5_
          have eU5 := eU5.symm
          subst eU5
          refine j_iret C ⟨rfl, _, rfl, ?_⟩ dX12_ofThrower_69
          obtain ⟨hin1, hcl1⟩ := inz ej1 hj1 (by omega)
          refine ⟨rfl, ?_⟩
          rw [if_pos hin1, hcl1]
          rw [if_neg (fun q => by rw [q] at s_3_; revert s_3_; decide)]
          rw [if_neg (fun q => by rw [q] at s_3_; revert s_3_; decide)]
          rw [if_neg (fun q => by rw [q] at s_3_; revert s_3_; decide)]
          rw [if_pos (show z1 = 3 from s_3_)]
          exact h_5_
        · refine j_tableIn (off := 59) (tgt := 70) C dX12_ofThrower_11 (by rw [s_3_]; decide) (by rw [s_3_]; decide) (by rw [s_3_]; rfl) (by decide) ?_
          refine j_aload_n C dX12_ofThrower_70 rfl (lv_at hl 0 rfl) ?_
          refine j_iload_n C dX12_ofThrower_71 rfl (lv_at hl 1 rfl) ?_
          refine j_callV (k := 0) C [.int (z0)] [] (k_X12_ringsOf l ad V (z0)  ng rr nt c_0_ hM) v_RX12_176 (ml (by decide)) (rfl) rfl ⟨rfl, rfl, Nat.le_of_ble_eq_true rfl, Nat.le_of_ble_eq_true rfl⟩ rfl hl.1 rfl (Nat.le_of_ble_eq_true rfl) ⟨Nat.le_of_ble_eq_true rfl, Nat.le_of_ble_eq_true rfl⟩ dX12_ofThrower_72 (kI fun x_6_ U6 h_6_ => ?_)
          obtain ⟨eU6, h_6_⟩ := h_6_
          have eU6 := eU6.symm
          subst eU6
          refine j_iret C ⟨rfl, _, rfl, ?_⟩ dX12_ofThrower_75
          obtain ⟨hin1, hcl1⟩ := inz ej1 hj1 (by omega)
          refine ⟨rfl, ?_⟩
          rw [if_pos hin1, hcl1]
          rw [if_neg (fun q => by rw [q] at s_3_; revert s_3_; decide)]
          rw [if_neg (fun q => by rw [q] at s_3_; revert s_3_; decide)]
          rw [if_neg (fun q => by rw [q] at s_3_; revert s_3_; decide)]
          rw [if_neg (fun q => by rw [q] at s_3_; revert s_3_; decide)]
          rw [if_pos (show z1 = 4 from s_3_)]
          exact h_6_
      · refine j_tableOut (tgt := 76) C dX12_ofThrower_11 (by omega) (by decide) ?_
        refine j_bipush (v := (-2)) C dX12_ofThrower_76 (by decide) ?_
        refine j_iret C ⟨rfl, _, rfl, ?_⟩ dX12_ofThrower_78
        obtain ⟨hin1, hcl1⟩ := inz ej1 hj1 (by omega)
        refine ⟨rfl, ?_⟩
        rw [if_pos hin1, hcl1]
        rw [if_neg (fun q => by rw [q] at s_3_; revert s_3_; decide)]
        rw [if_neg (fun q => by rw [q] at s_3_; revert s_3_; decide)]
        rw [if_neg (fun q => by rw [q] at s_3_; revert s_3_; decide)]
        rw [if_neg (fun q => by rw [q] at s_3_; revert s_3_; decide)]
        rw [if_neg (fun q => by rw [q] at s_3_; revert s_3_; decide)]
    · exact absurd c_2_ (by decide)
  · subst ex1
    refine j_if_ne (tgt := 10) C dX12_ofThrower_5 (by decide) (fun c_7_ => ?_) (fun c_7_ => ?_)
    · exact absurd rfl c_7_
    · skip
      refine j_iconst (v := (-1)) C dX12_ofThrower_8 (by decide) ?_
      refine j_iret C ⟨rfl, _, rfl, ?_⟩ dX12_ofThrower_9
      have hot1 := outR ho1
      exact ⟨rfl, by rw [if_neg hot1]⟩
abbrev rm_X12_freeze : Room := { frames := 1, cells := 0, slots := 0, locals := 22 }
set_option maxHeartbeats 4000000 in
set_option maxRecDepth 100000 in
theorem k_X12_freeze (l : Launch) (ad : Nat → Nat) (V : Vt) (z0 : Int32) (ng : Nat) (rr : Nat → Nat) (nt c_0_ : Nat) (hM : MI V ng rr nt c_0_)  : Ct l yX12_freeze cX12_freeze 3 (some .int) rm_X12_freeze (mS ad) V [.ref (ad (0)), .int (z0)] (rI fun x V2 => (V2 = if (0 ≤ z0 ∧ z0 ≤ 3) ∧ ¬ ng = 0 then up2 V 0 5 z0 else V) ∧ x = if 0 ≤ z0 ∧ z0 ≤ 3 then (if ng = 0 then -3 else V 0 5) else -2) := by
  refine Ct_of (by decide) (Nat.le_of_ble_eq_true rfl) ?_
  intro p e s m below meth c A D cy ls C hl
  have hl : lv_has ls 3 [(0, .ref (ad (0))), (1, .int (z0))] := hl
  have ng4 := hM.2.1
  have nt5 := hM.2.2.2.1
  refine j_iload_n C dX12_freeze_0 rfl (lv_at hl 1 rfl) ?_
  refine j_iconst (v := 0) C dX12_freeze_1 (by decide) ?_
  refine j_iconst (v := 3) C dX12_freeze_2 (by decide) ?_
  refine j_callS C [.int (z0), .int (0), .int (3)] [] (k_X12_within l (mS ad) V (z0) (0) (3)  ) v_RX12_85 ⟨rfl, rfl, Nat.le_of_ble_eq_true rfl, Nat.le_of_ble_eq_true rfl⟩ rfl hl.1 rfl (Nat.le_of_ble_eq_true rfl) ⟨Nat.le_of_ble_eq_true rfl, Nat.le_of_ble_eq_true rfl⟩ dX12_freeze_3 (kI fun x_1_ U1 h_1_ => ?_)
  obtain ⟨eU1, h_1_⟩ := h_1_
  have eU1 := eU1.symm
  subst eU1
  refine j_if_ne (tgt := 12) C dX12_freeze_6 (by decide) (fun c_2_ => ?_) (fun c_2_ => ?_)
  · skip
    have b2 := Decidable.not_not.mp (mt bI_0.mpr (h_1_ ▸ c_2_))
    refine j_aload_n C dX12_freeze_12 rfl (lv_at hl 0 rfl) ?_
    refine j_getI (k := 0) C (f_RX12_89_12) (ml (by decide)) (rfl) dX12_freeze_13 ?_
    refine j_if_ne (tgt := 22) C dX12_freeze_16 (by decide) (fun c_3_ => ?_) (fun c_3_ => ?_)
    · skip
      have q3 := cNq (hM.1) (show (0 : Int32) = nI 0 from rfl) (by omega) (by omega) c_3_
      refine j_aload_n C dX12_freeze_22 rfl (lv_at hl 0 rfl) ?_
      refine j_getI (k := 0) C (f_RX12_126_12) (ml (by decide)) (rfl) dX12_freeze_23 ?_
      refine j_istore_n (lv2 := [(2, .int (V 0 5)), (0, .ref (ad (0))), (1, .int (z0))]) C dX12_freeze_26 rfl hl (by decide) rfl (fun ls hl => ?_)
      refine j_aload_n C dX12_freeze_27 rfl (lv_at hl 1 rfl) ?_
      refine j_iload_n C dX12_freeze_28 rfl (lv_at hl 2 rfl) ?_
      refine j_putI (k := 0) C (f_RX12_126_12) p_12_5 (ml (by decide)) (rfl) dX12_freeze_29 (fun V1 eV1 => ?_)
      refine j_iload_n C dX12_freeze_32 rfl (lv_at hl 0 rfl) ?_
      refine j_iret C ⟨rfl, _, rfl, ?_⟩ dX12_freeze_33
      rw [if_pos ⟨b2, q3⟩, if_pos b2, if_neg q3]
      exact ⟨eV1, rfl⟩
    · skip
      have q3 := cEq (hM.1) (show (0 : Int32) = nI 0 from rfl) (by omega) (by omega) c_3_
      refine j_bipush (v := (-3)) C dX12_freeze_19 (by decide) ?_
      refine j_iret C ⟨rfl, _, rfl, ?_⟩ dX12_freeze_21
      rw [if_neg (fun z => z.2 q3), if_pos b2, if_pos q3]
      exact ⟨rfl, rfl⟩
  · skip
    have b2 := bI_0.mp (h_1_ ▸ c_2_)
    refine j_bipush (v := (-2)) C dX12_freeze_9 (by decide) ?_
    refine j_iret C ⟨rfl, _, rfl, ?_⟩ dX12_freeze_11
    rw [if_neg (fun q => b2 q.1), if_neg b2]
    exact ⟨rfl, rfl⟩
abbrev rm_X12_lean : Room := { frames := 1, cells := 0, slots := 0, locals := 22 }
set_option maxHeartbeats 4000000 in
set_option maxRecDepth 100000 in
theorem k_X12_lean (l : Launch) (ad : Nat → Nat) (V : Vt) (z0 z1 : Int32) (ng : Nat) (rr : Nat → Nat) (nt c_0_ : Nat) (hM : MI V ng rr nt c_0_)  : Ct l yX12_lean cX12_lean 4 (some .int) rm_X12_lean (mS ad) V [.ref (ad (0)), .int (z0), .int (z1)] (rI fun x V2 => (V2 = if ¬ z0 < 0 ∧ z0 < nI ng then (if 0 ≤ z1 ∧ z1 ≤ 9 then up2 V 5 z0.toNatClampNeg z1 else V) else V) ∧ x = if ¬ z0 < 0 ∧ z0 < nI ng then (if 0 ≤ z1 ∧ z1 ≤ 9 then V 5 z0.toNatClampNeg else -2) else -1) := by
  refine Ct_of (by decide) (Nat.le_of_ble_eq_true rfl) ?_
  intro p e s m below meth c A D cy ls C hl
  have hl : lv_has ls 4 [(0, .ref (ad (0))), (1, .int (z0)), (2, .int (z1))] := hl
  have ng4 := hM.2.1
  have nt5 := hM.2.2.2.1
  refine j_aload_n C dX12_lean_0 rfl (lv_at hl 0 rfl) ?_
  refine j_iload_n C dX12_lean_1 rfl (lv_at hl 1 rfl) ?_
  refine j_callV (k := 0) C [.int (z0)] [] (k_X12_isGirl l ad V (z0)  ng hM.1 (by omega)) v_RX12_161 (ml (by decide)) (rfl) rfl ⟨rfl, rfl, Nat.le_of_ble_eq_true rfl, Nat.le_of_ble_eq_true rfl⟩ rfl hl.1 rfl (Nat.le_of_ble_eq_true rfl) ⟨Nat.le_of_ble_eq_true rfl, Nat.le_of_ble_eq_true rfl⟩ dX12_lean_2 (kI fun x_1_ U1 h_1_ => ?_)
  obtain ⟨eU1, h_1_⟩ := h_1_
  have eU1 := eU1.symm
  subst eU1
  rcases h_1_ with ⟨j_1_, hj1, ej1, ex1⟩ | ⟨ho1, ex1⟩
  · subst ex1
    refine j_if_ne (tgt := 10) C dX12_lean_5 (by decide) (fun c_2_ => ?_) (fun c_2_ => ?_)
    · skip
      refine j_iload_n C dX12_lean_10 rfl (lv_at hl 2 rfl) ?_
      refine j_iconst (v := 0) C dX12_lean_11 (by decide) ?_
      refine j_bipush (v := 9) C dX12_lean_12 (by decide) ?_
      refine j_callS C [.int (z1), .int (0), .int (9)] [] (k_X12_within l (mS ad) V (z1) (0) (9)  ) v_RX12_85 ⟨rfl, rfl, Nat.le_of_ble_eq_true rfl, Nat.le_of_ble_eq_true rfl⟩ rfl hl.1 rfl (Nat.le_of_ble_eq_true rfl) ⟨Nat.le_of_ble_eq_true rfl, Nat.le_of_ble_eq_true rfl⟩ dX12_lean_14 (kI fun x_3_ U3 h_3_ => ?_)
      obtain ⟨eU3, h_3_⟩ := h_3_
      have eU3 := eU3.symm
      subst eU3
      refine j_if_ne (tgt := 23) C dX12_lean_17 (by decide) (fun c_4_ => ?_) (fun c_4_ => ?_)
      · skip
        have b4 := Decidable.not_not.mp (mt bI_0.mpr (h_3_ ▸ c_4_))
        refine j_aload_n C dX12_lean_23 rfl (lv_at hl 0 rfl) ?_
        refine j_getR (k := 0) (k2 := 5) C (f_RX12_22_12) (ml (by decide)) (rfl) (rfl) dX12_lean_24 ?_
        refine j_iload_n C dX12_lean_27 rfl (lv_at hl 1 rfl) ?_
        refine j_ialdE (k := 5) (n := 4) (t := j_1_) C (ml (by decide)) (rfl) (rfl) (ej1) (by omega) (by decide) dX12_lean_28 ?_
        refine j_istore_n (lv2 := [(3, .int (V 5 j_1_)), (0, .ref (ad (0))), (1, .int (z0)), (2, .int (z1))]) C dX12_lean_29 rfl hl (by decide) rfl (fun ls hl => ?_)
        refine j_aload_n C dX12_lean_30 rfl (lv_at hl 1 rfl) ?_
        refine j_getR (k := 0) (k2 := 5) C (f_RX12_22_12) (ml (by decide)) (rfl) (rfl) dX12_lean_31 ?_
        refine j_iload_n C dX12_lean_34 rfl (lv_at hl 2 rfl) ?_
        refine j_iload_n C dX12_lean_35 rfl (lv_at hl 3 rfl) ?_
        refine j_iastE (k := 5) (n := 4) (t := j_1_) C (ml (by decide)) (rfl) (rfl) (ej1) (by omega) (by decide) dX12_lean_36 (fun V1 eV1 => ?_)
        refine j_iload_n C dX12_lean_37 rfl (lv_at hl 0 rfl) ?_
        refine j_iret C ⟨rfl, _, rfl, ?_⟩ dX12_lean_38
        obtain ⟨hin1, hcl1⟩ := inz ej1 hj1 (by omega)
        refine ⟨?_, ?_⟩
        · first | (simp only [if_pos hin1, hcl1, if_pos b4]; done) | (simp only [if_pos hin1, hcl1, if_pos b4]; exact eV1) | (simp only [if_pos hin1, hcl1, if_pos b4]; rw [eV1]; done) | (simp only [if_pos hin1, hcl1, if_pos b4]; exact h_3_) | (simp only [if_pos hin1, hcl1, if_pos b4]; rw [h_3_]; done) | (simp only [if_pos hin1, hcl1, if_pos b4]; rfl)
        · first | (simp only [if_pos hin1, hcl1, if_pos b4]; done) | (simp only [if_pos hin1, hcl1, if_pos b4]; exact h_3_) | (simp only [if_pos hin1, hcl1, if_pos b4]; rw [h_3_]; done) | (simp only [if_pos hin1, hcl1, if_pos b4]; rfl)
      · skip
        have b4 := bI_0.mp (h_3_ ▸ c_4_)
        refine j_bipush (v := (-2)) C dX12_lean_20 (by decide) ?_
        refine j_iret C ⟨rfl, _, rfl, ?_⟩ dX12_lean_22
        obtain ⟨hin1, hcl1⟩ := inz ej1 hj1 (by omega)
        refine ⟨?_, ?_⟩
        · first | (simp only [if_pos hin1, hcl1, if_neg b4]; done) | (simp only [if_pos hin1, hcl1, if_neg b4]; exact h_3_) | (simp only [if_pos hin1, hcl1, if_neg b4]; rw [h_3_]; done) | (simp only [if_pos hin1, hcl1, if_neg b4]; rfl)
        · first | (simp only [if_pos hin1, hcl1, if_neg b4]; done) | (simp only [if_pos hin1, hcl1, if_neg b4]; exact h_3_) | (simp only [if_pos hin1, hcl1, if_neg b4]; rw [h_3_]; done) | (simp only [if_pos hin1, hcl1, if_neg b4]; rfl)
    · exact absurd c_2_ (by decide)
  · subst ex1
    refine j_if_ne (tgt := 10) C dX12_lean_5 (by decide) (fun c_5_ => ?_) (fun c_5_ => ?_)
    · exact absurd rfl c_5_
    · skip
      refine j_iconst (v := (-1)) C dX12_lean_8 (by decide) ?_
      refine j_iret C ⟨rfl, _, rfl, ?_⟩ dX12_lean_9
      have hot1 := outR ho1
      refine ⟨?_, ?_⟩
      · first | (simp only [if_neg hot1]; done) | (simp only [if_neg hot1]; rfl)
      · first | (simp only [if_neg hot1]; done) | (simp only [if_neg hot1]; rfl)
abbrev rm_X12_place : Room := { frames := 1, cells := 0, slots := 0, locals := 22 }
set_option maxHeartbeats 4000000 in
set_option maxRecDepth 100000 in
theorem k_X12_place (l : Launch) (ad : Nat → Nat) (V : Vt) (z0 z1 : Int32) (ng : Nat) (rr : Nat → Nat) (nt c_0_ : Nat) (hM : MI V ng rr nt c_0_)  : Ct l yX12_place cX12_place 4 (some .int) rm_X12_place (mS ad) V [.ref (ad (0)), .int (z0), .int (z1)] (rI fun x V2 => (V2 = if ¬ z0 < 0 ∧ z0 < nI ng then (if 1 ≤ z1 ∧ z1 ≤ 9 then up2 V 4 z0.toNatClampNeg z1 else V) else V) ∧ x = if ¬ z0 < 0 ∧ z0 < nI ng then (if 1 ≤ z1 ∧ z1 ≤ 9 then V 4 z0.toNatClampNeg else -2) else -1) := by
  refine Ct_of (by decide) (Nat.le_of_ble_eq_true rfl) ?_
  intro p e s m below meth c A D cy ls C hl
  have hl : lv_has ls 4 [(0, .ref (ad (0))), (1, .int (z0)), (2, .int (z1))] := hl
  have ng4 := hM.2.1
  have nt5 := hM.2.2.2.1
  refine j_aload_n C dX12_place_0 rfl (lv_at hl 0 rfl) ?_
  refine j_iload_n C dX12_place_1 rfl (lv_at hl 1 rfl) ?_
  refine j_callV (k := 0) C [.int (z0)] [] (k_X12_isGirl l ad V (z0)  ng hM.1 (by omega)) v_RX12_161 (ml (by decide)) (rfl) rfl ⟨rfl, rfl, Nat.le_of_ble_eq_true rfl, Nat.le_of_ble_eq_true rfl⟩ rfl hl.1 rfl (Nat.le_of_ble_eq_true rfl) ⟨Nat.le_of_ble_eq_true rfl, Nat.le_of_ble_eq_true rfl⟩ dX12_place_2 (kI fun x_1_ U1 h_1_ => ?_)
  obtain ⟨eU1, h_1_⟩ := h_1_
  have eU1 := eU1.symm
  subst eU1
  rcases h_1_ with ⟨j_1_, hj1, ej1, ex1⟩ | ⟨ho1, ex1⟩
  · subst ex1
    refine j_if_ne (tgt := 10) C dX12_place_5 (by decide) (fun c_2_ => ?_) (fun c_2_ => ?_)
    · skip
      refine j_iload_n C dX12_place_10 rfl (lv_at hl 2 rfl) ?_
      refine j_iconst (v := 1) C dX12_place_11 (by decide) ?_
      refine j_bipush (v := 9) C dX12_place_12 (by decide) ?_
      refine j_callS C [.int (z1), .int (1), .int (9)] [] (k_X12_within l (mS ad) V (z1) (1) (9)  ) v_RX12_85 ⟨rfl, rfl, Nat.le_of_ble_eq_true rfl, Nat.le_of_ble_eq_true rfl⟩ rfl hl.1 rfl (Nat.le_of_ble_eq_true rfl) ⟨Nat.le_of_ble_eq_true rfl, Nat.le_of_ble_eq_true rfl⟩ dX12_place_14 (kI fun x_3_ U3 h_3_ => ?_)
      obtain ⟨eU3, h_3_⟩ := h_3_
      have eU3 := eU3.symm
      subst eU3
      refine j_if_ne (tgt := 23) C dX12_place_17 (by decide) (fun c_4_ => ?_) (fun c_4_ => ?_)
      · skip
        have b4 := Decidable.not_not.mp (mt bI_0.mpr (h_3_ ▸ c_4_))
        refine j_aload_n C dX12_place_23 rfl (lv_at hl 0 rfl) ?_
        refine j_getR (k := 0) (k2 := 4) C (f_RX12_19_12) (ml (by decide)) (rfl) (rfl) dX12_place_24 ?_
        refine j_iload_n C dX12_place_27 rfl (lv_at hl 1 rfl) ?_
        refine j_ialdE (k := 4) (n := 4) (t := j_1_) C (ml (by decide)) (rfl) (rfl) (ej1) (by omega) (by decide) dX12_place_28 ?_
        refine j_istore_n (lv2 := [(3, .int (V 4 j_1_)), (0, .ref (ad (0))), (1, .int (z0)), (2, .int (z1))]) C dX12_place_29 rfl hl (by decide) rfl (fun ls hl => ?_)
        refine j_aload_n C dX12_place_30 rfl (lv_at hl 1 rfl) ?_
        refine j_getR (k := 0) (k2 := 4) C (f_RX12_19_12) (ml (by decide)) (rfl) (rfl) dX12_place_31 ?_
        refine j_iload_n C dX12_place_34 rfl (lv_at hl 2 rfl) ?_
        refine j_iload_n C dX12_place_35 rfl (lv_at hl 3 rfl) ?_
        refine j_iastE (k := 4) (n := 4) (t := j_1_) C (ml (by decide)) (rfl) (rfl) (ej1) (by omega) (by decide) dX12_place_36 (fun V1 eV1 => ?_)
        refine j_iload_n C dX12_place_37 rfl (lv_at hl 0 rfl) ?_
        refine j_iret C ⟨rfl, _, rfl, ?_⟩ dX12_place_38
        obtain ⟨hin1, hcl1⟩ := inz ej1 hj1 (by omega)
        refine ⟨?_, ?_⟩
        · first | (simp only [if_pos hin1, hcl1, if_pos b4]; done) | (simp only [if_pos hin1, hcl1, if_pos b4]; exact eV1) | (simp only [if_pos hin1, hcl1, if_pos b4]; rw [eV1]; done) | (simp only [if_pos hin1, hcl1, if_pos b4]; exact h_3_) | (simp only [if_pos hin1, hcl1, if_pos b4]; rw [h_3_]; done) | (simp only [if_pos hin1, hcl1, if_pos b4]; rfl)
        · first | (simp only [if_pos hin1, hcl1, if_pos b4]; done) | (simp only [if_pos hin1, hcl1, if_pos b4]; exact h_3_) | (simp only [if_pos hin1, hcl1, if_pos b4]; rw [h_3_]; done) | (simp only [if_pos hin1, hcl1, if_pos b4]; rfl)
      · skip
        have b4 := bI_0.mp (h_3_ ▸ c_4_)
        refine j_bipush (v := (-2)) C dX12_place_20 (by decide) ?_
        refine j_iret C ⟨rfl, _, rfl, ?_⟩ dX12_place_22
        obtain ⟨hin1, hcl1⟩ := inz ej1 hj1 (by omega)
        refine ⟨?_, ?_⟩
        · first | (simp only [if_pos hin1, hcl1, if_neg b4]; done) | (simp only [if_pos hin1, hcl1, if_neg b4]; exact h_3_) | (simp only [if_pos hin1, hcl1, if_neg b4]; rw [h_3_]; done) | (simp only [if_pos hin1, hcl1, if_neg b4]; rfl)
        · first | (simp only [if_pos hin1, hcl1, if_neg b4]; done) | (simp only [if_pos hin1, hcl1, if_neg b4]; exact h_3_) | (simp only [if_pos hin1, hcl1, if_neg b4]; rw [h_3_]; done) | (simp only [if_pos hin1, hcl1, if_neg b4]; rfl)
    · exact absurd c_2_ (by decide)
  · subst ex1
    refine j_if_ne (tgt := 10) C dX12_place_5 (by decide) (fun c_5_ => ?_) (fun c_5_ => ?_)
    · exact absurd rfl c_5_
    · skip
      refine j_iconst (v := (-1)) C dX12_place_8 (by decide) ?_
      refine j_iret C ⟨rfl, _, rfl, ?_⟩ dX12_place_9
      have hot1 := outR ho1
      refine ⟨?_, ?_⟩
      · first | (simp only [if_neg hot1]; done) | (simp only [if_neg hot1]; rfl)
      · first | (simp only [if_neg hot1]; done) | (simp only [if_neg hot1]; rfl)
abbrev rm_X12_train : Room := { frames := 1, cells := 0, slots := 0, locals := 22 }
set_option maxHeartbeats 4000000 in
set_option maxRecDepth 100000 in
theorem k_X12_train (l : Launch) (ad : Nat → Nat) (V : Vt) (z0 z1 : Int32) (ng : Nat) (rr : Nat → Nat) (nt c_0_ : Nat) (hM : MI V ng rr nt c_0_)  : Ct l yX12_train cX12_train 4 (some .int) rm_X12_train (mS ad) V [.ref (ad (0)), .int (z0), .int (z1)] (rI fun x V2 => (V2 = if ¬ z0 < 0 ∧ z0 < nI nt then (if 1 ≤ z1 ∧ z1 ≤ 9 then up2 V 7 z0.toNatClampNeg z1 else V) else V) ∧ x = if ¬ z0 < 0 ∧ z0 < nI nt then (if 1 ≤ z1 ∧ z1 ≤ 9 then V 7 z0.toNatClampNeg else -2) else -1) := by
  refine Ct_of (by decide) (Nat.le_of_ble_eq_true rfl) ?_
  intro p e s m below meth c A D cy ls C hl
  have hl : lv_has ls 4 [(0, .ref (ad (0))), (1, .int (z0)), (2, .int (z1))] := hl
  have ng4 := hM.2.1
  have nt5 := hM.2.2.2.1
  refine j_aload_n C dX12_train_0 rfl (lv_at hl 0 rfl) ?_
  refine j_iload_n C dX12_train_1 rfl (lv_at hl 1 rfl) ?_
  refine j_callV (k := 0) C [.int (z0)] [] (k_X12_isThrower l ad V (z0)  nt hM.2.2.1 hM.2.2.2.1) v_RX12_170 (ml (by decide)) (rfl) rfl ⟨rfl, rfl, Nat.le_of_ble_eq_true rfl, Nat.le_of_ble_eq_true rfl⟩ rfl hl.1 rfl (Nat.le_of_ble_eq_true rfl) ⟨Nat.le_of_ble_eq_true rfl, Nat.le_of_ble_eq_true rfl⟩ dX12_train_2 (kI fun x_1_ U1 h_1_ => ?_)
  obtain ⟨eU1, h_1_⟩ := h_1_
  have eU1 := eU1.symm
  subst eU1
  rcases h_1_ with ⟨j_1_, hj1, ej1, ex1⟩ | ⟨ho1, ex1⟩
  · subst ex1
    refine j_if_ne (tgt := 10) C dX12_train_5 (by decide) (fun c_2_ => ?_) (fun c_2_ => ?_)
    · skip
      refine j_iload_n C dX12_train_10 rfl (lv_at hl 2 rfl) ?_
      refine j_iconst (v := 1) C dX12_train_11 (by decide) ?_
      refine j_bipush (v := 9) C dX12_train_12 (by decide) ?_
      refine j_callS C [.int (z1), .int (1), .int (9)] [] (k_X12_within l (mS ad) V (z1) (1) (9)  ) v_RX12_85 ⟨rfl, rfl, Nat.le_of_ble_eq_true rfl, Nat.le_of_ble_eq_true rfl⟩ rfl hl.1 rfl (Nat.le_of_ble_eq_true rfl) ⟨Nat.le_of_ble_eq_true rfl, Nat.le_of_ble_eq_true rfl⟩ dX12_train_14 (kI fun x_3_ U3 h_3_ => ?_)
      obtain ⟨eU3, h_3_⟩ := h_3_
      have eU3 := eU3.symm
      subst eU3
      refine j_if_ne (tgt := 23) C dX12_train_17 (by decide) (fun c_4_ => ?_) (fun c_4_ => ?_)
      · skip
        have b4 := Decidable.not_not.mp (mt bI_0.mpr (h_3_ ▸ c_4_))
        refine j_aload_n C dX12_train_23 rfl (lv_at hl 0 rfl) ?_
        refine j_getR (k := 0) (k2 := 7) C (f_RX12_28_12) (ml (by decide)) (rfl) (rfl) dX12_train_24 ?_
        refine j_iload_n C dX12_train_27 rfl (lv_at hl 1 rfl) ?_
        refine j_ialdE (k := 7) (n := 5) (t := j_1_) C (ml (by decide)) (rfl) (rfl) (ej1) (by omega) (by decide) dX12_train_28 ?_
        refine j_istore_n (lv2 := [(3, .int (V 7 j_1_)), (0, .ref (ad (0))), (1, .int (z0)), (2, .int (z1))]) C dX12_train_29 rfl hl (by decide) rfl (fun ls hl => ?_)
        refine j_aload_n C dX12_train_30 rfl (lv_at hl 1 rfl) ?_
        refine j_getR (k := 0) (k2 := 7) C (f_RX12_28_12) (ml (by decide)) (rfl) (rfl) dX12_train_31 ?_
        refine j_iload_n C dX12_train_34 rfl (lv_at hl 2 rfl) ?_
        refine j_iload_n C dX12_train_35 rfl (lv_at hl 3 rfl) ?_
        refine j_iastE (k := 7) (n := 5) (t := j_1_) C (ml (by decide)) (rfl) (rfl) (ej1) (by omega) (by decide) dX12_train_36 (fun V1 eV1 => ?_)
        refine j_iload_n C dX12_train_37 rfl (lv_at hl 0 rfl) ?_
        refine j_iret C ⟨rfl, _, rfl, ?_⟩ dX12_train_38
        obtain ⟨hin1, hcl1⟩ := inz ej1 hj1 (by omega)
        refine ⟨?_, ?_⟩
        · first | (simp only [if_pos hin1, hcl1, if_pos b4]; done) | (simp only [if_pos hin1, hcl1, if_pos b4]; exact eV1) | (simp only [if_pos hin1, hcl1, if_pos b4]; rw [eV1]; done) | (simp only [if_pos hin1, hcl1, if_pos b4]; exact h_3_) | (simp only [if_pos hin1, hcl1, if_pos b4]; rw [h_3_]; done) | (simp only [if_pos hin1, hcl1, if_pos b4]; rfl)
        · first | (simp only [if_pos hin1, hcl1, if_pos b4]; done) | (simp only [if_pos hin1, hcl1, if_pos b4]; exact h_3_) | (simp only [if_pos hin1, hcl1, if_pos b4]; rw [h_3_]; done) | (simp only [if_pos hin1, hcl1, if_pos b4]; rfl)
      · skip
        have b4 := bI_0.mp (h_3_ ▸ c_4_)
        refine j_bipush (v := (-2)) C dX12_train_20 (by decide) ?_
        refine j_iret C ⟨rfl, _, rfl, ?_⟩ dX12_train_22
        obtain ⟨hin1, hcl1⟩ := inz ej1 hj1 (by omega)
        refine ⟨?_, ?_⟩
        · first | (simp only [if_pos hin1, hcl1, if_neg b4]; done) | (simp only [if_pos hin1, hcl1, if_neg b4]; exact h_3_) | (simp only [if_pos hin1, hcl1, if_neg b4]; rw [h_3_]; done) | (simp only [if_pos hin1, hcl1, if_neg b4]; rfl)
        · first | (simp only [if_pos hin1, hcl1, if_neg b4]; done) | (simp only [if_pos hin1, hcl1, if_neg b4]; exact h_3_) | (simp only [if_pos hin1, hcl1, if_neg b4]; rw [h_3_]; done) | (simp only [if_pos hin1, hcl1, if_neg b4]; rfl)
    · exact absurd c_2_ (by decide)
  · subst ex1
    refine j_if_ne (tgt := 10) C dX12_train_5 (by decide) (fun c_5_ => ?_) (fun c_5_ => ?_)
    · exact absurd rfl c_5_
    · skip
      refine j_iconst (v := (-1)) C dX12_train_8 (by decide) ?_
      refine j_iret C ⟨rfl, _, rfl, ?_⟩ dX12_train_9
      have hot1 := outR ho1
      refine ⟨?_, ?_⟩
      · first | (simp only [if_neg hot1]; done) | (simp only [if_neg hot1]; rfl)
      · first | (simp only [if_neg hot1]; done) | (simp only [if_neg hot1]; rfl)
abbrev rm_X12_measure : Room := { frames := 2, cells := 0, slots := 0, locals := 45 }
set_option maxHeartbeats 4000000 in
set_option maxRecDepth 100000 in
theorem k_X12_measure (l : Launch) (ad : Nat → Nat) (V : Vt) (z0 z1 : Int32) (ng : Nat) (rr : Nat → Nat) (nt c_0_ : Nat) (hM : MI V ng rr nt c_0_)  : Ct l yX12_measure cX12_measure 3 (some .int) rm_X12_measure (mS ad) V [.ref (ad (0)), .int (z0), .int (z1)] (rI fun x V2 => V2 = V ∧ x = if ¬ z0 < 0 ∧ z0 < nI nt then (if ¬ z1 < 0 ∧ z1 < nI ng then nrM V z0.toNatClampNeg z1.toNatClampNeg else -1) else -1) := by
  refine Ct_of (by decide) (Nat.le_of_ble_eq_true rfl) ?_
  intro p e s m below meth c A D cy ls C hl
  have hl : lv_has ls 3 [(0, .ref (ad (0))), (1, .int (z0)), (2, .int (z1))] := hl
  have ng4 := hM.2.1
  have nt5 := hM.2.2.2.1
  refine j_aload_n C dX12_measure_0 rfl (lv_at hl 0 rfl) ?_
  refine j_iload_n C dX12_measure_1 rfl (lv_at hl 1 rfl) ?_
  refine j_callV (k := 0) C [.int (z0)] [] (k_X12_isThrower l ad V (z0)  nt hM.2.2.1 hM.2.2.2.1) v_RX12_170 (ml (by decide)) (rfl) rfl ⟨rfl, rfl, Nat.le_of_ble_eq_true rfl, Nat.le_of_ble_eq_true rfl⟩ rfl hl.1 rfl (Nat.le_of_ble_eq_true rfl) ⟨Nat.le_of_ble_eq_true rfl, Nat.le_of_ble_eq_true rfl⟩ dX12_measure_2 (kI fun x_1_ U1 h_1_ => ?_)
  obtain ⟨eU1, h_1_⟩ := h_1_
  have eU1 := eU1.symm
  subst eU1
  rcases h_1_ with ⟨j_1_, hj1, ej1, ex1⟩ | ⟨ho1, ex1⟩
  · subst ex1
    refine j_if_eq (tgt := 25) C dX12_measure_5 (by decide) (fun c_2_ => ?_) (fun c_2_ => ?_)
    · exact absurd c_2_ (by decide)
    · skip
      refine j_aload_n C dX12_measure_8 rfl (lv_at hl 0 rfl) ?_
      refine j_iload_n C dX12_measure_9 rfl (lv_at hl 2 rfl) ?_
      refine j_callV (k := 0) C [.int (z1)] [] (k_X12_isGirl l ad V (z1)  ng hM.1 (by omega)) v_RX12_161 (ml (by decide)) (rfl) rfl ⟨rfl, rfl, Nat.le_of_ble_eq_true rfl, Nat.le_of_ble_eq_true rfl⟩ rfl hl.1 rfl (Nat.le_of_ble_eq_true rfl) ⟨Nat.le_of_ble_eq_true rfl, Nat.le_of_ble_eq_true rfl⟩ dX12_measure_10 (kI fun x_3_ U3 h_3_ => ?_)
      obtain ⟨eU3, h_3_⟩ := h_3_
      have eU3 := eU3.symm
      subst eU3
      rcases h_3_ with ⟨j_3_, hj3, ej3, ex3⟩ | ⟨ho3, ex3⟩
      · subst ex3
        refine j_if_eq (tgt := 25) C dX12_measure_13 (by decide) (fun c_4_ => ?_) (fun c_4_ => ?_)
        · exact absurd c_4_ (by decide)
        · skip
          refine j_aload_n C dX12_measure_16 rfl (lv_at hl 0 rfl) ?_
          refine j_iload_n C dX12_measure_17 rfl (lv_at hl 1 rfl) ?_
          refine j_iload_n C dX12_measure_18 rfl (lv_at hl 2 rfl) ?_
          refine j_callV (k := 0) C [.int (z0), .int (z1)] [] (k_X12_measureOf l ad V (z0) (z1) j_1_ (ej1) (by omega) j_3_ (ej3) (by omega) ) v_RX12_179 (ml (by decide)) (rfl) rfl ⟨rfl, rfl, Nat.le_of_ble_eq_true rfl, Nat.le_of_ble_eq_true rfl⟩ rfl hl.1 rfl (Nat.le_of_ble_eq_true rfl) ⟨Nat.le_of_ble_eq_true rfl, Nat.le_of_ble_eq_true rfl⟩ dX12_measure_19 (kI fun x_5_ U5 h_5_ => ?_)
          obtain ⟨eU5, h_5_⟩ := h_5_
          have eU5 := eU5.symm
          subst eU5
          refine j_goto (tgt := 26) C dX12_measure_22 (by decide) ?_
          refine j_iret C ⟨rfl, _, rfl, ?_⟩ dX12_measure_26
          obtain ⟨hin1, hcl1⟩ := inz ej1 hj1 (by omega)
          obtain ⟨hin3, hcl3⟩ := inz ej3 hj3 (by omega)
          refine ⟨?_, ?_⟩
          · first | (simp only [if_pos hin1, hcl1, if_pos hin3, hcl3]; done) | (simp only [if_pos hin1, hcl1, if_pos hin3, hcl3]; exact h_5_) | (simp only [if_pos hin1, hcl1, if_pos hin3, hcl3]; rw [h_5_]; done) | (simp only [if_pos hin1, hcl1, if_pos hin3, hcl3]; rfl)
          · first | (simp only [if_pos hin1, hcl1, if_pos hin3, hcl3]; done) | (simp only [if_pos hin1, hcl1, if_pos hin3, hcl3]; exact h_5_) | (simp only [if_pos hin1, hcl1, if_pos hin3, hcl3]; rw [h_5_]; done) | (simp only [if_pos hin1, hcl1, if_pos hin3, hcl3]; rfl)
      · subst ex3
        refine j_if_eq (tgt := 25) C dX12_measure_13 (by decide) (fun c_6_ => ?_) (fun c_6_ => ?_)
        · skip
          refine j_iconst (v := (-1)) C dX12_measure_25 (by decide) ?_
          refine j_iret C ⟨rfl, _, rfl, ?_⟩ dX12_measure_26
          obtain ⟨hin1, hcl1⟩ := inz ej1 hj1 (by omega)
          have hot3 := outR ho3
          refine ⟨?_, ?_⟩
          · first | (simp only [if_pos hin1, hcl1, if_neg hot3]; done) | (simp only [if_pos hin1, hcl1, if_neg hot3]; rfl)
          · first | (simp only [if_pos hin1, hcl1, if_neg hot3]; done) | (simp only [if_pos hin1, hcl1, if_neg hot3]; rfl)
        · exact absurd rfl c_6_
  · subst ex1
    refine j_if_eq (tgt := 25) C dX12_measure_5 (by decide) (fun c_7_ => ?_) (fun c_7_ => ?_)
    · skip
      refine j_iconst (v := (-1)) C dX12_measure_25 (by decide) ?_
      refine j_iret C ⟨rfl, _, rfl, ?_⟩ dX12_measure_26
      have hot1 := outR ho1
      refine ⟨?_, ?_⟩
      · first | (simp only [if_neg hot1]; done) | (simp only [if_neg hot1]; rfl)
      · first | (simp only [if_neg hot1]; done) | (simp only [if_neg hot1]; rfl)
    · exact absurd rfl c_7_
abbrev rm_X12_layOn : Room := { frames := 0, cells := 0, slots := 0, locals := 0 }
set_option maxHeartbeats 4000000 in
set_option maxRecDepth 100000 in
theorem k_X12_layOn (l : Launch) (ad : Nat → Nat) (V : Vt) (z0 z1 z2 : Int32) (g : Nat) (e1 : z1 = nI g) (hg : g < 4) (r : Nat) (hr : V 8 g = nI r) (r8 : r < 8)  : Ct l yX12_layOn cX12_layOn 4 none rm_X12_layOn (mS ad) V [.ref (ad (0)), .int (z0), .int (z1), .int (z2)] (rU fun V2 => V2 = up2 (up2 (up2 V 9 (8 * g + r) z0) 10 (8 * g + r) z2) 8 g (nI (r + 1))) := by
  subst e1
  refine Ct_of (by decide) (Nat.le_of_ble_eq_true rfl) ?_
  intro p e s m below meth c A D cy ls C hl
  have hl : lv_has ls 4 [(0, .ref (ad (0))), (1, .int (z0)), (2, .int (nI g)), (3, .int (z2))] := hl
  refine j_aload_n C dX12_layOn_0 rfl (lv_at hl 0 rfl) ?_
  refine j_getR (k := 0) (k2 := 9) C (f_RX12_34_12) (ml (by decide)) (rfl) (rfl) dX12_layOn_1 ?_
  refine j_bipush (v := 8) C dX12_layOn_4 (by decide) ?_
  refine j_iload_n C dX12_layOn_6 rfl (lv_at hl 2 rfl) ?_
  refine j_imul C dX12_layOn_7 ?_
  refine j_aload_n C dX12_layOn_8 rfl (lv_at hl 0 rfl) ?_
  refine j_getR (k := 0) (k2 := 8) C (f_RX12_31_12) (ml (by decide)) (rfl) (rfl) dX12_layOn_9 ?_
  refine j_iload_n C dX12_layOn_12 rfl (lv_at hl 2 rfl) ?_
  refine j_ialdE (k := 8) (n := 4) (t := g) C (ml (by decide)) (rfl) (rfl) (rfl) (by omega) (by decide) dX12_layOn_13 ?_
  refine j_iadd C dX12_layOn_14 ?_
  refine j_iload_n C dX12_layOn_15 rfl (lv_at hl 1 rfl) ?_
  refine j_iastE (k := 9) (n := 32) (t := 8 * g + r) C (ml (by decide)) (rfl) (rfl) (nA (nM (show (8 : Int32) = nI 8 from rfl) (rfl)) (hr)) (by omega) (by decide) dX12_layOn_16 (fun V1 eV1 => ?_)
  refine j_aload_n C dX12_layOn_17 rfl (lv_at hl 0 rfl) ?_
  refine j_getR (k := 0) (k2 := 10) C (f_RX12_37_12) (ml (by decide)) (rfl) (rfl) dX12_layOn_18 ?_
  refine j_bipush (v := 8) C dX12_layOn_21 (by decide) ?_
  refine j_iload_n C dX12_layOn_23 rfl (lv_at hl 2 rfl) ?_
  refine j_imul C dX12_layOn_24 ?_
  refine j_aload_n C dX12_layOn_25 rfl (lv_at hl 0 rfl) ?_
  refine j_getR (k := 0) (k2 := 8) C (f_RX12_31_12) (ml (by decide)) (rfl) (rfl) dX12_layOn_26 ?_
  refine j_iload_n C dX12_layOn_29 rfl (lv_at hl 2 rfl) ?_
  refine j_ialdE (k := 8) (n := 4) (t := g) C (ml (by decide)) (rfl) (rfl) (rfl) (by omega) (by decide) dX12_layOn_30 ?_
  refine j_iadd C dX12_layOn_31 ?_
  refine j_iload_n C dX12_layOn_32 rfl (lv_at hl 3 rfl) ?_
  refine j_iastE (k := 10) (n := 32) (t := 8 * g + r) C (ml (by decide)) (rfl) (rfl) (nA (nM (show (8 : Int32) = nI 8 from rfl) (rfl)) ((by rw [eV1, up2_k _ _ (by decide)]; exact hr : V1 8 g = nI r))) (by omega) (by decide) dX12_layOn_33 (fun V2 eV2 => ?_)
  refine j_aload_n C dX12_layOn_34 rfl (lv_at hl 0 rfl) ?_
  refine j_getR (k := 0) (k2 := 8) C (f_RX12_31_12) (ml (by decide)) (rfl) (rfl) dX12_layOn_35 ?_
  refine j_iload_n C dX12_layOn_38 rfl (lv_at hl 2 rfl) ?_
  refine j_dup2 C dX12_layOn_39 rfl rfl ?_
  refine j_ialdE (k := 8) (n := 4) (t := g) C (ml (by decide)) (rfl) (rfl) (rfl) (by omega) (by decide) dX12_layOn_40 ?_
  refine j_iconst (v := 1) C dX12_layOn_41 (by decide) ?_
  refine j_iadd C dX12_layOn_42 ?_
  refine j_iastE (k := 8) (n := 4) (t := g) C (ml (by decide)) (rfl) (rfl) (rfl) (by omega) (by decide) dX12_layOn_43 (fun V3 eV3 => ?_)
  refine j_vret C ⟨rfl, rfl, ?_⟩ dX12_layOn_44
  rw [eV3, eV2, eV1, up2_k _ _ (by decide), up2_k _ _ (by decide), hr, nI_1]
abbrev rm_X12_hurl : Room := { frames := 2, cells := 0, slots := 0, locals := 45 }
set_option maxHeartbeats 4000000 in
set_option maxRecDepth 100000 in
theorem k_X12_hurl (l : Launch) (ad : Nat → Nat) (V : Vt) (z0 z1 : Int32) (ng : Nat) (rr : Nat → Nat) (nt c_0_ : Nat) (hM : MI V ng rr nt c_0_)  : Ct l yX12_hurl cX12_hurl 4 (some .int) rm_X12_hurl (mS ad) V [.ref (ad (0)), .int (z0), .int (z1)] (rI fun x V2 => (V2 = if ¬ z0 < 0 ∧ z0 < nI nt then (if ¬ z1 < 0 ∧ z1 < nI ng then (if rr z1.toNatClampNeg < 8 then up2 (up2 (up2 V 9 (8 * z1.toNatClampNeg + rr z1.toNatClampNeg) z0) 10 (8 * z1.toNatClampNeg + rr z1.toNatClampNeg) (nrM V z0.toNatClampNeg z1.toNatClampNeg)) 8 z1.toNatClampNeg (nI (rr z1.toNatClampNeg + 1)) else V) else V) else V) ∧ x = if ¬ z0 < 0 ∧ z0 < nI nt then (if ¬ z1 < 0 ∧ z1 < nI ng then (if rr z1.toNatClampNeg < 8 then nrM V z0.toNatClampNeg z1.toNatClampNeg else -4) else -1) else -1) := by
  refine Ct_of (by decide) (Nat.le_of_ble_eq_true rfl) ?_
  intro p e s m below meth c A D cy ls C hl
  have hl : lv_has ls 4 [(0, .ref (ad (0))), (1, .int (z0)), (2, .int (z1))] := hl
  have ng4 := hM.2.1
  have nt5 := hM.2.2.2.1
  refine j_aload_n C dX12_hurl_0 rfl (lv_at hl 0 rfl) ?_
  refine j_iload_n C dX12_hurl_1 rfl (lv_at hl 1 rfl) ?_
  refine j_callV (k := 0) C [.int (z0)] [] (k_X12_isThrower l ad V (z0)  nt hM.2.2.1 hM.2.2.2.1) v_RX12_170 (ml (by decide)) (rfl) rfl ⟨rfl, rfl, Nat.le_of_ble_eq_true rfl, Nat.le_of_ble_eq_true rfl⟩ rfl hl.1 rfl (Nat.le_of_ble_eq_true rfl) ⟨Nat.le_of_ble_eq_true rfl, Nat.le_of_ble_eq_true rfl⟩ dX12_hurl_2 (kI fun x_1_ U1 h_1_ => ?_)
  obtain ⟨eU1, h_1_⟩ := h_1_
  have eU1 := eU1.symm
  subst eU1
  rcases h_1_ with ⟨j_1_, hj1, ej1, ex1⟩ | ⟨ho1, ex1⟩
  · subst ex1
    refine j_if_eq (tgt := 16) C dX12_hurl_5 (by decide) (fun c_2_ => ?_) (fun c_2_ => ?_)
    · exact absurd c_2_ (by decide)
    · skip
      refine j_aload_n C dX12_hurl_8 rfl (lv_at hl 0 rfl) ?_
      refine j_iload_n C dX12_hurl_9 rfl (lv_at hl 2 rfl) ?_
      refine j_callV (k := 0) C [.int (z1)] [] (k_X12_isGirl l ad V (z1)  ng hM.1 (by omega)) v_RX12_161 (ml (by decide)) (rfl) rfl ⟨rfl, rfl, Nat.le_of_ble_eq_true rfl, Nat.le_of_ble_eq_true rfl⟩ rfl hl.1 rfl (Nat.le_of_ble_eq_true rfl) ⟨Nat.le_of_ble_eq_true rfl, Nat.le_of_ble_eq_true rfl⟩ dX12_hurl_10 (kI fun x_3_ U3 h_3_ => ?_)
      obtain ⟨eU3, h_3_⟩ := h_3_
      have eU3 := eU3.symm
      subst eU3
      rcases h_3_ with ⟨j_3_, hj3, ej3, ex3⟩ | ⟨ho3, ex3⟩
      · subst ex3
        have hr3 := (hM.2.2.2.2.1 _ hj3).2
        refine j_if_ne (tgt := 18) C dX12_hurl_13 (by decide) (fun c_4_ => ?_) (fun c_4_ => ?_)
        · skip
          refine j_aload_n C dX12_hurl_18 rfl (lv_at hl 0 rfl) ?_
          refine j_getR (k := 0) (k2 := 8) C (f_RX12_31_12) (ml (by decide)) (rfl) (rfl) dX12_hurl_19 ?_
          refine j_iload_n C dX12_hurl_22 rfl (lv_at hl 2 rfl) ?_
          refine j_ialdE (k := 8) (n := 4) (t := j_3_) C (ml (by decide)) (rfl) (rfl) (ej3) (by omega) (by decide) dX12_hurl_23 ?_
          refine j_bipush (v := 8) C dX12_hurl_24 (by decide) ?_
          refine j_icmp_ne (tgt := 32) C dX12_hurl_26 (by decide) (fun c_5_ => ?_) (fun c_5_ => ?_)
          · skip
            have q5 := cNq ((hM.2.2.2.2.1 _ hj3).1) (show (8 : Int32) = nI 8 from rfl) (by omega) (by omega) c_5_
            refine j_aload_n C dX12_hurl_32 rfl (lv_at hl 0 rfl) ?_
            refine j_iload_n C dX12_hurl_33 rfl (lv_at hl 1 rfl) ?_
            refine j_iload_n C dX12_hurl_34 rfl (lv_at hl 2 rfl) ?_
            refine j_callV (k := 0) C [.int (z0), .int (z1)] [] (k_X12_measureOf l ad V (z0) (z1) j_1_ (ej1) (by omega) j_3_ (ej3) (by omega) ) v_RX12_179 (ml (by decide)) (rfl) rfl ⟨rfl, rfl, Nat.le_of_ble_eq_true rfl, Nat.le_of_ble_eq_true rfl⟩ rfl hl.1 rfl (Nat.le_of_ble_eq_true rfl) ⟨Nat.le_of_ble_eq_true rfl, Nat.le_of_ble_eq_true rfl⟩ dX12_hurl_35 (kI fun x_6_ U6 h_6_ => ?_)
            obtain ⟨eU6, h_6_⟩ := h_6_
            have eU6 := eU6.symm
            subst eU6
            refine j_istore_n (lv2 := [(3, .int (x_6_)), (0, .ref (ad (0))), (1, .int (z0)), (2, .int (z1))]) C dX12_hurl_38 rfl hl (by decide) rfl (fun ls hl => ?_)
            refine j_aload_n C dX12_hurl_39 rfl (lv_at hl 1 rfl) ?_
            refine j_iload_n C dX12_hurl_40 rfl (lv_at hl 2 rfl) ?_
            refine j_iload_n C dX12_hurl_41 rfl (lv_at hl 3 rfl) ?_
            refine j_iload_n C dX12_hurl_42 rfl (lv_at hl 0 rfl) ?_
            refine j_callV (k := 0) C [.int (z0), .int (z1), .int (x_6_)] [] (k_X12_layOn l ad V (z0) (z1) (x_6_) j_3_ (ej3) (by omega) (rr j_3_) (hM.2.2.2.2.1 _ hj3).1 (by omega)) v_RX12_182 (ml (by decide)) (rfl) rfl ⟨rfl, rfl, Nat.le_of_ble_eq_true rfl, Nat.le_of_ble_eq_true rfl⟩ rfl hl.1 rfl (Nat.le_of_ble_eq_true rfl) ⟨Nat.le_of_ble_eq_true rfl, Nat.le_of_ble_eq_true rfl⟩ dX12_hurl_43 (kU fun U7 h_7_ => ?_)
            refine j_iload_n C dX12_hurl_46 rfl (lv_at hl 0 rfl) ?_
            refine j_iret C ⟨rfl, _, rfl, ?_⟩ dX12_hurl_47
            rw [h_6_] at h_7_
            obtain ⟨hin1, hcl1⟩ := inz ej1 hj1 (by omega)
            obtain ⟨hin3, hcl3⟩ := inz ej3 hj3 (by omega)
            have e8 : rr j_3_ < 8 := by omega
            refine ⟨?_, ?_⟩
            · first | (simp only [if_pos hin1, hcl1, if_pos hin3, hcl3, if_pos e8]; done) | (simp only [if_pos hin1, hcl1, if_pos hin3, hcl3, if_pos e8]; exact h_7_) | (simp only [if_pos hin1, hcl1, if_pos hin3, hcl3, if_pos e8]; rw [h_7_]; done) | (simp only [if_pos hin1, hcl1, if_pos hin3, hcl3, if_pos e8]; rfl)
            · first | (simp only [if_pos hin1, hcl1, if_pos hin3, hcl3, if_pos e8]; done) | (simp only [if_pos hin1, hcl1, if_pos hin3, hcl3, if_pos e8]; exact h_6_) | (simp only [if_pos hin1, hcl1, if_pos hin3, hcl3, if_pos e8]; rw [h_6_]; done) | (simp only [if_pos hin1, hcl1, if_pos hin3, hcl3, if_pos e8]; exact h_7_) | (simp only [if_pos hin1, hcl1, if_pos hin3, hcl3, if_pos e8]; rw [h_7_]; done) | (simp only [if_pos hin1, hcl1, if_pos hin3, hcl3, if_pos e8]; rfl)
          · skip
            have q5 := cEq ((hM.2.2.2.2.1 _ hj3).1) (show (8 : Int32) = nI 8 from rfl) (by omega) (by omega) c_5_
            refine j_bipush (v := (-4)) C dX12_hurl_29 (by decide) ?_
            refine j_iret C ⟨rfl, _, rfl, ?_⟩ dX12_hurl_31
            obtain ⟨hin1, hcl1⟩ := inz ej1 hj1 (by omega)
            obtain ⟨hin3, hcl3⟩ := inz ej3 hj3 (by omega)
            have e8 : ¬ rr j_3_ < 8 := by omega
            refine ⟨?_, ?_⟩
            · first | (simp only [if_pos hin1, hcl1, if_pos hin3, hcl3, if_neg e8]; done) | (simp only [if_pos hin1, hcl1, if_pos hin3, hcl3, if_neg e8]; rfl)
            · first | (simp only [if_pos hin1, hcl1, if_pos hin3, hcl3, if_neg e8]; done) | (simp only [if_pos hin1, hcl1, if_pos hin3, hcl3, if_neg e8]; rfl)
        · exact absurd c_4_ (by decide)
      · subst ex3
        refine j_if_ne (tgt := 18) C dX12_hurl_13 (by decide) (fun c_8_ => ?_) (fun c_8_ => ?_)
        · exact absurd rfl c_8_
        · skip
          refine j_iconst (v := (-1)) C dX12_hurl_16 (by decide) ?_
          refine j_iret C ⟨rfl, _, rfl, ?_⟩ dX12_hurl_17
          obtain ⟨hin1, hcl1⟩ := inz ej1 hj1 (by omega)
          have hot3 := outR ho3
          refine ⟨?_, ?_⟩
          · first | (simp only [if_pos hin1, hcl1, if_neg hot3]; done) | (simp only [if_pos hin1, hcl1, if_neg hot3]; rfl)
          · first | (simp only [if_pos hin1, hcl1, if_neg hot3]; done) | (simp only [if_pos hin1, hcl1, if_neg hot3]; rfl)
  · subst ex1
    refine j_if_eq (tgt := 16) C dX12_hurl_5 (by decide) (fun c_9_ => ?_) (fun c_9_ => ?_)
    · skip
      refine j_iconst (v := (-1)) C dX12_hurl_16 (by decide) ?_
      refine j_iret C ⟨rfl, _, rfl, ?_⟩ dX12_hurl_17
      have hot1 := outR ho1
      refine ⟨?_, ?_⟩
      · first | (simp only [if_neg hot1]; done) | (simp only [if_neg hot1]; rfl)
      · first | (simp only [if_neg hot1]; done) | (simp only [if_neg hot1]; rfl)
    · exact absurd rfl c_9_
abbrev rm_X12_lift : Room := { frames := 1, cells := 0, slots := 0, locals := 21 }
set_option maxHeartbeats 4000000 in
set_option maxRecDepth 100000 in
theorem k_X12_lift (l : Launch) (ad : Nat → Nat) (V : Vt) (z0 : Int32) (ng : Nat) (rr : Nat → Nat) (nt c_0_ : Nat) (hM : MI V ng rr nt c_0_)  : Ct l yX12_lift cX12_lift 2 (some .int) rm_X12_lift (mS ad) V [.ref (ad (0)), .int (z0)] (rI fun x V2 => (V2 = if ¬ z0 < 0 ∧ z0 < nI ng then (if rr z0.toNatClampNeg = 0 then V else up2 V 8 z0.toNatClampNeg (nI (rr z0.toNatClampNeg - 1))) else V) ∧ x = if ¬ z0 < 0 ∧ z0 < nI ng then (if rr z0.toNatClampNeg = 0 then -3 else V 9 (8 * z0.toNatClampNeg + (rr z0.toNatClampNeg - 1))) else -1) := by
  refine Ct_of (by decide) (Nat.le_of_ble_eq_true rfl) ?_
  intro p e s m below meth c A D cy ls C hl
  have hl : lv_has ls 2 [(0, .ref (ad (0))), (1, .int (z0))] := hl
  have ng4 := hM.2.1
  have nt5 := hM.2.2.2.1
  refine j_aload_n C dX12_lift_0 rfl (lv_at hl 0 rfl) ?_
  refine j_iload_n C dX12_lift_1 rfl (lv_at hl 1 rfl) ?_
  refine j_callV (k := 0) C [.int (z0)] [] (k_X12_isGirl l ad V (z0)  ng hM.1 (by omega)) v_RX12_161 (ml (by decide)) (rfl) rfl ⟨rfl, rfl, Nat.le_of_ble_eq_true rfl, Nat.le_of_ble_eq_true rfl⟩ rfl hl.1 rfl (Nat.le_of_ble_eq_true rfl) ⟨Nat.le_of_ble_eq_true rfl, Nat.le_of_ble_eq_true rfl⟩ dX12_lift_2 (kI fun x_1_ U1 h_1_ => ?_)
  obtain ⟨eU1, h_1_⟩ := h_1_
  have eU1 := eU1.symm
  subst eU1
  rcases h_1_ with ⟨j_1_, hj1, ej1, ex1⟩ | ⟨ho1, ex1⟩
  · subst ex1
    have hr1 := (hM.2.2.2.2.1 _ hj1).2
    refine j_if_ne (tgt := 10) C dX12_lift_5 (by decide) (fun c_2_ => ?_) (fun c_2_ => ?_)
    · skip
      refine j_aload_n C dX12_lift_10 rfl (lv_at hl 0 rfl) ?_
      refine j_getR (k := 0) (k2 := 8) C (f_RX12_31_12) (ml (by decide)) (rfl) (rfl) dX12_lift_11 ?_
      refine j_iload_n C dX12_lift_14 rfl (lv_at hl 1 rfl) ?_
      refine j_ialdE (k := 8) (n := 4) (t := j_1_) C (ml (by decide)) (rfl) (rfl) (ej1) (by omega) (by decide) dX12_lift_15 ?_
      refine j_if_ne (tgt := 22) C dX12_lift_16 (by decide) (fun c_3_ => ?_) (fun c_3_ => ?_)
      · skip
        have q3 := cNq ((hM.2.2.2.2.1 _ hj1).1) (show (0 : Int32) = nI 0 from rfl) (by omega) (by omega) c_3_
        obtain ⟨r9, er8⟩ : ∃ r9, rr j_1_ = r9 + 1 := ⟨rr j_1_ - 1, by omega⟩
        refine j_aload_n C dX12_lift_22 rfl (lv_at hl 0 rfl) ?_
        refine j_getR (k := 0) (k2 := 8) C (f_RX12_31_12) (ml (by decide)) (rfl) (rfl) dX12_lift_23 ?_
        refine j_iload_n C dX12_lift_26 rfl (lv_at hl 1 rfl) ?_
        refine j_dup2 C dX12_lift_27 rfl rfl ?_
        refine j_ialdE (k := 8) (n := 4) (t := j_1_) C (ml (by decide)) (rfl) (rfl) (ej1) (by omega) (by decide) dX12_lift_28 ?_
        refine j_iconst (v := 1) C dX12_lift_29 (by decide) ?_
        refine j_isub C dX12_lift_30 ?_
        refine j_iastE (k := 8) (n := 4) (t := j_1_) C (ml (by decide)) (rfl) (rfl) (ej1) (by omega) (by decide) dX12_lift_31 (fun V1 eV1 => ?_)
        refine j_aload_n C dX12_lift_32 rfl (lv_at hl 0 rfl) ?_
        refine j_getR (k := 0) (k2 := 9) C (f_RX12_34_12) (ml (by decide)) (rfl) (rfl) dX12_lift_33 ?_
        refine j_bipush (v := 8) C dX12_lift_36 (by decide) ?_
        refine j_iload_n C dX12_lift_38 rfl (lv_at hl 1 rfl) ?_
        refine j_imul C dX12_lift_39 ?_
        refine j_aload_n C dX12_lift_40 rfl (lv_at hl 0 rfl) ?_
        refine j_getR (k := 0) (k2 := 8) C (f_RX12_31_12) (ml (by decide)) (rfl) (rfl) dX12_lift_41 ?_
        refine j_iload_n C dX12_lift_44 rfl (lv_at hl 1 rfl) ?_
        refine j_ialdE (k := 8) (n := 4) (t := j_1_) C (ml (by decide)) (rfl) (rfl) (ej1) (by omega) (by decide) dX12_lift_45 ?_
        refine j_iadd C dX12_lift_46 ?_
        refine j_ialdE (k := 9) (n := 32) (t := 8 * j_1_ + r9) C (ml (by decide)) (rfl) (rfl) (nA (nM (show (8 : Int32) = nI 8 from rfl) (ej1)) ((by rw [eV1, up2_s]; exact nS1 (by rw [(hM.2.2.2.2.1 j_1_ hj1).1, er8]) : V1 8 j_1_ = nI r9))) (by omega) (by decide) dX12_lift_47 ?_
        refine j_iret C ⟨rfl, _, rfl, ?_⟩ dX12_lift_48
        obtain ⟨hin1, hcl1⟩ := inz ej1 hj1 (by omega)
        have nz8 : ¬ rr j_1_ = 0 := by omega
        have er9 : rr j_1_ - 1 = r9 := by omega
        have ev : V 8 j_1_ - 1 = nI r9 := nS1 (by rw [(hM.2.2.2.2.1 j_1_ hj1).1, er8])
        rw [ev] at eV1
        refine ⟨?_, ?_⟩
        · simp only [if_pos hin1, hcl1, if_neg nz8, er9]
          exact eV1
        · simp only [if_pos hin1, hcl1, if_neg nz8, er9]
          rw [eV1, up2_k _ _ (by decide)]
      · skip
        have q3 := cEq ((hM.2.2.2.2.1 _ hj1).1) (show (0 : Int32) = nI 0 from rfl) (by omega) (by omega) c_3_
        refine j_bipush (v := (-3)) C dX12_lift_19 (by decide) ?_
        refine j_iret C ⟨rfl, _, rfl, ?_⟩ dX12_lift_21
        obtain ⟨hin1, hcl1⟩ := inz ej1 hj1 (by omega)
        refine ⟨?_, ?_⟩ <;> simp only [if_pos hin1, hcl1, if_pos q3]
    · exact absurd c_2_ (by decide)
  · subst ex1
    refine j_if_ne (tgt := 10) C dX12_lift_5 (by decide) (fun c_4_ => ?_) (fun c_4_ => ?_)
    · exact absurd rfl c_4_
    · skip
      refine j_iconst (v := (-1)) C dX12_lift_8 (by decide) ?_
      refine j_iret C ⟨rfl, _, rfl, ?_⟩ dX12_lift_9
      have hot1 := outR ho1
      refine ⟨?_, ?_⟩ <;> rw [if_neg hot1]
abbrev rm_X12_clear : Room := { frames := 1, cells := 0, slots := 0, locals := 21 }
set_option maxHeartbeats 4000000 in
set_option maxRecDepth 100000 in
theorem k_X12_clear (l : Launch) (ad : Nat → Nat) (V : Vt) (z0 : Int32) (ng : Nat) (rr : Nat → Nat) (nt c_0_ : Nat) (hM : MI V ng rr nt c_0_)  : Ct l yX12_clear cX12_clear 3 (some .int) rm_X12_clear (mS ad) V [.ref (ad (0)), .int (z0)] (rI fun x V2 => (V2 = if ¬ z0 < 0 ∧ z0 < nI ng then up2 V 8 z0.toNatClampNeg 0 else V) ∧ x = if ¬ z0 < 0 ∧ z0 < nI ng then V 8 z0.toNatClampNeg else -1) := by
  refine Ct_of (by decide) (Nat.le_of_ble_eq_true rfl) ?_
  intro p e s m below meth c A D cy ls C hl
  have hl : lv_has ls 3 [(0, .ref (ad (0))), (1, .int (z0))] := hl
  have ng4 := hM.2.1
  have nt5 := hM.2.2.2.1
  refine j_aload_n C dX12_clear_0 rfl (lv_at hl 0 rfl) ?_
  refine j_iload_n C dX12_clear_1 rfl (lv_at hl 1 rfl) ?_
  refine j_callV (k := 0) C [.int (z0)] [] (k_X12_isGirl l ad V (z0)  ng hM.1 (by omega)) v_RX12_161 (ml (by decide)) (rfl) rfl ⟨rfl, rfl, Nat.le_of_ble_eq_true rfl, Nat.le_of_ble_eq_true rfl⟩ rfl hl.1 rfl (Nat.le_of_ble_eq_true rfl) ⟨Nat.le_of_ble_eq_true rfl, Nat.le_of_ble_eq_true rfl⟩ dX12_clear_2 (kI fun x_1_ U1 h_1_ => ?_)
  obtain ⟨eU1, h_1_⟩ := h_1_
  have eU1 := eU1.symm
  subst eU1
  rcases h_1_ with ⟨j_1_, hj1, ej1, ex1⟩ | ⟨ho1, ex1⟩
  · subst ex1
    refine j_if_ne (tgt := 10) C dX12_clear_5 (by decide) (fun c_2_ => ?_) (fun c_2_ => ?_)
    · skip
      refine j_aload_n C dX12_clear_10 rfl (lv_at hl 0 rfl) ?_
      refine j_getR (k := 0) (k2 := 8) C (f_RX12_31_12) (ml (by decide)) (rfl) (rfl) dX12_clear_11 ?_
      refine j_iload_n C dX12_clear_14 rfl (lv_at hl 1 rfl) ?_
      refine j_ialdE (k := 8) (n := 4) (t := j_1_) C (ml (by decide)) (rfl) (rfl) (ej1) (by omega) (by decide) dX12_clear_15 ?_
      refine j_istore_n (lv2 := [(2, .int (V 8 j_1_)), (0, .ref (ad (0))), (1, .int (z0))]) C dX12_clear_16 rfl hl (by decide) rfl (fun ls hl => ?_)
      refine j_aload_n C dX12_clear_17 rfl (lv_at hl 1 rfl) ?_
      refine j_getR (k := 0) (k2 := 8) C (f_RX12_31_12) (ml (by decide)) (rfl) (rfl) dX12_clear_18 ?_
      refine j_iload_n C dX12_clear_21 rfl (lv_at hl 2 rfl) ?_
      refine j_iconst (v := 0) C dX12_clear_22 (by decide) ?_
      refine j_iastE (k := 8) (n := 4) (t := j_1_) C (ml (by decide)) (rfl) (rfl) (ej1) (by omega) (by decide) dX12_clear_23 (fun V1 eV1 => ?_)
      refine j_iload_n C dX12_clear_24 rfl (lv_at hl 0 rfl) ?_
      refine j_iret C ⟨rfl, _, rfl, ?_⟩ dX12_clear_25
      obtain ⟨hin1, hcl1⟩ := inz ej1 hj1 (by omega)
      refine ⟨?_, ?_⟩
      · first | (simp only [if_pos hin1, hcl1]; done) | (simp only [if_pos hin1, hcl1]; exact eV1) | (simp only [if_pos hin1, hcl1]; rw [eV1]; done) | (simp only [if_pos hin1, hcl1]; rfl)
      · first | (simp only [if_pos hin1, hcl1]; done) | (simp only [if_pos hin1, hcl1]; rfl)
    · exact absurd c_2_ (by decide)
  · subst ex1
    refine j_if_ne (tgt := 10) C dX12_clear_5 (by decide) (fun c_3_ => ?_) (fun c_3_ => ?_)
    · exact absurd rfl c_3_
    · skip
      refine j_iconst (v := (-1)) C dX12_clear_8 (by decide) ?_
      refine j_iret C ⟨rfl, _, rfl, ?_⟩ dX12_clear_9
      have hot1 := outR ho1
      refine ⟨?_, ?_⟩
      · first | (simp only [if_neg hot1]; done) | (simp only [if_neg hot1]; rfl)
      · first | (simp only [if_neg hot1]; done) | (simp only [if_neg hot1]; rfl)
