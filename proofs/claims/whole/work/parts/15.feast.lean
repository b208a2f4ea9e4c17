/-- a throw in the feast: thrower t at girl j of the told clay, with whom r rings lie, of measure d -/
def thV (V : Vt) (t j r : Nat) (d : Int32) : Vt :=
  let W := if d = 0 then up2 (up2 V 14 2 (V 14 2 + 1)) 14 3 (V 14 3 + (if 0 < cntI (fun q => V (15 + 2 + 3 * j + 2) q = 0) r then 1 else 0)) else V
  up2 (up2 (up2 W (15 + 2 + 3 * j + 1) r (V (56 + t) 0)) (15 + 2 + 3 * j + 2) r d) (15 + 2 + 3 * j) 2 (nI (r + 1))
def ansI (V : Vt) (ng : Nat) (rr : Nat → Nat) (z : Int32) : Int32 :=
  if z = 1 then V 14 1 else if ¬ V 14 1 = -9 then -100 - V 14 1 else
  if z = 0 then nI (cntI (fun g => ¬ hoC V 15 rr g = -9) ng) else if z = 2 then V 14 2 else if z = 3 then V 14 3 else if z = 4 then V 15 0 else
  if ¬ z - 10 < 0 ∧ z - 10 < nI ng then hoC V 15 rr (z - 10).toNatClampNeg else -9
abbrev rm_X1_begin : Room := { frames := 3, cells := 0, slots := 0, locals := 68 }
set_option maxHeartbeats 4000000 in
set_option maxRecDepth 100000 in
theorem k_X1_begin (l : Launch) (ad tk : Nat → Nat) (nt : Nat) (V : Vt) (ng : Nat) (rr : Nat → Nat) (hI : ClI V 0 ng rr)  : Ct l yX1_begin cX1_begin 2 none rm_X1_begin (xS ad tk nt) V [.ref (ad (14)), .ref (ad (0))] (rU fun V2 => V2 = up2 (up2 (up2 (bcL V 15 0 rr ng) 14 1 (-9)) 14 2 0) 14 3 0) := by
  refine Ct_of (by decide) (Nat.le_of_ble_eq_true rfl) ?_
  intro p e s m below meth c A D cy ls C hl
  have hl : lv_has ls 2 [(0, .ref (ad (14))), (1, .ref (ad (0)))] := hl
  refine j_aload_n C dX1_begin_0 rfl (lv_at hl 0 rfl) ?_
  refine j_getR (k := 14) (k2 := 15) C (f_RX1_12_1) (xl (by decide)) (rfl) (rfl) dX1_begin_1 ?_
  refine j_aload_n C dX1_begin_4 rfl (lv_at hl 1 rfl) ?_
  refine j_callV (k := 15) C [.ref (ad (0))] [] (k_X0_becomeLike l ad tk nt V 15 (Or.inr rfl) 0 (Or.inl rfl) (by decide) ng rr hI) v_RX1_18 (xl (xC (tk := tk) (nt := nt) (k := 15) (Or.inr rfl)).1.1) ((xC (tk := tk) (nt := nt) (k := 15) (Or.inr rfl)).2.1) rfl ⟨rfl, rfl, Nat.le_of_ble_eq_true rfl, Nat.le_of_ble_eq_true rfl⟩ rfl hl.1 rfl (Nat.le_of_ble_eq_true rfl) ⟨Nat.le_of_ble_eq_true rfl, Nat.le_of_ble_eq_true rfl⟩ dX1_begin_5 (kU fun U1 h_1_ => ?_)
  refine j_aload_n C dX1_begin_8 rfl (lv_at hl 0 rfl) ?_
  refine j_bipush (v := (-9)) C dX1_begin_9 (by decide) ?_
  refine j_putI (k := 14) C (f_RX1_22_1) p_1_1 (xl (by decide)) (rfl) dX1_begin_11 (fun V1 eV1 => ?_)
  refine j_aload_n C dX1_begin_14 rfl (lv_at hl 0 rfl) ?_
  refine j_iconst (v := 0) C dX1_begin_15 (by decide) ?_
  refine j_putI (k := 14) C (f_RX1_26_1) p_1_2 (xl (by decide)) (rfl) dX1_begin_16 (fun V2 eV2 => ?_)
  refine j_aload_n C dX1_begin_19 rfl (lv_at hl 0 rfl) ?_
  refine j_iconst (v := 0) C dX1_begin_20 (by decide) ?_
  refine j_putI (k := 14) C (f_RX1_29_1) p_1_3 (xl (by decide)) (rfl) dX1_begin_21 (fun V3 eV3 => ?_)
  refine j_vret C ⟨rfl, rfl, ?_⟩ dX1_begin_24
  rw [eV3, eV2, eV1, h_1_]
abbrev rm_X1_clears : Room := { frames := 1, cells := 0, slots := 0, locals := 21 }
set_option maxHeartbeats 4000000 in
set_option maxRecDepth 100000 in
theorem k_X1_clears (l : Launch) (ad tk : Nat → Nat) (nt : Nat) (V : Vt) (ng : Nat) (rr : Nat → Nat) (hI : ClI V 15 ng rr) (z : Int32) : Ct l yX1_clears cX1_clears 3 (some .boolean) rm_X1_clears (xS ad tk nt) V [.ref (ad (14)), .int (z)] (rI fun x V2 => (∃ j : Nat, j < ng ∧ z = nI j ∧ x = 1 ∧ V2 = up2 V (15 + 2 + 3 * j) 2 0) ∨ ((z < 0 ∨ nI ng ≤ z) ∧ x = 0 ∧ V2 = V)) := by
  refine Ct_of (by decide) (Nat.le_of_ble_eq_true rfl) ?_
  intro p e s m below meth c A D cy ls C hl
  have hl : lv_has ls 3 [(0, .ref (ad (14))), (1, .int (z))] := hl
  have h_4_ := hI.2.1
  refine j_aload_n C dX1_clears_0 rfl (lv_at hl 0 rfl) ?_
  refine j_getR (k := 14) (k2 := 15) C (f_RX1_12_1) (xl (by decide)) (rfl) (rfl) dX1_clears_1 ?_
  refine j_iload_n C dX1_clears_4 rfl (lv_at hl 1 rfl) ?_
  refine j_callV (k := 15) C [.int (z)] [] (k_X0_girlAt l ad tk nt V 15 (Or.inr rfl) ng hI.1 hI.2.1 (z)) v_RX1_32 (xl (xC (tk := tk) (nt := nt) (k := 15) (Or.inr rfl)).1.1) ((xC (tk := tk) (nt := nt) (k := 15) (Or.inr rfl)).2.1) rfl ⟨rfl, rfl, Nat.le_of_ble_eq_true rfl, Nat.le_of_ble_eq_true rfl⟩ rfl hl.1 rfl (Nat.le_of_ble_eq_true rfl) ⟨Nat.le_of_ble_eq_true rfl, Nat.le_of_ble_eq_true rfl⟩ dX1_clears_5 (kA fun x_1_ U1 h_1_ => ?_)
  obtain ⟨eU1, h_1_⟩ := h_1_
  have eU1 := eU1.symm
  subst eU1
  rcases h_1_ with ⟨j_1_, hj1, ej1, ev1⟩ | ⟨ho1, ev1⟩
  · subst ev1
    refine j_astore_n (lv2 := [(2, .ref (ad (15 + 2 + 3 * j_1_))), (0, .ref (ad (14))), (1, .int (z))]) C dX1_clears_8 rfl hl (by decide) rfl (fun ls hl => ?_)
    refine j_aload_n C dX1_clears_9 rfl (lv_at hl 0 rfl) ?_
    refine j_ifnonnull (tgt := 15) C dX1_clears_10 (by decide) ?_
    refine j_aload_n C dX1_clears_15 rfl (lv_at hl 0 rfl) ?_
    refine j_iconst (v := 0) C dX1_clears_16 (by decide) ?_
    refine j_putI (k := 15 + 2 + 3 * j_1_) C (f_RX1_64_2) p_2_2 (xl (xG (tk := tk) (nt := nt) (xCg (nt := nt) (Or.inr rfl) (by omega : j_1_ < 4)).1).1.1) ((xG (tk := tk) (nt := nt) (xCg (nt := nt) (Or.inr rfl) (by omega : j_1_ < 4)).1).2.1) dX1_clears_17 (fun V1 eV1 => ?_)
    refine j_iconst (v := 1) C dX1_clears_20 (by decide) ?_
    refine j_zret C rfl ⟨rfl, _, rfl, ?_⟩ dX1_clears_21
    exact Or.inl ⟨j_1_, hj1, ej1, rfl, eV1⟩
  · subst ev1
    refine j_astore_nN (lv2 := [(2, .null), (0, .ref (ad (14))), (1, .int (z))]) C dX1_clears_8 rfl hl (by decide) rfl (fun ls hl => ?_)
    refine j_aload_nN C dX1_clears_9 rfl (lv_at hl 0 rfl) ?_
    refine j_ifnonnullN C dX1_clears_10 ?_
    refine j_iconst (v := 0) C dX1_clears_13 (by decide) ?_
    refine j_zret C rfl ⟨rfl, _, rfl, ?_⟩ dX1_clears_14
    exact Or.inr ⟨ho1, rfl, rfl⟩
abbrev rm_X1_answer : Room := { frames := 5, cells := 0, slots := 0, locals := 108 }
set_option maxHeartbeats 4000000 in
set_option maxRecDepth 100000 in
theorem k_X1_answer (l : Launch) (ad tk : Nat → Nat) (nt : Nat) (V : Vt) (ng : Nat) (rr : Nat → Nat) (hI : ClI V 15 ng rr) (z : Int32) : Ct l yX1_answer cX1_answer 2 (some .int) rm_X1_answer (xS ad tk nt) V [.ref (ad (14)), .int (z)] (rI fun x V2 => V2 = V ∧ x = ansI V ng rr z) := by
  refine Ct_of (by decide) (Nat.le_of_ble_eq_true rfl) ?_
  intro p e s m below meth c A D cy ls C hl
  have hl : lv_has ls 2 [(0, .ref (ad (14))), (1, .int (z))] := hl
  have h_4_ := hI.2.1
  refine j_iload_n C dX1_answer_0 rfl (lv_at hl 1 rfl) ?_
  refine j_iconst (v := 1) C dX1_answer_1 (by decide) ?_
  refine j_icmp_ne (tgt := 10) C dX1_answer_2 (by decide) (fun c_1_ => ?_) (fun c_1_ => ?_)
  · skip
    refine j_aload_n C dX1_answer_10 rfl (lv_at hl 0 rfl) ?_
    refine j_getI (k := 14) C (f_RX1_22_1) (xl (by decide)) (rfl) dX1_answer_11 ?_
    refine j_bipush (v := (-9)) C dX1_answer_14 (by decide) ?_
    refine j_icmp_eq (tgt := 27) C dX1_answer_16 (by decide) (fun c_2_ => ?_) (fun c_2_ => ?_)
    · skip
      refine j_iload_n C dX1_answer_27 rfl (lv_at hl 1 rfl) ?_
      rcases sw_in (z) 5 (by decide) with ⟨js3, hjs3, s_3_⟩ | s_3_
      · rcases (show js3 = 0 ∨ js3 = 1 ∨ js3 = 2 ∨ js3 = 3 ∨ js3 = 4 by omega) with rfl | rfl | rfl | rfl | rfl
        · refine j_tableIn (off := 36) (tgt := 64) C dX1_answer_28 (by rw [s_3_]; decide) (by rw [s_3_]; decide) (by rw [s_3_]; rfl) (by decide) ?_
          refine j_aload_n C dX1_answer_64 rfl (lv_at hl 0 rfl) ?_
          refine j_getR (k := 14) (k2 := 15) C (f_RX1_12_1) (xl (by decide)) (rfl) (rfl) dX1_answer_65 ?_
          refine j_callV (k := 15) C [] [] (k_X0_girlsHeld l ad tk nt V 15 (Or.inr rfl) ng rr hI ) v_RX1_67 (xl (xC (tk := tk) (nt := nt) (k := 15) (Or.inr rfl)).1.1) ((xC (tk := tk) (nt := nt) (k := 15) (Or.inr rfl)).2.1) rfl ⟨rfl, rfl, Nat.le_of_ble_eq_true rfl, Nat.le_of_ble_eq_true rfl⟩ rfl hl.1 rfl (Nat.le_of_ble_eq_true rfl) ⟨Nat.le_of_ble_eq_true rfl, Nat.le_of_ble_eq_true rfl⟩ dX1_answer_68 (kI fun x_4_ U4 h_4_ => ?_)
          obtain ⟨eU4, h_4_⟩ := h_4_
          have eU4 := eU4.symm
          subst eU4
          refine j_iret C ⟨rfl, _, rfl, ?_⟩ dX1_answer_71
          refine ⟨rfl, ?_⟩
          unfold ansI
          rw [if_neg c_1_, if_neg (fun q => q c_2_)]
          rw [if_pos (show z = 0 from s_3_)]
          exact h_4_
        · refine j_tableIn (off := 62) (tgt := 90) C dX1_answer_28 (by rw [s_3_]; decide) (by rw [s_3_]; decide) (by rw [s_3_]; rfl) (by decide) ?_
          refine j_aload_n C dX1_answer_90 rfl (lv_at hl 0 rfl) ?_
          refine j_getR (k := 14) (k2 := 15) C (f_RX1_12_1) (xl (by decide)) (rfl) (rfl) dX1_answer_91 ?_
          refine j_iload_n C dX1_answer_94 rfl (lv_at hl 1 rfl) ?_
          refine j_bipush (v := 10) C dX1_answer_95 (by decide) ?_
          refine j_isub C dX1_answer_97 ?_
          refine j_callV (k := 15) C [.int (z - 10)] [] (k_X0_holderOf l ad tk nt V 15 (Or.inr rfl) ng rr hI (z - 10)) v_RX1_70 (xl (xC (tk := tk) (nt := nt) (k := 15) (Or.inr rfl)).1.1) ((xC (tk := tk) (nt := nt) (k := 15) (Or.inr rfl)).2.1) rfl ⟨rfl, rfl, Nat.le_of_ble_eq_true rfl, Nat.le_of_ble_eq_true rfl⟩ rfl hl.1 rfl (Nat.le_of_ble_eq_true rfl) ⟨Nat.le_of_ble_eq_true rfl, Nat.le_of_ble_eq_true rfl⟩ dX1_answer_98 (kI fun x_5_ U5 h_5_ => ?_)
          obtain ⟨eU5, h_5_⟩ := h_5_
          have eU5 := eU5.symm
          subst eU5
          refine j_iret C ⟨rfl, _, rfl, ?_⟩ dX1_answer_101
          exact absurd s_3_ c_1_
        · refine j_tableIn (off := 44) (tgt := 72) C dX1_answer_28 (by rw [s_3_]; decide) (by rw [s_3_]; decide) (by rw [s_3_]; rfl) (by decide) ?_
          refine j_aload_n C dX1_answer_72 rfl (lv_at hl 0 rfl) ?_
          refine j_getI (k := 14) C (f_RX1_26_1) (xl (by decide)) (rfl) dX1_answer_73 ?_
          refine j_iret C ⟨rfl, _, rfl, ?_⟩ dX1_answer_76
          refine ⟨rfl, ?_⟩
          unfold ansI
          rw [if_neg c_1_, if_neg (fun q => q c_2_)]
          rw [if_neg (fun q => by rw [q] at s_3_; revert s_3_; decide)]
          rw [if_pos (show z = 2 from s_3_)]
        · refine j_tableIn (off := 49) (tgt := 77) C dX1_answer_28 (by rw [s_3_]; decide) (by rw [s_3_]; decide) (by rw [s_3_]; rfl) (by decide) ?_
          refine j_aload_n C dX1_answer_77 rfl (lv_at hl 0 rfl) ?_
          refine j_getI (k := 14) C (f_RX1_29_1) (xl (by decide)) (rfl) dX1_answer_78 ?_
          refine j_iret C ⟨rfl, _, rfl, ?_⟩ dX1_answer_81
          refine ⟨rfl, ?_⟩
          unfold ansI
          rw [if_neg c_1_, if_neg (fun q => q c_2_)]
          rw [if_neg (fun q => by rw [q] at s_3_; revert s_3_; decide)]
          rw [if_neg (fun q => by rw [q] at s_3_; revert s_3_; decide)]
          rw [if_pos (show z = 3 from s_3_)]
        · refine j_tableIn (off := 54) (tgt := 82) C dX1_answer_28 (by rw [s_3_]; decide) (by rw [s_3_]; decide) (by rw [s_3_]; rfl) (by decide) ?_
          refine j_aload_n C dX1_answer_82 rfl (lv_at hl 0 rfl) ?_
          refine j_getR (k := 14) (k2 := 15) C (f_RX1_12_1) (xl (by decide)) (rfl) (rfl) dX1_answer_83 ?_
          refine j_getI (k := 15) C (f_RX1_48_0) (xl (xC (tk := tk) (nt := nt) (k := 15) (Or.inr rfl)).1.1) ((xC (tk := tk) (nt := nt) (k := 15) (Or.inr rfl)).2.1) dX1_answer_86 ?_
          refine j_iret C ⟨rfl, _, rfl, ?_⟩ dX1_answer_89
          refine ⟨rfl, ?_⟩
          unfold ansI
          rw [if_neg c_1_, if_neg (fun q => q c_2_)]
          rw [if_neg (fun q => by rw [q] at s_3_; revert s_3_; decide)]
          rw [if_neg (fun q => by rw [q] at s_3_; revert s_3_; decide)]
          rw [if_neg (fun q => by rw [q] at s_3_; revert s_3_; decide)]
          rw [if_pos (show z = 4 from s_3_)]
      · refine j_tableOut (tgt := 90) C dX1_answer_28 (by omega) (by decide) ?_
        refine j_aload_n C dX1_answer_90 rfl (lv_at hl 0 rfl) ?_
        refine j_getR (k := 14) (k2 := 15) C (f_RX1_12_1) (xl (by decide)) (rfl) (rfl) dX1_answer_91 ?_
        refine j_iload_n C dX1_answer_94 rfl (lv_at hl 1 rfl) ?_
        refine j_bipush (v := 10) C dX1_answer_95 (by decide) ?_
        refine j_isub C dX1_answer_97 ?_
        refine j_callV (k := 15) C [.int (z - 10)] [] (k_X0_holderOf l ad tk nt V 15 (Or.inr rfl) ng rr hI (z - 10)) v_RX1_70 (xl (xC (tk := tk) (nt := nt) (k := 15) (Or.inr rfl)).1.1) ((xC (tk := tk) (nt := nt) (k := 15) (Or.inr rfl)).2.1) rfl ⟨rfl, rfl, Nat.le_of_ble_eq_true rfl, Nat.le_of_ble_eq_true rfl⟩ rfl hl.1 rfl (Nat.le_of_ble_eq_true rfl) ⟨Nat.le_of_ble_eq_true rfl, Nat.le_of_ble_eq_true rfl⟩ dX1_answer_98 (kI fun x_6_ U6 h_6_ => ?_)
        obtain ⟨eU6, h_6_⟩ := h_6_
        have eU6 := eU6.symm
        subst eU6
        refine j_iret C ⟨rfl, _, rfl, ?_⟩ dX1_answer_101
        refine ⟨rfl, ?_⟩
        unfold ansI
        rw [if_neg c_1_, if_neg (fun q => q c_2_)]
        rw [if_neg (fun q => by rw [q] at s_3_; revert s_3_; decide)]
        rw [if_neg (fun q => by rw [q] at s_3_; revert s_3_; decide)]
        rw [if_neg (fun q => by rw [q] at s_3_; revert s_3_; decide)]
        rw [if_neg (fun q => by rw [q] at s_3_; revert s_3_; decide)]
        exact h_6_
    · skip
      refine j_bipush (v := (-100)) C dX1_answer_19 (by decide) ?_
      refine j_aload_n C dX1_answer_21 rfl (lv_at hl 0 rfl) ?_
      refine j_getI (k := 14) C (f_RX1_22_1) (xl (by decide)) (rfl) dX1_answer_22 ?_
      refine j_isub C dX1_answer_25 ?_
      refine j_iret C ⟨rfl, _, rfl, ?_⟩ dX1_answer_26
      refine ⟨rfl, ?_⟩
      unfold ansI
      rw [if_neg c_1_, if_pos c_2_]
  · skip
    refine j_aload_n C dX1_answer_5 rfl (lv_at hl 0 rfl) ?_
    refine j_getI (k := 14) C (f_RX1_22_1) (xl (by decide)) (rfl) dX1_answer_6 ?_
    refine j_iret C ⟨rfl, _, rfl, ?_⟩ dX1_answer_9
    refine ⟨rfl, ?_⟩
    unfold ansI
    rw [if_pos c_1_]
abbrev rm_X1_throwsAt : Room := { frames := 3, cells := 0, slots := 0, locals := 67 }
set_option maxHeartbeats 4000000 in
set_option maxRecDepth 100000 in
theorem k_X1_throwsAt (l : Launch) (ad tk : Nat → Nat) (nt : Nat) (V : Vt) (t : Nat) (ht : t < nt) (hT : isT (tk t)) (ng : Nat) (rr : Nat → Nat) (hI : ClI V 15 ng rr) (z : Int32) : Ct l yX1_throwsAt cX1_throwsAt 5 (some .boolean) rm_X1_throwsAt (xS ad tk nt) V [.ref (ad (14)), .ref (ad (56 + t)), .int (z)] (rI fun x V2 => (∃ j : Nat, j < ng ∧ z = nI j ∧ rr j < 8 ∧ x = 1 ∧ V2 = thV V t j (rr j) (near (rch (kdI (tk t)) (V (56 + t) 1)) (V (15 + 2 + 3 * j) 0) (V (15 + 2 + 3 * j) 1) (V 15 0))) ∨ ((z < 0 ∨ nI ng ≤ z ∨ ∃ j : Nat, j < ng ∧ z = nI j ∧ rr j = 8) ∧ x = 0 ∧ V2 = V)) := by
  refine Ct_of (by decide) (Nat.le_of_ble_eq_true rfl) ?_
  intro p e s m below meth c A D cy ls C hl
  have hl : lv_has ls 5 [(0, .ref (ad (14))), (1, .ref (ad (56 + t))), (2, .int (z))] := hl
  have h_4_ := hI.2.1
  refine j_aload_n C dX1_throwsAt_0 rfl (lv_at hl 0 rfl) ?_
  refine j_getR (k := 14) (k2 := 15) C (f_RX1_12_1) (xl (by decide)) (rfl) (rfl) dX1_throwsAt_1 ?_
  refine j_iload_n C dX1_throwsAt_4 rfl (lv_at hl 2 rfl) ?_
  refine j_callV (k := 15) C [.int (z)] [] (k_X0_girlAt l ad tk nt V 15 (Or.inr rfl) ng hI.1 hI.2.1 (z)) v_RX1_32 (xl (xC (tk := tk) (nt := nt) (k := 15) (Or.inr rfl)).1.1) ((xC (tk := tk) (nt := nt) (k := 15) (Or.inr rfl)).2.1) rfl ⟨rfl, rfl, Nat.le_of_ble_eq_true rfl, Nat.le_of_ble_eq_true rfl⟩ rfl hl.1 rfl (Nat.le_of_ble_eq_true rfl) ⟨Nat.le_of_ble_eq_true rfl, Nat.le_of_ble_eq_true rfl⟩ dX1_throwsAt_5 (kA fun x_1_ U1 h_1_ => ?_)
  obtain ⟨eU1, h_1_⟩ := h_1_
  have eU1 := eU1.symm
  subst eU1
  rcases h_1_ with ⟨j_1_, hj1, ej1, ev1⟩ | ⟨ho1, ev1⟩
  · subst ev1
    refine j_astore_n (lv2 := [(3, .ref (ad (15 + 2 + 3 * j_1_))), (0, .ref (ad (14))), (1, .ref (ad (56 + t))), (2, .int (z))]) C dX1_throwsAt_8 rfl hl (by decide) rfl (fun ls hl => ?_)
    refine j_aload_n C dX1_throwsAt_9 rfl (lv_at hl 0 rfl) ?_
    refine j_ifnull C dX1_throwsAt_10 ?_
    refine j_aload_n C dX1_throwsAt_13 rfl (lv_at hl 0 rfl) ?_
    refine j_callV (k := 15 + 2 + 3 * j_1_) C [] [] (k_X2_isFull l ad tk nt V (15 + 2 + 3 * j_1_) (xCg (nt := nt) (Or.inr rfl) (by omega : j_1_ < 4)).1  ) v_RX1_36 (xl (xG (tk := tk) (nt := nt) (xCg (nt := nt) (Or.inr rfl) (by omega : j_1_ < 4)).1).1.1) ((xG (tk := tk) (nt := nt) (xCg (nt := nt) (Or.inr rfl) (by omega : j_1_ < 4)).1).2.1) rfl ⟨rfl, rfl, Nat.le_of_ble_eq_true rfl, Nat.le_of_ble_eq_true rfl⟩ rfl hl.1 rfl (Nat.le_of_ble_eq_true rfl) ⟨Nat.le_of_ble_eq_true rfl, Nat.le_of_ble_eq_true rfl⟩ dX1_throwsAt_14 (kI fun x_2_ U2 h_2_ => ?_)
    obtain ⟨eU2, h_2_⟩ := h_2_
    have eU2 := eU2.symm
    subst eU2
    refine j_if_eq (tgt := 22) C dX1_throwsAt_17 (by decide) (fun c_3_ => ?_) (fun c_3_ => ?_)
    · skip
      refine j_aload_n C dX1_throwsAt_22 rfl (lv_at hl 0 rfl) ?_
      refine j_aload_n C dX1_throwsAt_23 rfl (lv_at hl 2 rfl) ?_
      refine j_callT (k := 56 + t) C [] [.ref (ad (15 + 2 + 3 * j_1_))] (k_X6_reach l ad tk nt V t ht hT ) v_RX1_42 o_RX1_42_3 o_RX1_42_8 rfl (xt ht) (xT hT) ⟨rfl, rfl, Nat.le_of_ble_eq_true rfl, Nat.le_of_ble_eq_true rfl⟩ rfl hl.1 rfl (Nat.le_of_ble_eq_true rfl) ⟨Nat.le_of_ble_eq_true rfl, Nat.le_of_ble_eq_true rfl⟩ dX1_throwsAt_24 (kI fun x_4_ U4 h_4_ => ?_)
      obtain ⟨eU4, h_4_⟩ := h_4_
      have eU4 := eU4.symm
      subst eU4
      refine j_aload_n C dX1_throwsAt_27 rfl (lv_at hl 1 rfl) ?_
      refine j_getR (k := 14) (k2 := 15) C (f_RX1_12_1) (xl (by decide)) (rfl) (rfl) dX1_throwsAt_28 ?_
      refine j_getI (k := 15) C (f_RX1_48_0) (xl (xC (tk := tk) (nt := nt) (k := 15) (Or.inr rfl)).1.1) ((xC (tk := tk) (nt := nt) (k := 15) (Or.inr rfl)).2.1) dX1_throwsAt_31 ?_
      refine j_callV (k := 15 + 2 + 3 * j_1_) C [.int (x_4_), .int (V 15 0)] [] (k_X2_nearness l ad tk nt V (15 + 2 + 3 * j_1_) (xCg (nt := nt) (Or.inr rfl) (by omega : j_1_ < 4)).1 (x_4_) (V 15 0) ) v_RX1_51 (xl (xG (tk := tk) (nt := nt) (xCg (nt := nt) (Or.inr rfl) (by omega : j_1_ < 4)).1).1.1) ((xG (tk := tk) (nt := nt) (xCg (nt := nt) (Or.inr rfl) (by omega : j_1_ < 4)).1).2.1) rfl ⟨rfl, rfl, Nat.le_of_ble_eq_true rfl, Nat.le_of_ble_eq_true rfl⟩ rfl hl.1 rfl (Nat.le_of_ble_eq_true rfl) ⟨Nat.le_of_ble_eq_true rfl, Nat.le_of_ble_eq_true rfl⟩ dX1_throwsAt_34 (kI fun x_5_ U5 h_5_ => ?_)
      obtain ⟨eU5, h_5_⟩ := h_5_
      have eU5 := eU5.symm
      subst eU5
      refine j_istore (lv2 := [(4, .int (x_5_)), (3, .ref (ad (15 + 2 + 3 * j_1_))), (0, .ref (ad (14))), (1, .ref (ad (56 + t))), (2, .int (z))]) C dX1_throwsAt_37 hl (by decide) rfl (fun ls hl => ?_)
      refine j_iload C dX1_throwsAt_39 (lv_at hl 0 rfl) ?_
      refine j_if_ne (tgt := 75) C dX1_throwsAt_41 (by decide) (fun c_6_ => ?_) (fun c_6_ => ?_)
      · skip
        refine j_aload_n C dX1_throwsAt_75 rfl (lv_at hl 1 rfl) ?_
        refine j_aload_n C dX1_throwsAt_76 rfl (lv_at hl 3 rfl) ?_
        refine j_getT (k := 56 + t) C f_RX1_57_6 f_RX1_57_3 f_RX1_57_8 (xt ht) (xT hT) dX1_throwsAt_77 ?_
        refine j_iload C dX1_throwsAt_80 (lv_at hl 0 rfl) ?_
        refine j_callV (k := 15 + 2 + 3 * j_1_) C [.int (V (56 + t) 0), .int (x_5_)] [] (k_X2_lay l ad tk nt V (15 + 2 + 3 * j_1_) (xCg (nt := nt) (Or.inr rfl) (by omega : j_1_ < 4)).1 (rr j_1_) (by exact (hI.2.2 j_1_ hj1).1) (full_no (hI.2.2 j_1_ hj1).1 (hI.2.2 j_1_ hj1).2 h_2_ c_3_) (V (56 + t) 0) (x_5_)) v_RX1_60 (xl (xG (tk := tk) (nt := nt) (xCg (nt := nt) (Or.inr rfl) (by omega : j_1_ < 4)).1).1.1) ((xG (tk := tk) (nt := nt) (xCg (nt := nt) (Or.inr rfl) (by omega : j_1_ < 4)).1).2.1) rfl ⟨rfl, rfl, Nat.le_of_ble_eq_true rfl, Nat.le_of_ble_eq_true rfl⟩ rfl hl.1 rfl (Nat.le_of_ble_eq_true rfl) ⟨Nat.le_of_ble_eq_true rfl, Nat.le_of_ble_eq_true rfl⟩ dX1_throwsAt_82 (kU fun U7 h_7_ => ?_)
        refine j_iconst (v := 1) C dX1_throwsAt_85 (by decide) ?_
        refine j_zret C rfl ⟨rfl, _, rfl, ?_⟩ dX1_throwsAt_86
        refine Or.inl ⟨j_1_, hj1, ej1, (full_no (hI.2.2 j_1_ hj1).1 (hI.2.2 j_1_ hj1).2 h_2_ c_3_), rfl, ?_⟩
        rw [h_4_] at h_5_
        rw [← h_5_]
        simp only [thV]
        rw [if_neg c_6_]
        exact h_7_
      · skip
        refine j_aload_n C dX1_throwsAt_44 rfl (lv_at hl 2 rfl) ?_
        refine j_dup C dX1_throwsAt_45 rfl ?_
        refine j_getI (k := 14) C (f_RX1_26_1) (xl (by decide)) (rfl) dX1_throwsAt_46 ?_
        refine j_iconst (v := 1) C dX1_throwsAt_49 (by decide) ?_
        refine j_iadd C dX1_throwsAt_50 ?_
        refine j_putI (k := 14) C (f_RX1_26_1) p_1_2 (xl (by decide)) (rfl) dX1_throwsAt_51 (fun V1 eV1 => ?_)
        refine j_aload_n C dX1_throwsAt_54 rfl (lv_at hl 2 rfl) ?_
        refine j_dup C dX1_throwsAt_55 rfl ?_
        refine j_getI (k := 14) C (f_RX1_29_1) (xl (by decide)) (rfl) dX1_throwsAt_56 ?_
        refine j_aload_n C dX1_throwsAt_59 rfl (lv_at hl 1 rfl) ?_
        refine j_callV (k := 15 + 2 + 3 * j_1_) C [] [.int (V1 14 3), .ref (ad (14))] (k_X2_ringers l ad tk nt V1 (15 + 2 + 3 * j_1_) (xCg (nt := nt) (Or.inr rfl) (by omega : j_1_ < 4)).1 (rr j_1_) (by rw [eV1, up2_k _ _ (by omega), (hI.2.2 j_1_ hj1).1]) (hI.2.2 j_1_ hj1).2 ) v_RX1_55 (xl (xG (tk := tk) (nt := nt) (xCg (nt := nt) (Or.inr rfl) (by omega : j_1_ < 4)).1).1.1) ((xG (tk := tk) (nt := nt) (xCg (nt := nt) (Or.inr rfl) (by omega : j_1_ < 4)).1).2.1) rfl ⟨rfl, rfl, Nat.le_of_ble_eq_true rfl, Nat.le_of_ble_eq_true rfl⟩ rfl hl.1 rfl (Nat.le_of_ble_eq_true rfl) ⟨Nat.le_of_ble_eq_true rfl, Nat.le_of_ble_eq_true rfl⟩ dX1_throwsAt_60 (kI fun x_8_ U8 h_8_ => ?_)
        obtain ⟨eU8, h_8_⟩ := h_8_
        have eU8 := eU8.symm
        subst eU8
        refine j_if_le (tgt := 70) C dX1_throwsAt_63 (by decide) (fun c_9_ => ?_) (fun c_9_ => ?_)
        · have n_9_ := Int32.not_lt.mpr c_9_
          refine j_iconst (v := 0) C dX1_throwsAt_70 (by decide) ?_
          refine j_iadd C dX1_throwsAt_71 ?_
          refine j_putI (k := 14) C (f_RX1_29_1) p_1_3 (xl (by decide)) (rfl) dX1_throwsAt_72 (fun V2 eV2 => ?_)
          refine j_aload_n C dX1_throwsAt_75 rfl (lv_at hl 1 rfl) ?_
          refine j_aload_n C dX1_throwsAt_76 rfl (lv_at hl 3 rfl) ?_
          refine j_getT (k := 56 + t) C f_RX1_57_6 f_RX1_57_3 f_RX1_57_8 (xt ht) (xT hT) dX1_throwsAt_77 ?_
          refine j_iload C dX1_throwsAt_80 (lv_at hl 0 rfl) ?_
          refine j_callV (k := 15 + 2 + 3 * j_1_) C [.int (V2 (56 + t) 0), .int (x_5_)] [] (k_X2_lay l ad tk nt V2 (15 + 2 + 3 * j_1_) (xCg (nt := nt) (Or.inr rfl) (by omega : j_1_ < 4)).1 (rr j_1_) (by rw [eV2, up2_k _ _ (by omega), eV1, up2_k _ _ (by omega), (hI.2.2 j_1_ hj1).1]) (full_no (hI.2.2 j_1_ hj1).1 (hI.2.2 j_1_ hj1).2 h_2_ c_3_) (V2 (56 + t) 0) (x_5_)) v_RX1_60 (xl (xG (tk := tk) (nt := nt) (xCg (nt := nt) (Or.inr rfl) (by omega : j_1_ < 4)).1).1.1) ((xG (tk := tk) (nt := nt) (xCg (nt := nt) (Or.inr rfl) (by omega : j_1_ < 4)).1).2.1) rfl ⟨rfl, rfl, Nat.le_of_ble_eq_true rfl, Nat.le_of_ble_eq_true rfl⟩ rfl hl.1 rfl (Nat.le_of_ble_eq_true rfl) ⟨Nat.le_of_ble_eq_true rfl, Nat.le_of_ble_eq_true rfl⟩ dX1_throwsAt_82 (kU fun U10 h_10_ => ?_)
          refine j_iconst (v := 1) C dX1_throwsAt_85 (by decide) ?_
          refine j_zret C rfl ⟨rfl, _, rfl, ?_⟩ dX1_throwsAt_86
          refine Or.inl ⟨j_1_, hj1, ej1, (full_no (hI.2.2 j_1_ hj1).1 (hI.2.2 j_1_ hj1).2 h_2_ c_3_), rfl, ?_⟩
          rw [h_4_] at h_5_
          rw [← h_5_]
          have e1 : V1 14 3 = V 14 3 := by rw [eV1]; exact up2_i _ _ (by decide)
          have e2 : V2 (56 + t) 0 = V (56 + t) 0 := by rw [eV2, up2_k _ _ (by omega), eV1, up2_k _ _ (by omega)]
          have e3 : V1 (15 + 2 + 3 * j_1_ + 2) = V (15 + 2 + 3 * j_1_ + 2) := by rw [eV1]; exact up2_k _ _ (by omega)
          rw [e3] at h_8_
          have hc := cntI_le (fun q => V (15 + 2 + 3 * j_1_ + 2) q = 0) (rr j_1_)
          have hr8 := (hI.2.2 j_1_ hj1).2
          have e4 : ¬ 0 < cntI (fun q => V (15 + 2 + 3 * j_1_ + 2) q = 0) (rr j_1_) := fun q => absurd (h_8_ ▸ c_9_) (nI_nle q (by omega))
          simp only [thV]
          rw [if_pos c_6_, if_neg e4, h_10_, e2, eV2, e1, eV1]
        · have n_9_ := Int32.not_le.mp c_9_
          refine j_iconst (v := 1) C dX1_throwsAt_66 (by decide) ?_
          refine j_goto (tgt := 71) C dX1_throwsAt_67 (by decide) ?_
          refine j_iadd C dX1_throwsAt_71 ?_
          refine j_putI (k := 14) C (f_RX1_29_1) p_1_3 (xl (by decide)) (rfl) dX1_throwsAt_72 (fun V3 eV3 => ?_)
          refine j_aload_n C dX1_throwsAt_75 rfl (lv_at hl 1 rfl) ?_
          refine j_aload_n C dX1_throwsAt_76 rfl (lv_at hl 3 rfl) ?_
          refine j_getT (k := 56 + t) C f_RX1_57_6 f_RX1_57_3 f_RX1_57_8 (xt ht) (xT hT) dX1_throwsAt_77 ?_
          refine j_iload C dX1_throwsAt_80 (lv_at hl 0 rfl) ?_
          refine j_callV (k := 15 + 2 + 3 * j_1_) C [.int (V3 (56 + t) 0), .int (x_5_)] [] (k_X2_lay l ad tk nt V3 (15 + 2 + 3 * j_1_) (xCg (nt := nt) (Or.inr rfl) (by omega : j_1_ < 4)).1 (rr j_1_) (by rw [eV3, up2_k _ _ (by omega), eV1, up2_k _ _ (by omega), (hI.2.2 j_1_ hj1).1]) (full_no (hI.2.2 j_1_ hj1).1 (hI.2.2 j_1_ hj1).2 h_2_ c_3_) (V3 (56 + t) 0) (x_5_)) v_RX1_60 (xl (xG (tk := tk) (nt := nt) (xCg (nt := nt) (Or.inr rfl) (by omega : j_1_ < 4)).1).1.1) ((xG (tk := tk) (nt := nt) (xCg (nt := nt) (Or.inr rfl) (by omega : j_1_ < 4)).1).2.1) rfl ⟨rfl, rfl, Nat.le_of_ble_eq_true rfl, Nat.le_of_ble_eq_true rfl⟩ rfl hl.1 rfl (Nat.le_of_ble_eq_true rfl) ⟨Nat.le_of_ble_eq_true rfl, Nat.le_of_ble_eq_true rfl⟩ dX1_throwsAt_82 (kU fun U11 h_11_ => ?_)
          refine j_iconst (v := 1) C dX1_throwsAt_85 (by decide) ?_
          refine j_zret C rfl ⟨rfl, _, rfl, ?_⟩ dX1_throwsAt_86
          refine Or.inl ⟨j_1_, hj1, ej1, (full_no (hI.2.2 j_1_ hj1).1 (hI.2.2 j_1_ hj1).2 h_2_ c_3_), rfl, ?_⟩
          rw [h_4_] at h_5_
          rw [← h_5_]
          have e1 : V1 14 3 = V 14 3 := by rw [eV1]; exact up2_i _ _ (by decide)
          have e2 : V3 (56 + t) 0 = V (56 + t) 0 := by rw [eV3, up2_k _ _ (by omega), eV1, up2_k _ _ (by omega)]
          have e3 : V1 (15 + 2 + 3 * j_1_ + 2) = V (15 + 2 + 3 * j_1_ + 2) := by rw [eV1]; exact up2_k _ _ (by omega)
          rw [e3] at h_8_
          have hc := cntI_le (fun q => V (15 + 2 + 3 * j_1_ + 2) q = 0) (rr j_1_)
          have hr8 := (hI.2.2 j_1_ hj1).2
          have e4 : 0 < cntI (fun q => V (15 + 2 + 3 * j_1_ + 2) q = 0) (rr j_1_) := by
            rcases Nat.eq_zero_or_pos (cntI (fun q => V (15 + 2 + 3 * j_1_ + 2) q = 0) (rr j_1_)) with q | q
            · rw [q] at h_8_
              exact absurd (by rw [h_8_]; decide) c_9_
            · exact q
          simp only [thV]
          rw [if_pos c_6_, if_pos e4, h_11_, e2, eV3, e1, eV1]
    · skip
      refine j_iconst (v := 0) C dX1_throwsAt_20 (by decide) ?_
      refine j_zret C rfl ⟨rfl, _, rfl, ?_⟩ dX1_throwsAt_21
      exact Or.inr ⟨Or.inr (Or.inr ⟨j_1_, hj1, ej1, (full_yes (hI.2.2 j_1_ hj1).1 (hI.2.2 j_1_ hj1).2 h_2_ c_3_)⟩), rfl, rfl⟩
  · subst ev1
    refine j_astore_nN (lv2 := [(3, .null), (0, .ref (ad (14))), (1, .ref (ad (56 + t))), (2, .int (z))]) C dX1_throwsAt_8 rfl hl (by decide) rfl (fun ls hl => ?_)
    refine j_aload_nN C dX1_throwsAt_9 rfl (lv_at hl 0 rfl) ?_
    refine j_ifnullN (tgt := 20) C dX1_throwsAt_10 (by decide) ?_
    refine j_iconst (v := 0) C dX1_throwsAt_20 (by decide) ?_
    refine j_zret C rfl ⟨rfl, _, rfl, ?_⟩ dX1_throwsAt_21
    exact Or.inr ⟨ho1.elim Or.inl (fun o => Or.inr (Or.inl o)), rfl, rfl⟩
