/-- the clay c: ng girls, rr rings with each -/
def ClI (V : Vt) (c ng : Nat) (rr : Nat → Nat) : Prop := V c 1 = nI ng ∧ ng ≤ 4 ∧ ∀ j, j < ng → V (c + 2 + 3 * j) 2 = nI (rr j) ∧ rr j ≤ 8
/-- who has girl g of the clay c -/
def hoC (V : Vt) (c : Nat) (rr : Nat → Nat) (g : Nat) : Int32 := holI (V (c + 2 + 3 * g + 1)) (V (c + 2 + 3 * g + 2)) (rr g)
def setI (P : Nat → Prop) [DecidablePred P] : Nat → Int32
  | 0 => 0
  | g + 1 => if P g then setI P g ||| (1 <<< (nI g &&& 31)) else setI P g
def sumN (f : Nat → Nat) : Nat → Nat
  | 0 => 0
  | g + 1 => sumN f g + f g
def stL (V : Vt) (c tg : Nat) : Nat → Vt
  | 0 => up2 (up2 V c 0 (V 43 1)) c 1 (nI tg)
  | g + 1 => up2 (up2 (up2 (stL V c tg g) (c + 2 + 3 * g) 0 (V 44 g)) (c + 2 + 3 * g) 1 (V 45 g)) (c + 2 + 3 * g) 2 0
def bcL (V : Vt) (c c_2_ : Nat) (rr : Nat → Nat) : Nat → Vt
  | 0 => up2 (up2 V c 0 (V c_2_ 0)) c 1 (V c_2_ 1)
  | g + 1 => beV (bcL V c c_2_ rr g) (c + 2 + 3 * g) (c_2_ + 2 + 3 * g) (rr g)
abbrev rm_X9_yardsAt : Room := { frames := 0, cells := 0, slots := 0, locals := 0 }
set_option maxHeartbeats 4000000 in
set_option maxRecDepth 100000 in
theorem k_X9_yardsAt (l : Launch) (ad tk : Nat → Nat) (nt : Nat) (V : Vt) (z : Int32) : Ct l yX9_yardsAt cX9_yardsAt 2 (some .int) rm_X9_yardsAt (xS ad tk nt) V [.ref (ad (43)), .int (z)] (rI fun x V2 => V2 = V ∧ x = if ¬ z < 0 ∧ z < nI 4 then V 44 z.toNatClampNeg else 1) := by
  refine Ct_of (by decide) (Nat.le_of_ble_eq_true rfl) ?_
  intro p e s m below meth c A D cy ls C hl
  have hl : lv_has ls 2 [(0, .ref (ad (43))), (1, .int (z))] := hl
  refine j_iload_n C dX9_yardsAt_0 rfl (lv_at hl 1 rfl) ?_
  refine j_if_lt (tgt := 13) C dX9_yardsAt_1 (by decide) (fun c_1_ => ?_) (fun c_1_ => ?_)
  · have n_1_ := Int32.not_le.mpr c_1_
    refine j_iconst (v := 1) C dX9_yardsAt_13 (by decide) ?_
    refine j_goto (tgt := 23) C dX9_yardsAt_14 (by decide) ?_
    refine j_iret C ⟨rfl, _, rfl, ?_⟩ dX9_yardsAt_23
    refine ⟨rfl, ?_⟩
    rw [if_neg (fun q => by first | exact q.1 (by assumption) | exact absurd q.2 (by assumption))]
  · have n_1_ := Int32.not_lt.mp c_1_
    refine j_iload_n C dX9_yardsAt_4 rfl (lv_at hl 1 rfl) ?_
    refine j_aload_n C dX9_yardsAt_5 rfl (lv_at hl 0 rfl) ?_
    refine j_getR (k := 43) (k2 := 44) C (f_RX9_9_9) (xl (by decide)) (rfl) (rfl) dX9_yardsAt_6 ?_
    refine j_alen (k := 44) (n := 4) C (xl (by decide)) (Or.inl (rfl)) (rfl) dX9_yardsAt_9 ?_
    refine j_icmp_lt (tgt := 17) C dX9_yardsAt_10 (by decide) (fun c_2_ => ?_) (fun c_2_ => ?_)
    · have n_2_ := Int32.not_le.mpr c_2_
      refine j_aload_n C dX9_yardsAt_17 rfl (lv_at hl 0 rfl) ?_
      refine j_getR (k := 43) (k2 := 44) C (f_RX9_9_9) (xl (by decide)) (rfl) (rfl) dX9_yardsAt_18 ?_
      refine j_iload_n C dX9_yardsAt_21 rfl (lv_at hl 1 rfl) ?_
      refine j_iald (k := 44) (n := 4) C (xl (by decide)) (rfl) (rfl) (inR (by assumption) (by assumption) (by decide)) dX9_yardsAt_22 ?_
      refine j_iret C ⟨rfl, _, rfl, ?_⟩ dX9_yardsAt_23
      refine ⟨rfl, ?_⟩
      rw [if_pos ⟨by assumption, by assumption⟩]
    · have n_2_ := Int32.not_lt.mp c_2_
      refine j_iconst (v := 1) C dX9_yardsAt_13 (by decide) ?_
      refine j_goto (tgt := 23) C dX9_yardsAt_14 (by decide) ?_
      refine j_iret C ⟨rfl, _, rfl, ?_⟩ dX9_yardsAt_23
      refine ⟨rfl, ?_⟩
      rw [if_neg (fun q => by first | exact q.1 (by assumption) | exact absurd q.2 (by assumption))]
abbrev rm_X9_leaningAt : Room := { frames := 0, cells := 0, slots := 0, locals := 0 }
set_option maxHeartbeats 4000000 in
set_option maxRecDepth 100000 in
theorem k_X9_leaningAt (l : Launch) (ad tk : Nat → Nat) (nt : Nat) (V : Vt) (z : Int32) : Ct l yX9_leaningAt cX9_leaningAt 2 (some .int) rm_X9_leaningAt (xS ad tk nt) V [.ref (ad (43)), .int (z)] (rI fun x V2 => V2 = V ∧ x = if ¬ z < 0 ∧ z < nI 4 then V 45 z.toNatClampNeg else 0) := by
  refine Ct_of (by decide) (Nat.le_of_ble_eq_true rfl) ?_
  intro p e s m below meth c A D cy ls C hl
  have hl : lv_has ls 2 [(0, .ref (ad (43))), (1, .int (z))] := hl
  refine j_iload_n C dX9_leaningAt_0 rfl (lv_at hl 1 rfl) ?_
  refine j_if_lt (tgt := 13) C dX9_leaningAt_1 (by decide) (fun c_1_ => ?_) (fun c_1_ => ?_)
  · have n_1_ := Int32.not_le.mpr c_1_
    refine j_iconst (v := 0) C dX9_leaningAt_13 (by decide) ?_
    refine j_goto (tgt := 23) C dX9_leaningAt_14 (by decide) ?_
    refine j_iret C ⟨rfl, _, rfl, ?_⟩ dX9_leaningAt_23
    refine ⟨rfl, ?_⟩
    rw [if_neg (fun q => by first | exact q.1 (by assumption) | exact absurd q.2 (by assumption))]
  · have n_1_ := Int32.not_lt.mp c_1_
    refine j_iload_n C dX9_leaningAt_4 rfl (lv_at hl 1 rfl) ?_
    refine j_aload_n C dX9_leaningAt_5 rfl (lv_at hl 0 rfl) ?_
    refine j_getR (k := 43) (k2 := 45) C (f_RX9_15_9) (xl (by decide)) (rfl) (rfl) dX9_leaningAt_6 ?_
    refine j_alen (k := 45) (n := 4) C (xl (by decide)) (Or.inl (rfl)) (rfl) dX9_leaningAt_9 ?_
    refine j_icmp_lt (tgt := 17) C dX9_leaningAt_10 (by decide) (fun c_2_ => ?_) (fun c_2_ => ?_)
    · have n_2_ := Int32.not_le.mpr c_2_
      refine j_aload_n C dX9_leaningAt_17 rfl (lv_at hl 0 rfl) ?_
      refine j_getR (k := 43) (k2 := 45) C (f_RX9_15_9) (xl (by decide)) (rfl) (rfl) dX9_leaningAt_18 ?_
      refine j_iload_n C dX9_leaningAt_21 rfl (lv_at hl 1 rfl) ?_
      refine j_iald (k := 45) (n := 4) C (xl (by decide)) (rfl) (rfl) (inR (by assumption) (by assumption) (by decide)) dX9_leaningAt_22 ?_
      refine j_iret C ⟨rfl, _, rfl, ?_⟩ dX9_leaningAt_23
      refine ⟨rfl, ?_⟩
      rw [if_pos ⟨by assumption, by assumption⟩]
    · have n_2_ := Int32.not_lt.mp c_2_
      refine j_iconst (v := 0) C dX9_leaningAt_13 (by decide) ?_
      refine j_goto (tgt := 23) C dX9_leaningAt_14 (by decide) ?_
      refine j_iret C ⟨rfl, _, rfl, ?_⟩ dX9_leaningAt_23
      refine ⟨rfl, ?_⟩
      rw [if_neg (fun q => by first | exact q.1 (by assumption) | exact absurd q.2 (by assumption))]
abbrev rm_X9_kindAt : Room := { frames := 0, cells := 0, slots := 0, locals := 0 }
set_option maxHeartbeats 4000000 in
set_option maxRecDepth 100000 in
theorem k_X9_kindAt (l : Launch) (ad tk : Nat → Nat) (nt : Nat) (V : Vt) (z : Int32) : Ct l yX9_kindAt cX9_kindAt 2 (some .int) rm_X9_kindAt (xS ad tk nt) V [.ref (ad (43)), .int (z)] (rI fun x V2 => V2 = V ∧ x = if ¬ z < 0 ∧ z < nI 5 then V 46 z.toNatClampNeg else 0) := by
  refine Ct_of (by decide) (Nat.le_of_ble_eq_true rfl) ?_
  intro p e s m below meth c A D cy ls C hl
  have hl : lv_has ls 2 [(0, .ref (ad (43))), (1, .int (z))] := hl
  refine j_iload_n C dX9_kindAt_0 rfl (lv_at hl 1 rfl) ?_
  refine j_if_lt (tgt := 13) C dX9_kindAt_1 (by decide) (fun c_1_ => ?_) (fun c_1_ => ?_)
  · have n_1_ := Int32.not_le.mpr c_1_
    refine j_iconst (v := 0) C dX9_kindAt_13 (by decide) ?_
    refine j_goto (tgt := 23) C dX9_kindAt_14 (by decide) ?_
    refine j_iret C ⟨rfl, _, rfl, ?_⟩ dX9_kindAt_23
    refine ⟨rfl, ?_⟩
    rw [if_neg (fun q => by first | exact q.1 (by assumption) | exact absurd q.2 (by assumption))]
  · have n_1_ := Int32.not_lt.mp c_1_
    refine j_iload_n C dX9_kindAt_4 rfl (lv_at hl 1 rfl) ?_
    refine j_aload_n C dX9_kindAt_5 rfl (lv_at hl 0 rfl) ?_
    refine j_getR (k := 43) (k2 := 46) C (f_RX9_18_9) (xl (by decide)) (rfl) (rfl) dX9_kindAt_6 ?_
    refine j_alen (k := 46) (n := 5) C (xl (by decide)) (Or.inl (rfl)) (rfl) dX9_kindAt_9 ?_
    refine j_icmp_lt (tgt := 17) C dX9_kindAt_10 (by decide) (fun c_2_ => ?_) (fun c_2_ => ?_)
    · have n_2_ := Int32.not_le.mpr c_2_
      refine j_aload_n C dX9_kindAt_17 rfl (lv_at hl 0 rfl) ?_
      refine j_getR (k := 43) (k2 := 46) C (f_RX9_18_9) (xl (by decide)) (rfl) (rfl) dX9_kindAt_18 ?_
      refine j_iload_n C dX9_kindAt_21 rfl (lv_at hl 1 rfl) ?_
      refine j_iald (k := 46) (n := 5) C (xl (by decide)) (rfl) (rfl) (inR (by assumption) (by assumption) (by decide)) dX9_kindAt_22 ?_
      refine j_iret C ⟨rfl, _, rfl, ?_⟩ dX9_kindAt_23
      refine ⟨rfl, ?_⟩
      rw [if_pos ⟨by assumption, by assumption⟩]
    · have n_2_ := Int32.not_lt.mp c_2_
      refine j_iconst (v := 0) C dX9_kindAt_13 (by decide) ?_
      refine j_goto (tgt := 23) C dX9_kindAt_14 (by decide) ?_
      refine j_iret C ⟨rfl, _, rfl, ?_⟩ dX9_kindAt_23
      refine ⟨rfl, ?_⟩
      rw [if_neg (fun q => by first | exact q.1 (by assumption) | exact absurd q.2 (by assumption))]
abbrev rm_X9_armAt : Room := { frames := 0, cells := 0, slots := 0, locals := 0 }
set_option maxHeartbeats 4000000 in
set_option maxRecDepth 100000 in
theorem k_X9_armAt (l : Launch) (ad tk : Nat → Nat) (nt : Nat) (V : Vt) (z : Int32) : Ct l yX9_armAt cX9_armAt 2 (some .int) rm_X9_armAt (xS ad tk nt) V [.ref (ad (43)), .int (z)] (rI fun x V2 => V2 = V ∧ x = if ¬ z < 0 ∧ z < nI 5 then V 47 z.toNatClampNeg else 1) := by
  refine Ct_of (by decide) (Nat.le_of_ble_eq_true rfl) ?_
  intro p e s m below meth c A D cy ls C hl
  have hl : lv_has ls 2 [(0, .ref (ad (43))), (1, .int (z))] := hl
  refine j_iload_n C dX9_armAt_0 rfl (lv_at hl 1 rfl) ?_
  refine j_if_lt (tgt := 13) C dX9_armAt_1 (by decide) (fun c_1_ => ?_) (fun c_1_ => ?_)
  · have n_1_ := Int32.not_le.mpr c_1_
    refine j_iconst (v := 1) C dX9_armAt_13 (by decide) ?_
    refine j_goto (tgt := 23) C dX9_armAt_14 (by decide) ?_
    refine j_iret C ⟨rfl, _, rfl, ?_⟩ dX9_armAt_23
    refine ⟨rfl, ?_⟩
    rw [if_neg (fun q => by first | exact q.1 (by assumption) | exact absurd q.2 (by assumption))]
  · have n_1_ := Int32.not_lt.mp c_1_
    refine j_iload_n C dX9_armAt_4 rfl (lv_at hl 1 rfl) ?_
    refine j_aload_n C dX9_armAt_5 rfl (lv_at hl 0 rfl) ?_
    refine j_getR (k := 43) (k2 := 47) C (f_RX9_21_9) (xl (by decide)) (rfl) (rfl) dX9_armAt_6 ?_
    refine j_alen (k := 47) (n := 5) C (xl (by decide)) (Or.inl (rfl)) (rfl) dX9_armAt_9 ?_
    refine j_icmp_lt (tgt := 17) C dX9_armAt_10 (by decide) (fun c_2_ => ?_) (fun c_2_ => ?_)
    · have n_2_ := Int32.not_le.mpr c_2_
      refine j_aload_n C dX9_armAt_17 rfl (lv_at hl 0 rfl) ?_
      refine j_getR (k := 43) (k2 := 47) C (f_RX9_21_9) (xl (by decide)) (rfl) (rfl) dX9_armAt_18 ?_
      refine j_iload_n C dX9_armAt_21 rfl (lv_at hl 1 rfl) ?_
      refine j_iald (k := 47) (n := 5) C (xl (by decide)) (rfl) (rfl) (inR (by assumption) (by assumption) (by decide)) dX9_armAt_22 ?_
      refine j_iret C ⟨rfl, _, rfl, ?_⟩ dX9_armAt_23
      refine ⟨rfl, ?_⟩
      rw [if_pos ⟨by assumption, by assumption⟩]
    · have n_2_ := Int32.not_lt.mp c_2_
      refine j_iconst (v := 1) C dX9_armAt_13 (by decide) ?_
      refine j_goto (tgt := 23) C dX9_armAt_14 (by decide) ?_
      refine j_iret C ⟨rfl, _, rfl, ?_⟩ dX9_armAt_23
      refine ⟨rfl, ?_⟩
      rw [if_neg (fun q => by first | exact q.1 (by assumption) | exact absurd q.2 (by assumption))]
abbrev rm_X0_holderOf : Room := { frames := 3, cells := 0, slots := 0, locals := 64 }
set_option maxHeartbeats 4000000 in
set_option maxRecDepth 100000 in
theorem k_X0_holderOf (l : Launch) (ad tk : Nat → Nat) (nt : Nat) (V : Vt) (k : Nat) (hg : isC k) (ng : Nat) (rr : Nat → Nat) (hI : ClI V k ng rr) (z : Int32) : Ct l yX0_holderOf cX0_holderOf 3 (some .int) rm_X0_holderOf (xS ad tk nt) V [.ref (ad (k)), .int (z)] (rI fun x V2 => V2 = V ∧ x = if ¬ z < 0 ∧ z < nI ng then hoC V k rr z.toNatClampNeg else -9) := by
  refine Ct_of (by decide) (Nat.le_of_ble_eq_true rfl) ?_
  intro p e s m below meth c A D cy ls C hl
  have hl : lv_has ls 3 [(0, .ref (ad (k))), (1, .int (z))] := hl
  have h_4_ := hI.2.1
  refine j_aload_n C dX0_holderOf_0 rfl (lv_at hl 0 rfl) ?_
  refine j_iload_n C dX0_holderOf_1 rfl (lv_at hl 1 rfl) ?_
  refine j_callV (k := k) C [.int (z)] [] (k_X0_girlAt l ad tk nt V k hg ng hI.1 hI.2.1 (z)) v_RX0_30 (xl (xC (tk := tk) (nt := nt) hg).1.1) ((xC (tk := tk) (nt := nt) hg).2.1) rfl ⟨rfl, rfl, Nat.le_of_ble_eq_true rfl, Nat.le_of_ble_eq_true rfl⟩ rfl hl.1 rfl (Nat.le_of_ble_eq_true rfl) ⟨Nat.le_of_ble_eq_true rfl, Nat.le_of_ble_eq_true rfl⟩ dX0_holderOf_2 (kA fun x_1_ U1 h_1_ => ?_)
  obtain ⟨eU1, h_1_⟩ := h_1_
  have eU1 := eU1.symm
  subst eU1
  rcases h_1_ with ⟨j_1_, hj1, ej1, ev1⟩ | ⟨ho1, ev1⟩
  · subst ev1
    refine j_astore_n (lv2 := [(2, .ref (ad (k + 2 + 3 * j_1_))), (0, .ref (ad (k))), (1, .int (z))]) C dX0_holderOf_5 rfl hl (by decide) rfl (fun ls hl => ?_)
    refine j_aload_n C dX0_holderOf_6 rfl (lv_at hl 0 rfl) ?_
    refine j_ifnonnull (tgt := 15) C dX0_holderOf_7 (by decide) ?_
    refine j_aload_n C dX0_holderOf_15 rfl (lv_at hl 0 rfl) ?_
    refine j_callV (k := k + 2 + 3 * j_1_) C [] [] (k_X2_holder l ad tk nt V (k + 2 + 3 * j_1_) (xCg (nt := nt) hg (by omega : j_1_ < 4)).1 (rr j_1_) (hI.2.2 j_1_ hj1).1 (hI.2.2 j_1_ hj1).2 ) v_RX0_58 (xl (xG (tk := tk) (nt := nt) (xCg (nt := nt) hg (by omega : j_1_ < 4)).1).1.1) ((xG (tk := tk) (nt := nt) (xCg (nt := nt) hg (by omega : j_1_ < 4)).1).2.1) rfl ⟨rfl, rfl, Nat.le_of_ble_eq_true rfl, Nat.le_of_ble_eq_true rfl⟩ rfl hl.1 rfl (Nat.le_of_ble_eq_true rfl) ⟨Nat.le_of_ble_eq_true rfl, Nat.le_of_ble_eq_true rfl⟩ dX0_holderOf_16 (kI fun x_2_ U2 h_2_ => ?_)
    obtain ⟨eU2, h_2_⟩ := h_2_
    have eU2 := eU2.symm
    subst eU2
    refine j_iret C ⟨rfl, _, rfl, ?_⟩ dX0_holderOf_19
    have h_4_ := hI.2.1
    refine ⟨rfl, ?_⟩
    rw [h_2_, ej1, if_pos ⟨nI_pos (by omega), nI_lt (by omega) (by omega)⟩, nI_clamp (by omega)]
    rfl
  · subst ev1
    refine j_astore_nN (lv2 := [(2, .null), (0, .ref (ad (k))), (1, .int (z))]) C dX0_holderOf_5 rfl hl (by decide) rfl (fun ls hl => ?_)
    refine j_aload_nN C dX0_holderOf_6 rfl (lv_at hl 0 rfl) ?_
    refine j_ifnonnullN C dX0_holderOf_7 ?_
    refine j_bipush (v := (-9)) C dX0_holderOf_10 (by decide) ?_
    refine j_goto (tgt := 19) C dX0_holderOf_12 (by decide) ?_
    refine j_iret C ⟨rfl, _, rfl, ?_⟩ dX0_holderOf_19
    have h_4_ := hI.2.1
    refine ⟨rfl, ?_⟩
    rw [if_neg (outR ho1)]
abbrev rm_X0_ringsInAll : Room := { frames := 1, cells := 0, slots := 0, locals := 21 }
set_option maxHeartbeats 4000000 in
set_option maxRecDepth 100000 in
theorem k_X0_ringsInAll (l : Launch) (ad tk : Nat → Nat) (nt : Nat) (V : Vt) (k : Nat) (hg : isC k) (ng : Nat) (rr : Nat → Nat) (hI : ClI V k ng rr)  : Ct l yX0_ringsInAll cX0_ringsInAll 4 (some .int) rm_X0_ringsInAll (xS ad tk nt) V [.ref (ad (k))] (rI fun x V2 => V2 = V ∧ x = nI (sumN rr ng)) := by
  refine Ct_of (by decide) (Nat.le_of_ble_eq_true rfl) ?_
  intro p e s m below meth c A D cy ls C hl
  have hl : lv_has ls 4 [(0, .ref (ad (k)))] := hl
  have h_4_ := hI.2.1
  refine j_iconst (v := 0) C dX0_ringsInAll_0 (by decide) ?_
  refine j_istore_n (lv2 := [(1, .int (0)), (0, .ref (ad (k)))]) C dX0_ringsInAll_1 rfl hl (by decide) rfl (fun ls hl => ?_)
  refine j_iconst (v := 0) C dX0_ringsInAll_2 (by decide) ?_
  refine j_istore_n (lv2 := [(2, .int (0)), (1, .int (0)), (0, .ref (ad (k)))]) C dX0_ringsInAll_3 rfl hl (by decide) rfl (fun ls hl => ?_)
  have loop : ∀ (n_9_ : Nat) (g : Nat) (b : Int32), g ≤ ng → b = nI (sumN rr g) → ng - g < n_9_ → ∀ (ls : Array Slot), lv_has ls 4 [(0, .ref (ad (k))), (1, .int (b)), (2, .int (nI g))] → J p l e rm_X0_ringsInAll s m [.ref (ad (k))].toArray below meth c A D cy 0 0 (MQ below (gPost D cy A (fun o9 σ2 V2 => σ2 = xS ad tk nt ∧ (rI fun x V2 => V2 = V ∧ x = nI (sumN rr ng)) o9 V2)) [.ref (ad (k))].toArray s 0 0 A) (xS ad tk nt) V (F0 m 4 ls []) := by
    intro n_9_
    induction n_9_ with
    | zero =>
      intro g b hgi hb hm
      exact absurd hm (by omega)
    | succ n_9_ ih_loop =>
      intro g b hgi hb hm ls hl
      refine j_iload_n C dX0_ringsInAll_4 rfl (lv_at hl 2 rfl) ?_
      refine j_aload_n C dX0_ringsInAll_5 rfl (lv_at hl 0 rfl) ?_
      refine j_getI (k := k) C (f_RX0_18_0) (xl (xC (tk := tk) (nt := nt) hg).1.1) ((xC (tk := tk) (nt := nt) hg).2.1) dX0_ringsInAll_6 ?_
      refine j_icmp_ge (tgt := 39) C dX0_ringsInAll_9 (by decide) (fun c_1_ => ?_) (fun c_1_ => ?_)
      · have n_1_ := Int32.not_lt.mpr c_1_
        obtain rfl : g = ng := by rw [hI.1] at c_1_; have q := leN (by omega) (by omega) c_1_; omega
        refine j_iload_n C dX0_ringsInAll_39 rfl (lv_at hl 1 rfl) ?_
        refine j_iret C ⟨rfl, _, rfl, ?_⟩ dX0_ringsInAll_40
        exact ⟨rfl, hb⟩
      · have n_1_ := Int32.not_le.mp c_1_
        have hlt : g < ng := by rw [hI.1] at c_1_; exact ltN (by omega) c_1_
        refine j_aload_n C dX0_ringsInAll_12 rfl (lv_at hl 0 rfl) ?_
        refine j_iload_n C dX0_ringsInAll_13 rfl (lv_at hl 2 rfl) ?_
        refine j_callV (k := k) C [.int (nI g)] [] (k_X0_girlAt l ad tk nt V k hg ng hI.1 hI.2.1 (nI g)) v_RX0_30 (xl (xC (tk := tk) (nt := nt) hg).1.1) ((xC (tk := tk) (nt := nt) hg).2.1) rfl ⟨rfl, rfl, Nat.le_of_ble_eq_true rfl, Nat.le_of_ble_eq_true rfl⟩ rfl hl.1 rfl (Nat.le_of_ble_eq_true rfl) ⟨Nat.le_of_ble_eq_true rfl, Nat.le_of_ble_eq_true rfl⟩ dX0_ringsInAll_14 (kA fun x_2_ U2 h_2_ => ?_)
        obtain ⟨eU2, h_2_⟩ := h_2_
        have eU2 := eU2.symm
        subst eU2
        rcases h_2_ with ⟨j_2_, hj2, ej2, ev2⟩ | ⟨ho2, ev2⟩
        · subst ev2
          obtain rfl : g = j_2_ := nI_inj (by omega) (by omega) ej2
          refine j_astore_n (lv2 := [(3, .ref (ad (k + 2 + 3 * g))), (0, .ref (ad (k))), (1, .int (b)), (2, .int (nI g))]) C dX0_ringsInAll_17 rfl hl (by decide) rfl (fun ls hl => ?_)
          refine j_iload_n C dX0_ringsInAll_18 rfl (lv_at hl 2 rfl) ?_
          refine j_aload_n C dX0_ringsInAll_19 rfl (lv_at hl 0 rfl) ?_
          refine j_ifnonnull (tgt := 27) C dX0_ringsInAll_20 (by decide) ?_
          refine j_aload_n C dX0_ringsInAll_27 rfl (lv_at hl 0 rfl) ?_
          refine j_getI (k := k + 2 + 3 * g) C (f_RX0_49_2) (xl (xG (tk := tk) (nt := nt) (xCg (nt := nt) hg (by omega : g < 4)).1).1.1) ((xG (tk := tk) (nt := nt) (xCg (nt := nt) hg (by omega : g < 4)).1).2.1) dX0_ringsInAll_28 ?_
          refine j_iadd C dX0_ringsInAll_31 ?_
          refine j_istore_n (lv2 := [(1, .int (b + (V (k + 2 + 3 * g) 2))), (3, .ref (ad (k + 2 + 3 * g))), (0, .ref (ad (k))), (2, .int (nI g))]) C dX0_ringsInAll_32 rfl hl (by decide) rfl (fun ls hl => ?_)
          refine j_iinc (v := nI (g + 1)) (lv2 := [(2, .int (nI (g + 1))), (1, .int (b + (V (k + 2 + 3 * g) 2))), (3, .ref (ad (k + 2 + 3 * g))), (0, .ref (ad (k)))]) C dX0_ringsInAll_33 hl (k0 := 3) rfl (nI_1 _) (by decide) rfl (fun ls hl => ?_)
          refine j_goto (tgt := 4) C dX0_ringsInAll_36 (by decide) ?_
          exact ih_loop (g + 1) (b + (V (k + 2 + 3 * g) 2)) (by omega) (by rw [hb, (hI.2.2 g hlt).1, nI_add, sumN]) (by omega) ls (lv_sub hl [3, 1, 0] rfl)
        · subst ev2
          exact absurd ho2 (inN (by omega) (by omega))
  exact loop (ng + 1) 0 0 (by omega) rfl (by omega) ls (lv_sub hl [2, 1, 0] rfl)
abbrev rm_X0_ringsOf : Room := { frames := 2, cells := 0, slots := 0, locals := 44 }
set_option maxHeartbeats 4000000 in
set_option maxRecDepth 100000 in
theorem k_X0_ringsOf (l : Launch) (ad tk : Nat → Nat) (nt : Nat) (V : Vt) (k : Nat) (hg : isC k) (ng : Nat) (rr : Nat → Nat) (hI : ClI V k ng rr) (z : Int32) : Ct l yX0_ringsOf cX0_ringsOf 5 (some .int) rm_X0_ringsOf (xS ad tk nt) V [.ref (ad (k)), .int (z)] (rI fun x V2 => V2 = V ∧ x = nI (sumN (fun g => cntI (fun q => V (k + 2 + 3 * g + 1) q = z) (rr g)) ng)) := by
  refine Ct_of (by decide) (Nat.le_of_ble_eq_true rfl) ?_
  intro p e s m below meth c A D cy ls C hl
  have hl : lv_has ls 5 [(0, .ref (ad (k))), (1, .int (z))] := hl
  have h_4_ := hI.2.1
  refine j_iconst (v := 0) C dX0_ringsOf_0 (by decide) ?_
  refine j_istore_n (lv2 := [(2, .int (0)), (0, .ref (ad (k))), (1, .int (z))]) C dX0_ringsOf_1 rfl hl (by decide) rfl (fun ls hl => ?_)
  refine j_iconst (v := 0) C dX0_ringsOf_2 (by decide) ?_
  refine j_istore_n (lv2 := [(3, .int (0)), (2, .int (0)), (0, .ref (ad (k))), (1, .int (z))]) C dX0_ringsOf_3 rfl hl (by decide) rfl (fun ls hl => ?_)
  have loop : ∀ (n_9_ : Nat) (g : Nat) (b : Int32), g ≤ ng → b = nI (sumN (fun g => cntI (fun q => V (k + 2 + 3 * g + 1) q = z) (rr g)) g) → ng - g < n_9_ → ∀ (ls : Array Slot), lv_has ls 5 [(0, .ref (ad (k))), (1, .int (z)), (2, .int (b)), (3, .int (nI g))] → J p l e rm_X0_ringsOf s m [.ref (ad (k)), .int (z)].toArray below meth c A D cy 0 0 (MQ below (gPost D cy A (fun o9 σ2 V2 => σ2 = xS ad tk nt ∧ (rI fun x V2 => V2 = V ∧ x = nI (sumN (fun g => cntI (fun q => V (k + 2 + 3 * g + 1) q = z) (rr g)) ng)) o9 V2)) [.ref (ad (k)), .int (z)].toArray s 0 0 A) (xS ad tk nt) V (F0 m 4 ls []) := by
    intro n_9_
    induction n_9_ with
    | zero =>
      intro g b hgi hb hm
      exact absurd hm (by omega)
    | succ n_9_ ih_loop =>
      intro g b hgi hb hm ls hl
      refine j_iload_n C dX0_ringsOf_4 rfl (lv_at hl 3 rfl) ?_
      refine j_aload_n C dX0_ringsOf_5 rfl (lv_at hl 0 rfl) ?_
      refine j_getI (k := k) C (f_RX0_18_0) (xl (xC (tk := tk) (nt := nt) hg).1.1) ((xC (tk := tk) (nt := nt) hg).2.1) dX0_ringsOf_6 ?_
      refine j_icmp_ge (tgt := 43) C dX0_ringsOf_9 (by decide) (fun c_1_ => ?_) (fun c_1_ => ?_)
      · have n_1_ := Int32.not_lt.mpr c_1_
        obtain rfl : g = ng := by rw [hI.1] at c_1_; have q := leN (by omega) (by omega) c_1_; omega
        refine j_iload_n C dX0_ringsOf_43 rfl (lv_at hl 2 rfl) ?_
        refine j_iret C ⟨rfl, _, rfl, ?_⟩ dX0_ringsOf_44
        exact ⟨rfl, hb⟩
      · have n_1_ := Int32.not_le.mp c_1_
        have hlt : g < ng := by rw [hI.1] at c_1_; exact ltN (by omega) c_1_
        refine j_aload_n C dX0_ringsOf_12 rfl (lv_at hl 0 rfl) ?_
        refine j_iload_n C dX0_ringsOf_13 rfl (lv_at hl 3 rfl) ?_
        refine j_callV (k := k) C [.int (nI g)] [] (k_X0_girlAt l ad tk nt V k hg ng hI.1 hI.2.1 (nI g)) v_RX0_30 (xl (xC (tk := tk) (nt := nt) hg).1.1) ((xC (tk := tk) (nt := nt) hg).2.1) rfl ⟨rfl, rfl, Nat.le_of_ble_eq_true rfl, Nat.le_of_ble_eq_true rfl⟩ rfl hl.1 rfl (Nat.le_of_ble_eq_true rfl) ⟨Nat.le_of_ble_eq_true rfl, Nat.le_of_ble_eq_true rfl⟩ dX0_ringsOf_14 (kA fun x_2_ U2 h_2_ => ?_)
        obtain ⟨eU2, h_2_⟩ := h_2_
        have eU2 := eU2.symm
        subst eU2
        rcases h_2_ with ⟨j_2_, hj2, ej2, ev2⟩ | ⟨ho2, ev2⟩
        · subst ev2
          obtain rfl : g = j_2_ := nI_inj (by omega) (by omega) ej2
          refine j_astore (lv2 := [(4, .ref (ad (k + 2 + 3 * g))), (0, .ref (ad (k))), (1, .int (z)), (2, .int (b)), (3, .int (nI g))]) C dX0_ringsOf_17 hl (by decide) rfl (fun ls hl => ?_)
          refine j_iload_n C dX0_ringsOf_19 rfl (lv_at hl 3 rfl) ?_
          refine j_aload C dX0_ringsOf_20 (lv_at hl 0 rfl) ?_
          refine j_ifnonnull (tgt := 29) C dX0_ringsOf_22 (by decide) ?_
          refine j_aload C dX0_ringsOf_29 (lv_at hl 0 rfl) ?_
          refine j_iload_n C dX0_ringsOf_31 rfl (lv_at hl 2 rfl) ?_
          refine j_callV (k := k + 2 + 3 * g) C [.int (z)] [.int (b)] (k_X2_ringsOf l ad tk nt V (k + 2 + 3 * g) (xCg (nt := nt) hg (by omega : g < 4)).1 (rr g) (hI.2.2 g hlt).1 (hI.2.2 g hlt).2 (z)) v_RX0_52 (xl (xG (tk := tk) (nt := nt) (xCg (nt := nt) hg (by omega : g < 4)).1).1.1) ((xG (tk := tk) (nt := nt) (xCg (nt := nt) hg (by omega : g < 4)).1).2.1) rfl ⟨rfl, rfl, Nat.le_of_ble_eq_true rfl, Nat.le_of_ble_eq_true rfl⟩ rfl hl.1 rfl (Nat.le_of_ble_eq_true rfl) ⟨Nat.le_of_ble_eq_true rfl, Nat.le_of_ble_eq_true rfl⟩ dX0_ringsOf_32 (kI fun x_3_ U3 h_3_ => ?_)
          obtain ⟨eU3, h_3_⟩ := h_3_
          have eU3 := eU3.symm
          subst eU3
          refine j_iadd C dX0_ringsOf_35 ?_
          refine j_istore_n (lv2 := [(2, .int (b + x_3_)), (4, .ref (ad (k + 2 + 3 * g))), (0, .ref (ad (k))), (1, .int (z)), (3, .int (nI g))]) C dX0_ringsOf_36 rfl hl (by decide) rfl (fun ls hl => ?_)
          refine j_iinc (v := nI (g + 1)) (lv2 := [(3, .int (nI (g + 1))), (2, .int (b + x_3_)), (4, .ref (ad (k + 2 + 3 * g))), (0, .ref (ad (k))), (1, .int (z))]) C dX0_ringsOf_37 hl (k0 := 4) rfl (nI_1 _) (by decide) rfl (fun ls hl => ?_)
          refine j_goto (tgt := 4) C dX0_ringsOf_40 (by decide) ?_
          exact ih_loop (g + 1) (b + x_3_) (by omega) (by rw [hb, h_3_, nI_add, sumN]) (by omega) ls (lv_sub hl [3, 4, 1, 0] rfl)
        · subst ev2
          exact absurd ho2 (inN (by omega) (by omega))
  exact loop (ng + 1) 0 0 (by omega) rfl (by omega) ls (lv_sub hl [2, 3, 1, 0] rfl)
abbrev rm_X0_heldBy : Room := { frames := 4, cells := 0, slots := 0, locals := 86 }
set_option maxHeartbeats 4000000 in
set_option maxRecDepth 100000 in
theorem k_X0_heldBy (l : Launch) (ad tk : Nat → Nat) (nt : Nat) (V : Vt) (k : Nat) (hg : isC k) (ng : Nat) (rr : Nat → Nat) (hI : ClI V k ng rr) (z : Int32) : Ct l yX0_heldBy cX0_heldBy 4 (some .int) rm_X0_heldBy (xS ad tk nt) V [.ref (ad (k)), .int (z)] (rI fun x V2 => V2 = V ∧ x = setI (fun g => hoC V k rr g = z) ng) := by
  refine Ct_of (by decide) (Nat.le_of_ble_eq_true rfl) ?_
  intro p e s m below meth c A D cy ls C hl
  have hl : lv_has ls 4 [(0, .ref (ad (k))), (1, .int (z))] := hl
  have h_4_ := hI.2.1
  refine j_iconst (v := 0) C dX0_heldBy_0 (by decide) ?_
  refine j_istore_n (lv2 := [(2, .int (0)), (0, .ref (ad (k))), (1, .int (z))]) C dX0_heldBy_1 rfl hl (by decide) rfl (fun ls hl => ?_)
  refine j_iconst (v := 0) C dX0_heldBy_2 (by decide) ?_
  refine j_istore_n (lv2 := [(3, .int (0)), (2, .int (0)), (0, .ref (ad (k))), (1, .int (z))]) C dX0_heldBy_3 rfl hl (by decide) rfl (fun ls hl => ?_)
  have loop : ∀ (n_9_ : Nat) (g : Nat) (b : Int32), g ≤ ng → b = setI (fun g => hoC V k rr g = z) g → ng - g < n_9_ → ∀ (ls : Array Slot), lv_has ls 4 [(0, .ref (ad (k))), (1, .int (z)), (2, .int (b)), (3, .int (nI g))] → J p l e rm_X0_heldBy s m [.ref (ad (k)), .int (z)].toArray below meth c A D cy 0 0 (MQ below (gPost D cy A (fun o9 σ2 V2 => σ2 = xS ad tk nt ∧ (rI fun x V2 => V2 = V ∧ x = setI (fun g => hoC V k rr g = z) ng) o9 V2)) [.ref (ad (k)), .int (z)].toArray s 0 0 A) (xS ad tk nt) V (F0 m 4 ls []) := by
    intro n_9_
    induction n_9_ with
    | zero =>
      intro g b hgi hb hm
      exact absurd hm (by omega)
    | succ n_9_ ih_loop =>
      intro g b hgi hb hm ls hl
      refine j_iload_n C dX0_heldBy_4 rfl (lv_at hl 3 rfl) ?_
      refine j_aload_n C dX0_heldBy_5 rfl (lv_at hl 0 rfl) ?_
      refine j_getI (k := k) C (f_RX0_18_0) (xl (xC (tk := tk) (nt := nt) hg).1.1) ((xC (tk := tk) (nt := nt) hg).2.1) dX0_heldBy_6 ?_
      refine j_icmp_ge (tgt := 33) C dX0_heldBy_9 (by decide) (fun c_1_ => ?_) (fun c_1_ => ?_)
      · have n_1_ := Int32.not_lt.mpr c_1_
        obtain rfl : g = ng := by rw [hI.1] at c_1_; have q := leN (by omega) (by omega) c_1_; omega
        refine j_iload_n C dX0_heldBy_33 rfl (lv_at hl 2 rfl) ?_
        refine j_iret C ⟨rfl, _, rfl, ?_⟩ dX0_heldBy_34
        exact ⟨rfl, hb⟩
      · have n_1_ := Int32.not_le.mp c_1_
        have hlt : g < ng := by rw [hI.1] at c_1_; exact ltN (by omega) c_1_
        refine j_aload_n C dX0_heldBy_12 rfl (lv_at hl 0 rfl) ?_
        refine j_iload_n C dX0_heldBy_13 rfl (lv_at hl 3 rfl) ?_
        refine j_callV (k := k) C [.int (nI g)] [] (k_X0_holderOf l ad tk nt V k hg ng rr hI (nI g)) v_RX0_55 (xl (xC (tk := tk) (nt := nt) hg).1.1) ((xC (tk := tk) (nt := nt) hg).2.1) rfl ⟨rfl, rfl, Nat.le_of_ble_eq_true rfl, Nat.le_of_ble_eq_true rfl⟩ rfl hl.1 rfl (Nat.le_of_ble_eq_true rfl) ⟨Nat.le_of_ble_eq_true rfl, Nat.le_of_ble_eq_true rfl⟩ dX0_heldBy_14 (kI fun x_2_ U2 h_2_ => ?_)
        obtain ⟨eU2, h_2_⟩ := h_2_
        have eU2 := eU2.symm
        subst eU2
        rw [if_pos ⟨nI_pos (by omega), nI_lt hlt (by omega)⟩, nI_clamp (by omega)] at h_2_
        refine j_iload_n C dX0_heldBy_17 rfl (lv_at hl 1 rfl) ?_
        refine j_icmp_ne (tgt := 27) C dX0_heldBy_18 (by decide) (fun c_3_ => ?_) (fun c_3_ => ?_)
        · skip
          refine j_iinc (v := nI (g + 1)) (lv2 := [(3, .int (nI (g + 1))), (0, .ref (ad (k))), (1, .int (z)), (2, .int (b))]) C dX0_heldBy_27 hl (k0 := 3) rfl (nI_1 _) (by decide) rfl (fun ls hl => ?_)
          refine j_goto (tgt := 4) C dX0_heldBy_30 (by decide) ?_
          exact ih_loop (g + 1) (b) (by omega) (by rw [setI]; simp_all) (by omega) ls (lv_sub hl [1, 2, 3, 0] rfl)
        · skip
          refine j_iload_n C dX0_heldBy_21 rfl (lv_at hl 2 rfl) ?_
          refine j_iconst (v := 1) C dX0_heldBy_22 (by decide) ?_
          refine j_iload_n C dX0_heldBy_23 rfl (lv_at hl 3 rfl) ?_
          refine j_ishl C dX0_heldBy_24 ?_
          refine j_ior C dX0_heldBy_25 ?_
          refine j_istore_n (lv2 := [(2, .int (b ||| (1 <<< ((nI g) &&& 31)))), (0, .ref (ad (k))), (1, .int (z)), (3, .int (nI g))]) C dX0_heldBy_26 rfl hl (by decide) rfl (fun ls hl => ?_)
          refine j_iinc (v := nI (g + 1)) (lv2 := [(3, .int (nI (g + 1))), (2, .int (b ||| (1 <<< ((nI g) &&& 31)))), (0, .ref (ad (k))), (1, .int (z))]) C dX0_heldBy_27 hl (k0 := 3) rfl (nI_1 _) (by decide) rfl (fun ls hl => ?_)
          refine j_goto (tgt := 4) C dX0_heldBy_30 (by decide) ?_
          exact ih_loop (g + 1) (b ||| (1 <<< ((nI g) &&& 31))) (by omega) (by rw [setI]; simp_all) (by omega) ls (lv_sub hl [2, 3, 1, 0] rfl)
  exact loop (ng + 1) 0 0 (by omega) rfl (by omega) ls (lv_sub hl [2, 3, 1, 0] rfl)
abbrev rm_X0_girlsHeld : Room := { frames := 4, cells := 0, slots := 0, locals := 86 }
set_option maxHeartbeats 4000000 in
set_option maxRecDepth 100000 in
theorem k_X0_girlsHeld (l : Launch) (ad tk : Nat → Nat) (nt : Nat) (V : Vt) (k : Nat) (hg : isC k) (ng : Nat) (rr : Nat → Nat) (hI : ClI V k ng rr)  : Ct l yX0_girlsHeld cX0_girlsHeld 3 (some .int) rm_X0_girlsHeld (xS ad tk nt) V [.ref (ad (k))] (rI fun x V2 => V2 = V ∧ x = nI (cntI (fun g => ¬ hoC V k rr g = -9) ng)) := by
  refine Ct_of (by decide) (Nat.le_of_ble_eq_true rfl) ?_
  intro p e s m below meth c A D cy ls C hl
  have hl : lv_has ls 3 [(0, .ref (ad (k)))] := hl
  have h_4_ := hI.2.1
  refine j_iconst (v := 0) C dX0_girlsHeld_0 (by decide) ?_
  refine j_istore_n (lv2 := [(1, .int (0)), (0, .ref (ad (k)))]) C dX0_girlsHeld_1 rfl hl (by decide) rfl (fun ls hl => ?_)
  refine j_iconst (v := 0) C dX0_girlsHeld_2 (by decide) ?_
  refine j_istore_n (lv2 := [(2, .int (0)), (1, .int (0)), (0, .ref (ad (k)))]) C dX0_girlsHeld_3 rfl hl (by decide) rfl (fun ls hl => ?_)
  have loop : ∀ (n_9_ : Nat) (g : Nat) (b : Int32), g ≤ ng → b = nI (cntI (fun g => ¬ hoC V k rr g = -9) g) → ng - g < n_9_ → ∀ (ls : Array Slot), lv_has ls 3 [(0, .ref (ad (k))), (1, .int (b)), (2, .int (nI g))] → J p l e rm_X0_girlsHeld s m [.ref (ad (k))].toArray below meth c A D cy 0 0 (MQ below (gPost D cy A (fun o9 σ2 V2 => σ2 = xS ad tk nt ∧ (rI fun x V2 => V2 = V ∧ x = nI (cntI (fun g => ¬ hoC V k rr g = -9) ng)) o9 V2)) [.ref (ad (k))].toArray s 0 0 A) (xS ad tk nt) V (F0 m 4 ls []) := by
    intro n_9_
    induction n_9_ with
    | zero =>
      intro g b hgi hb hm
      exact absurd hm (by omega)
    | succ n_9_ ih_loop =>
      intro g b hgi hb hm ls hl
      refine j_iload_n C dX0_girlsHeld_4 rfl (lv_at hl 2 rfl) ?_
      refine j_aload_n C dX0_girlsHeld_5 rfl (lv_at hl 0 rfl) ?_
      refine j_getI (k := k) C (f_RX0_18_0) (xl (xC (tk := tk) (nt := nt) hg).1.1) ((xC (tk := tk) (nt := nt) hg).2.1) dX0_girlsHeld_6 ?_
      refine j_icmp_ge (tgt := 31) C dX0_girlsHeld_9 (by decide) (fun c_1_ => ?_) (fun c_1_ => ?_)
      · have n_1_ := Int32.not_lt.mpr c_1_
        obtain rfl : g = ng := by rw [hI.1] at c_1_; have q := leN (by omega) (by omega) c_1_; omega
        refine j_iload_n C dX0_girlsHeld_31 rfl (lv_at hl 1 rfl) ?_
        refine j_iret C ⟨rfl, _, rfl, ?_⟩ dX0_girlsHeld_32
        exact ⟨rfl, hb⟩
      · have n_1_ := Int32.not_le.mp c_1_
        have hlt : g < ng := by rw [hI.1] at c_1_; exact ltN (by omega) c_1_
        refine j_aload_n C dX0_girlsHeld_12 rfl (lv_at hl 0 rfl) ?_
        refine j_iload_n C dX0_girlsHeld_13 rfl (lv_at hl 2 rfl) ?_
        refine j_callV (k := k) C [.int (nI g)] [] (k_X0_holderOf l ad tk nt V k hg ng rr hI (nI g)) v_RX0_55 (xl (xC (tk := tk) (nt := nt) hg).1.1) ((xC (tk := tk) (nt := nt) hg).2.1) rfl ⟨rfl, rfl, Nat.le_of_ble_eq_true rfl, Nat.le_of_ble_eq_true rfl⟩ rfl hl.1 rfl (Nat.le_of_ble_eq_true rfl) ⟨Nat.le_of_ble_eq_true rfl, Nat.le_of_ble_eq_true rfl⟩ dX0_girlsHeld_14 (kI fun x_2_ U2 h_2_ => ?_)
        obtain ⟨eU2, h_2_⟩ := h_2_
        have eU2 := eU2.symm
        subst eU2
        rw [if_pos ⟨nI_pos (by omega), nI_lt hlt (by omega)⟩, nI_clamp (by omega)] at h_2_
        refine j_bipush (v := (-9)) C dX0_girlsHeld_17 (by decide) ?_
        refine j_icmp_eq (tgt := 25) C dX0_girlsHeld_19 (by decide) (fun c_3_ => ?_) (fun c_3_ => ?_)
        · skip
          refine j_iinc (v := nI (g + 1)) (lv2 := [(2, .int (nI (g + 1))), (0, .ref (ad (k))), (1, .int (b))]) C dX0_girlsHeld_25 hl (k0 := 2) rfl (nI_1 _) (by decide) rfl (fun ls hl => ?_)
          refine j_goto (tgt := 4) C dX0_girlsHeld_28 (by decide) ?_
          exact ih_loop (g + 1) (b) (by omega) (by rw [cntI]; simp_all [nI_1]) (by omega) ls (lv_sub hl [1, 2, 0] rfl)
        · skip
          refine j_iinc (v := b + 1) (lv2 := [(1, .int (b + 1)), (0, .ref (ad (k))), (2, .int (nI g))]) C dX0_girlsHeld_22 hl (k0 := 1) rfl rfl (by decide) rfl (fun ls hl => ?_)
          refine j_iinc (v := nI (g + 1)) (lv2 := [(2, .int (nI (g + 1))), (1, .int (b + 1)), (0, .ref (ad (k)))]) C dX0_girlsHeld_25 hl (k0 := 2) rfl (nI_1 _) (by decide) rfl (fun ls hl => ?_)
          refine j_goto (tgt := 4) C dX0_girlsHeld_28 (by decide) ?_
          exact ih_loop (g + 1) (b + 1) (by omega) (by rw [cntI]; simp_all [nI_1]) (by omega) ls (lv_sub hl [2, 1, 0] rfl)
  exact loop (ng + 1) 0 0 (by omega) rfl (by omega) ls (lv_sub hl [2, 1, 0] rfl)
theorem stL_o {V : Vt} {c tg a : Nat} (hc : isC c) (ha : a < c ∨ c + 14 ≤ a) : ∀ g, g ≤ 4 → stL V c tg g a = V a
  | 0, _ => by rw [stL, up2_k _ _ (by omega), up2_k _ _ (by omega)]
  | g + 1, h => by rw [stL, up2_k _ _ (by omega), up2_k _ _ (by omega), up2_k _ _ (by omega), stL_o hc ha g (by omega)]
theorem stL_c {V : Vt} {c tg : Nat} : ∀ g, stL V c tg g c 1 = nI tg
  | 0 => by rw [stL, up2_s]
  | g + 1 => by rw [stL, up2_k _ _ (by omega), up2_k _ _ (by omega), up2_k _ _ (by omega), stL_c g]
theorem bcL_o {V : Vt} {c c_2_ a : Nat} {rr : Nat → Nat} (ha : a < c ∨ c + 14 ≤ a) : ∀ g, g ≤ 4 → bcL V c c_2_ rr g a = V a
  | 0, _ => by rw [bcL, up2_k _ _ (by omega), up2_k _ _ (by omega)]
  | g + 1, h => by rw [bcL, beV_src (by omega) (by omega) (by omega), bcL_o ha g (by omega)]
theorem bcL_c {V : Vt} {c c_2_ : Nat} {rr : Nat → Nat} : ∀ g, bcL V c c_2_ rr g c 1 = V c_2_ 1
  | 0 => by rw [bcL, up2_s]
  | g + 1 => by rw [bcL, beV_src (by omega) (by omega) (by omega), bcL_c g]
abbrev rm_X0_standAs : Room := { frames := 1, cells := 0, slots := 0, locals := 22 }
set_option maxHeartbeats 4000000 in
set_option maxRecDepth 100000 in
theorem k_X0_standAs (l : Launch) (ad tk : Nat → Nat) (nt : Nat) (V : Vt) (k : Nat) (hg : isC k) (tg : Nat) (htg : V 43 2 = nI tg) (h_4_ : tg ≤ 4)  : Ct l yX0_standAs cX0_standAs 4 none rm_X0_standAs (xS ad tk nt) V [.ref (ad (k)), .ref (ad (43))] (rU fun V2 => V2 = stL V k tg tg) := by
  refine Ct_of (by decide) (Nat.le_of_ble_eq_true rfl) ?_
  intro p e s m below meth c A D cy ls C hl
  have hl : lv_has ls 4 [(0, .ref (ad (k))), (1, .ref (ad (43)))] := hl
  refine j_aload_n C dX0_standAs_0 rfl (lv_at hl 0 rfl) ?_
  refine j_aload_n C dX0_standAs_1 rfl (lv_at hl 1 rfl) ?_
  refine j_getI (k := 43) C (f_RX0_22_9) (xl (by decide)) (rfl) dX0_standAs_2 ?_
  refine j_putI (k := k) C (f_RX0_27_0) p_0_0 (xl (xC (tk := tk) (nt := nt) hg).1.1) ((xC (tk := tk) (nt := nt) hg).2.1) dX0_standAs_5 (fun V1 eV1 => ?_)
  refine j_aload_n C dX0_standAs_8 rfl (lv_at hl 0 rfl) ?_
  refine j_aload_n C dX0_standAs_9 rfl (lv_at hl 1 rfl) ?_
  refine j_getI (k := 43) C (f_RX0_28_9) (xl (by decide)) (rfl) dX0_standAs_10 ?_
  refine j_putI (k := k) C (f_RX0_18_0) p_0_1 (xl (xC (tk := tk) (nt := nt) hg).1.1) ((xC (tk := tk) (nt := nt) hg).2.1) dX0_standAs_13 (fun V2 eV2 => ?_)
  refine j_iconst (v := 0) C dX0_standAs_16 (by decide) ?_
  refine j_istore_n (lv2 := [(2, .int (0)), (0, .ref (ad (k))), (1, .ref (ad (43)))]) C dX0_standAs_17 rfl hl (by decide) rfl (fun ls hl => ?_)
  have loop : ∀ (n_9_ : Nat) (g : Nat) (Vi : Vt), g ≤ tg → Vi = stL V k tg g → tg - g < n_9_ → ∀ (ls : Array Slot), lv_has ls 4 [(0, .ref (ad (k))), (1, .ref (ad (43))), (2, .int (nI g))] → J p l e rm_X0_standAs s m [.ref (ad (k)), .ref (ad (43))].toArray below meth c A D cy 0 0 (MQ below (gPost D cy A (fun o9 σ2 V2 => σ2 = xS ad tk nt ∧ (rU fun V2 => V2 = stL V k tg tg) o9 V2)) [.ref (ad (k)), .ref (ad (43))].toArray s 0 0 A) (xS ad tk nt) Vi (F0 m 18 ls []) := by
    intro n_9_
    induction n_9_ with
    | zero =>
      intro g Vi hgi hV hm
      exact absurd hm (by omega)
    | succ n_9_ ih_loop =>
      intro g Vi hgi hV hm ls hl
      refine j_iload_n C dX0_standAs_18 rfl (lv_at hl 2 rfl) ?_
      refine j_aload_n C dX0_standAs_19 rfl (lv_at hl 0 rfl) ?_
      refine j_getI (k := k) C (f_RX0_18_0) (xl (xC (tk := tk) (nt := nt) hg).1.1) ((xC (tk := tk) (nt := nt) hg).2.1) dX0_standAs_20 ?_
      refine j_icmp_ge (tgt := 56) C dX0_standAs_23 (by decide) (fun c_1_ => ?_) (fun c_1_ => ?_)
      · have n_1_ := Int32.not_lt.mpr c_1_
        obtain rfl : g = tg := by rw [hV, stL_c] at c_1_; have q := leN (by omega) (by omega) c_1_; omega
        refine j_vret C ⟨rfl, rfl, ?_⟩ dX0_standAs_56
        exact hV
      · have n_1_ := Int32.not_le.mp c_1_
        have hlt : g < tg := by rw [hV, stL_c] at c_1_; exact ltN (by omega) c_1_
        refine j_aload_n C dX0_standAs_26 rfl (lv_at hl 0 rfl) ?_
        refine j_iload_n C dX0_standAs_27 rfl (lv_at hl 2 rfl) ?_
        refine j_callV (k := k) C [.int (nI g)] [] (k_X0_girlAt l ad tk nt Vi k hg tg (by rw [hV, stL_c]) h_4_ (nI g)) v_RX0_30 (xl (xC (tk := tk) (nt := nt) hg).1.1) ((xC (tk := tk) (nt := nt) hg).2.1) rfl ⟨rfl, rfl, Nat.le_of_ble_eq_true rfl, Nat.le_of_ble_eq_true rfl⟩ rfl hl.1 rfl (Nat.le_of_ble_eq_true rfl) ⟨Nat.le_of_ble_eq_true rfl, Nat.le_of_ble_eq_true rfl⟩ dX0_standAs_28 (kA fun x_2_ U2 h_2_ => ?_)
        obtain ⟨eU2, h_2_⟩ := h_2_
        have eU2 := eU2.symm
        subst eU2
        rcases h_2_ with ⟨j_2_, hj2, ej2, ev2⟩ | ⟨ho2, ev2⟩
        · subst ev2
          obtain rfl : g = j_2_ := nI_inj (by omega) (by omega) ej2
          refine j_astore_n (lv2 := [(3, .ref (ad (k + 2 + 3 * g))), (0, .ref (ad (k))), (1, .ref (ad (43))), (2, .int (nI g))]) C dX0_standAs_31 rfl hl (by decide) rfl (fun ls hl => ?_)
          refine j_aload_n C dX0_standAs_32 rfl (lv_at hl 0 rfl) ?_
          refine j_ifnull C dX0_standAs_33 ?_
          refine j_aload_n C dX0_standAs_36 rfl (lv_at hl 0 rfl) ?_
          refine j_aload_n C dX0_standAs_37 rfl (lv_at hl 2 rfl) ?_
          refine j_iload_n C dX0_standAs_38 rfl (lv_at hl 3 rfl) ?_
          refine j_callV (k := 43) C [.int (nI g)] [.ref (ad (k + 2 + 3 * g))] (k_X9_yardsAt l ad tk nt Vi  (nI g)) v_RX0_34 (xl (by decide)) (rfl) rfl ⟨rfl, rfl, Nat.le_of_ble_eq_true rfl, Nat.le_of_ble_eq_true rfl⟩ rfl hl.1 rfl (Nat.le_of_ble_eq_true rfl) ⟨Nat.le_of_ble_eq_true rfl, Nat.le_of_ble_eq_true rfl⟩ dX0_standAs_39 (kI fun x_3_ U3 h_3_ => ?_)
          obtain ⟨eU3, h_3_⟩ := h_3_
          have eU3 := eU3.symm
          subst eU3
          rw [if_pos ⟨nI_pos (by omega), nI_lt (b := 4) (by omega) (by omega)⟩, nI_clamp (by omega), hV, stL_o hg (by rcases hg with h | h <;> omega) g (by omega)] at h_3_
          refine j_aload_n C dX0_standAs_42 rfl (lv_at hl 2 rfl) ?_
          refine j_iload_n C dX0_standAs_43 rfl (lv_at hl 3 rfl) ?_
          refine j_callV (k := 43) C [.int (nI g)] [.int (x_3_), .ref (ad (k + 2 + 3 * g))] (k_X9_leaningAt l ad tk nt Vi  (nI g)) v_RX0_38 (xl (by decide)) (rfl) rfl ⟨rfl, rfl, Nat.le_of_ble_eq_true rfl, Nat.le_of_ble_eq_true rfl⟩ rfl hl.1 rfl (Nat.le_of_ble_eq_true rfl) ⟨Nat.le_of_ble_eq_true rfl, Nat.le_of_ble_eq_true rfl⟩ dX0_standAs_44 (kI fun x_4_ U4 h_4_ => ?_)
          obtain ⟨eU4, h_4_⟩ := h_4_
          have eU4 := eU4.symm
          subst eU4
          rw [if_pos ⟨nI_pos (by omega), nI_lt (b := 4) (by omega) (by omega)⟩, nI_clamp (by omega), hV, stL_o hg (by rcases hg with h | h <;> omega) g (by omega)] at h_4_
          refine j_callV (k := k + 2 + 3 * g) C [.int (x_3_), .int (x_4_)] [] (k_X2_stand l ad tk nt Vi (k + 2 + 3 * g) (xCg (nt := nt) hg (by omega : g < 4)).1 (x_3_) (x_4_) ) v_RX0_41 (xl (xG (tk := tk) (nt := nt) (xCg (nt := nt) hg (by omega : g < 4)).1).1.1) ((xG (tk := tk) (nt := nt) (xCg (nt := nt) hg (by omega : g < 4)).1).2.1) rfl ⟨rfl, rfl, Nat.le_of_ble_eq_true rfl, Nat.le_of_ble_eq_true rfl⟩ rfl hl.1 rfl (Nat.le_of_ble_eq_true rfl) ⟨Nat.le_of_ble_eq_true rfl, Nat.le_of_ble_eq_true rfl⟩ dX0_standAs_47 (kU fun U5 h_5_ => ?_)
          refine j_iinc (v := nI (g + 1)) (lv2 := [(2, .int (nI (g + 1))), (3, .ref (ad (k + 2 + 3 * g))), (0, .ref (ad (k))), (1, .ref (ad (43)))]) C dX0_standAs_50 hl (k0 := 3) rfl (nI_1 _) (by decide) rfl (fun ls hl => ?_)
          refine j_goto (tgt := 18) C dX0_standAs_53 (by decide) ?_
          exact ih_loop (g + 1) U5 (by omega) (by rw [h_5_, h_4_, h_3_, stL, hV]) (by omega) ls (lv_sub hl [2, 3, 0] rfl)
        · subst ev2
          exact absurd ho2 (inN (by omega) (by omega))
  exact loop (tg + 1) 0 V2 (by omega) (by rw [eV2, eV1, up2_k _ _ (show 43 ≠ k from (by rcases hg with h | h <;> omega)), htg, stL]) (by omega) ls (lv_sub hl [1, 2, 0] rfl)
abbrev rm_X0_becomeLike : Room := { frames := 2, cells := 0, slots := 0, locals := 44 }
set_option maxHeartbeats 4000000 in
set_option maxRecDepth 100000 in
theorem k_X0_becomeLike (l : Launch) (ad tk : Nat → Nat) (nt : Nat) (V : Vt) (k : Nat) (hg : isC k) (k2 : Nat) (hg2 : isC k2) (hne : k ≠ k2) (ng : Nat) (rr : Nat → Nat) (hI : ClI V k2 ng rr)  : Ct l yX0_becomeLike cX0_becomeLike 5 none rm_X0_becomeLike (xS ad tk nt) V [.ref (ad (k)), .ref (ad (k2))] (rU fun V2 => V2 = bcL V k k2 rr ng) := by
  refine Ct_of (by decide) (Nat.le_of_ble_eq_true rfl) ?_
  intro p e s m below meth c A D cy ls C hl
  have hl : lv_has ls 5 [(0, .ref (ad (k))), (1, .ref (ad (k2)))] := hl
  have h_4_ := hI.2.1
  refine j_aload_n C dX0_becomeLike_0 rfl (lv_at hl 0 rfl) ?_
  refine j_aload_n C dX0_becomeLike_1 rfl (lv_at hl 1 rfl) ?_
  refine j_getI (k := k2) C (f_RX0_27_0) (xl (xC (tk := tk) (nt := nt) hg2).1.1) ((xC (tk := tk) (nt := nt) hg2).2.1) dX0_becomeLike_2 ?_
  refine j_putI (k := k) C (f_RX0_27_0) p_0_0 (xl (xC (tk := tk) (nt := nt) hg).1.1) ((xC (tk := tk) (nt := nt) hg).2.1) dX0_becomeLike_5 (fun V1 eV1 => ?_)
  refine j_aload_n C dX0_becomeLike_8 rfl (lv_at hl 0 rfl) ?_
  refine j_aload_n C dX0_becomeLike_9 rfl (lv_at hl 1 rfl) ?_
  refine j_getI (k := k2) C (f_RX0_18_0) (xl (xC (tk := tk) (nt := nt) hg2).1.1) ((xC (tk := tk) (nt := nt) hg2).2.1) dX0_becomeLike_10 ?_
  refine j_putI (k := k) C (f_RX0_18_0) p_0_1 (xl (xC (tk := tk) (nt := nt) hg).1.1) ((xC (tk := tk) (nt := nt) hg).2.1) dX0_becomeLike_13 (fun V2 eV2 => ?_)
  refine j_iconst (v := 0) C dX0_becomeLike_16 (by decide) ?_
  refine j_istore_n (lv2 := [(2, .int (0)), (0, .ref (ad (k))), (1, .ref (ad (k2)))]) C dX0_becomeLike_17 rfl hl (by decide) rfl (fun ls hl => ?_)
  have loop : ∀ (n_9_ : Nat) (g : Nat) (Vi : Vt), g ≤ ng → Vi = bcL V k k2 rr g → ng - g < n_9_ → ∀ (ls : Array Slot), lv_has ls 5 [(0, .ref (ad (k))), (1, .ref (ad (k2))), (2, .int (nI g))] → J p l e rm_X0_becomeLike s m [.ref (ad (k)), .ref (ad (k2))].toArray below meth c A D cy 0 0 (MQ below (gPost D cy A (fun o9 σ2 V2 => σ2 = xS ad tk nt ∧ (rU fun V2 => V2 = bcL V k k2 rr ng) o9 V2)) [.ref (ad (k)), .ref (ad (k2))].toArray s 0 0 A) (xS ad tk nt) Vi (F0 m 18 ls []) := by
    intro n_9_
    induction n_9_ with
    | zero =>
      intro g Vi hgi hV hm
      exact absurd hm (by omega)
    | succ n_9_ ih_loop =>
      intro g Vi hgi hV hm ls hl
      refine j_iload_n C dX0_becomeLike_18 rfl (lv_at hl 2 rfl) ?_
      refine j_aload_n C dX0_becomeLike_19 rfl (lv_at hl 0 rfl) ?_
      refine j_getI (k := k) C (f_RX0_18_0) (xl (xC (tk := tk) (nt := nt) hg).1.1) ((xC (tk := tk) (nt := nt) hg).2.1) dX0_becomeLike_20 ?_
      refine j_icmp_ge (tgt := 60) C dX0_becomeLike_23 (by decide) (fun c_1_ => ?_) (fun c_1_ => ?_)
      · have n_1_ := Int32.not_lt.mpr c_1_
        obtain rfl : g = ng := by rw [hV, bcL_c, hI.1] at c_1_; have q := leN (by omega) (by omega) c_1_; omega
        refine j_vret C ⟨rfl, rfl, ?_⟩ dX0_becomeLike_60
        exact hV
      · have n_1_ := Int32.not_le.mp c_1_
        have hlt : g < ng := by rw [hV, bcL_c, hI.1] at c_1_; exact ltN (by omega) c_1_
        refine j_aload_n C dX0_becomeLike_26 rfl (lv_at hl 0 rfl) ?_
        refine j_iload_n C dX0_becomeLike_27 rfl (lv_at hl 2 rfl) ?_
        refine j_callV (k := k) C [.int (nI g)] [] (k_X0_girlAt l ad tk nt Vi k hg ng (by rw [hV, bcL_c, hI.1]) h_4_ (nI g)) v_RX0_30 (xl (xC (tk := tk) (nt := nt) hg).1.1) ((xC (tk := tk) (nt := nt) hg).2.1) rfl ⟨rfl, rfl, Nat.le_of_ble_eq_true rfl, Nat.le_of_ble_eq_true rfl⟩ rfl hl.1 rfl (Nat.le_of_ble_eq_true rfl) ⟨Nat.le_of_ble_eq_true rfl, Nat.le_of_ble_eq_true rfl⟩ dX0_becomeLike_28 (kA fun x_2_ U2 h_2_ => ?_)
        obtain ⟨eU2, h_2_⟩ := h_2_
        have eU2 := eU2.symm
        subst eU2
        rcases h_2_ with ⟨j_2_, hj2, ej2, ev2⟩ | ⟨ho2, ev2⟩
        · subst ev2
          obtain rfl : g = j_2_ := nI_inj (by omega) (by omega) ej2
          refine j_astore_n (lv2 := [(3, .ref (ad (k + 2 + 3 * g))), (0, .ref (ad (k))), (1, .ref (ad (k2))), (2, .int (nI g))]) C dX0_becomeLike_31 rfl hl (by decide) rfl (fun ls hl => ?_)
          refine j_aload_n C dX0_becomeLike_32 rfl (lv_at hl 2 rfl) ?_
          refine j_iload_n C dX0_becomeLike_33 rfl (lv_at hl 3 rfl) ?_
          refine j_callV (k := k2) C [.int (nI g)] [] (k_X0_girlAt l ad tk nt Vi k2 hg2 ng (by rw [hV, bcL_o (show (k2 < k ∨ k + 14 ≤ k2) from (by rcases hg with h | h <;> rcases hg2 with h_2_ | h_2_ <;> omega)) g (by omega), hI.1]) h_4_ (nI g)) v_RX0_30 (xl (xC (tk := tk) (nt := nt) hg2).1.1) ((xC (tk := tk) (nt := nt) hg2).2.1) rfl ⟨rfl, rfl, Nat.le_of_ble_eq_true rfl, Nat.le_of_ble_eq_true rfl⟩ rfl hl.1 rfl (Nat.le_of_ble_eq_true rfl) ⟨Nat.le_of_ble_eq_true rfl, Nat.le_of_ble_eq_true rfl⟩ dX0_becomeLike_34 (kA fun x_3_ U3 h_3_ => ?_)
          obtain ⟨eU3, h_3_⟩ := h_3_
          have eU3 := eU3.symm
          subst eU3
          rcases h_3_ with ⟨j_3_, hj3, ej3, ev3⟩ | ⟨ho3, ev3⟩
          · subst ev3
            obtain rfl : g = j_3_ := nI_inj (by omega) (by omega) ej3
            refine j_astore (lv2 := [(4, .ref (ad (k2 + 2 + 3 * g))), (3, .ref (ad (k + 2 + 3 * g))), (0, .ref (ad (k))), (1, .ref (ad (k2))), (2, .int (nI g))]) C dX0_becomeLike_37 hl (by decide) rfl (fun ls hl => ?_)
            refine j_aload_n C dX0_becomeLike_39 rfl (lv_at hl 1 rfl) ?_
            refine j_ifnull C dX0_becomeLike_40 ?_
            refine j_aload C dX0_becomeLike_43 (lv_at hl 0 rfl) ?_
            refine j_ifnull C dX0_becomeLike_45 ?_
            refine j_aload_n C dX0_becomeLike_48 rfl (lv_at hl 1 rfl) ?_
            refine j_aload C dX0_becomeLike_49 (lv_at hl 0 rfl) ?_
            refine j_callV (k := k + 2 + 3 * g) C [.ref (ad (k2 + 2 + 3 * g))] [] (k_X2_becomeLike l ad tk nt Vi (k + 2 + 3 * g) (xCg (nt := nt) hg (by omega : g < 4)).1 (k2 + 2 + 3 * g) (xCg (nt := nt) hg2 (by omega)).1 (by omega) (rr g) (by rw [hV, bcL_o (show (k2 + 2 + 3 * g < k ∨ k + 14 ≤ k2 + 2 + 3 * g) from (by rcases hg with h | h <;> rcases hg2 with h_2_ | h_2_ <;> omega)) g (by omega), (hI.2.2 g hlt).1]) (hI.2.2 g hlt).2) v_RX0_45 (xl (xG (tk := tk) (nt := nt) (xCg (nt := nt) hg (by omega : g < 4)).1).1.1) ((xG (tk := tk) (nt := nt) (xCg (nt := nt) hg (by omega : g < 4)).1).2.1) rfl ⟨rfl, rfl, Nat.le_of_ble_eq_true rfl, Nat.le_of_ble_eq_true rfl⟩ rfl hl.1 rfl (Nat.le_of_ble_eq_true rfl) ⟨Nat.le_of_ble_eq_true rfl, Nat.le_of_ble_eq_true rfl⟩ dX0_becomeLike_51 (kU fun U4 h_4_ => ?_)
            refine j_iinc (v := nI (g + 1)) (lv2 := [(2, .int (nI (g + 1))), (4, .ref (ad (k2 + 2 + 3 * g))), (3, .ref (ad (k + 2 + 3 * g))), (0, .ref (ad (k))), (1, .ref (ad (k2)))]) C dX0_becomeLike_54 hl (k0 := 4) rfl (nI_1 _) (by decide) rfl (fun ls hl => ?_)
            refine j_goto (tgt := 18) C dX0_becomeLike_57 (by decide) ?_
            exact ih_loop (g + 1) U4 (by omega) (by rw [h_4_, hV, bcL]) (by omega) ls (lv_sub hl [3, 4, 0] rfl)
          · subst ev3
            exact absurd ho3 (inN (by omega) (by omega))
        · subst ev2
          exact absurd ho2 (inN (by omega) (by omega))
  exact loop (ng + 1) 0 V2 (by omega) (by rw [eV2, eV1, up2_k _ _ (Ne.symm hne), bcL]) (by omega) ls (lv_sub hl [1, 2, 0] rfl)
