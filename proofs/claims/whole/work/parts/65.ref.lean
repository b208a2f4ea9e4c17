theorem dg_n (j : Nat) (hj : j < 58) : dgI (nI j) = if 48 ≤ j then nI (j - 48) else -9 := by
  unfold dgI
  by_cases c : 48 ≤ j
  · rw [if_pos c, if_pos ⟨nI_le (a := 48) c (by omega), nI_le (b := 57) (by omega) (by omega)⟩]
    exact pk_sub (b := 48) c
  · rw [if_neg c, if_neg (fun q => c ((nI_leI (a := 48) (by omega) (by omega)).mp q.1))]
theorem dg_o {z : Int32} (h : z < 0 ∨ nI 58 ≤ z) : dgI z = -9 := by
  unfold dgI
  refine if_neg (fun q => ?_)
  rcases h with h | h
  · exact absurd (Int32.lt_of_le_of_lt q.1 h) (by decide)
  · exact absurd (Int32.le_trans h q.2) (by decide)
theorem n9_le (v : Nat) (hv : v < 100000) : ¬ nI v ≤ (-9 : Int32) := by
  rw [Int32.le_iff_toInt_le, nI_toInt (by omega), show (-9 : Int32).toInt = -9 by decide]
  omega
theorem dg_iff {z : Int32} {lo hi : Nat} (hl : lo ≤ 9) (hh : hi ≤ 9) : (48 + nI lo ≤ z ∧ z ≤ 48 + nI hi) ↔ (nI lo ≤ dgI z ∧ dgI z ≤ nI hi) := by
  have e1 : 48 + nI lo = nI (48 + lo) := nI_add 48 lo
  have e2 : 48 + nI hi = nI (48 + hi) := nI_add 48 hi
  rw [e1, e2]
  rcases pk_ix z (n := 58) (by omega) with h | h | ⟨j, hj, rfl⟩
  · rw [dg_o (Or.inl h)]
    exact ⟨fun q => absurd (Int32.lt_of_le_of_lt q.1 h) (nI_pos (by omega)), fun q => absurd q.1 (n9_le lo (by omega))⟩
  · rw [dg_o (Or.inr h)]
    exact ⟨fun q => absurd (Int32.le_trans h q.2) (fun w => by have := (nI_leI (by omega) (by omega)).mp w; omega), fun q => absurd q.1 (n9_le lo (by omega))⟩
  · rw [dg_n j hj, nI_leI (by omega) (by omega), nI_leI (by omega) (by omega)]
    by_cases c : 48 ≤ j
    · rw [if_pos c, nI_leI (by omega) (by omega), nI_leI (by omega) (by omega)]
      omega
    · rw [if_neg c]
      exact ⟨fun q => absurd q.1 (by omega), fun q => absurd q.1 (n9_le lo (by omega))⟩
theorem dg_val {z : Int32} {lo hi : Nat} (hl : lo ≤ 9) (hh : hi ≤ 9) (h : 48 + nI lo ≤ z ∧ z ≤ 48 + nI hi) : z - 48 = dgI z := by
  have e1 : 48 + nI lo = nI (48 + lo) := nI_add 48 lo
  have e2 : 48 + nI hi = nI (48 + hi) := nI_add 48 hi
  rw [e1, e2] at h
  unfold dgI
  rw [if_pos ⟨Int32.le_trans (nI_le (a := 48) (by omega) (by omega)) h.1, Int32.le_trans h.2 (nI_le (b := 57) (by omega) (by omega))⟩]
theorem dg_9 {z : Int32} {lo : Nat} (hl : lo ≤ 9) (h : nI lo ≤ dgI z) : ¬ dgI z = -9 := fun q => n9_le lo (by omega) (q ▸ h)
/-- a digit of lo .. hi stands at q; a kind's letter does -/
abbrev dgP (V : Vt) (q en lo hi : Nat) : Prop := q < en ∧ nI lo ≤ dgI (V 3 q) ∧ dgI (V 3 q) ≤ nI hi
abbrev kbP (V : Vt) (q en : Nat) : Prop := q < en ∧ 0 ≤ kbI (V 3 q) ∧ kbI (V 3 q) ≤ 2
/-- all stays but what is read -/
def frD (V V2 : Vt) : Prop := ∀ a j, a ≠ 11 → a ≠ 12 → ¬ (a = 0 ∧ 15 ≤ j ∧ j ≤ 18) → V2 a j = V a j
theorem frD.rf {V : Vt} : frD V V := fun _ _ _ _ _ => rfl
theorem frD.tr {V V2 V3 : Vt} (h : frD V V2) (h_2_ : frD V2 V3) : frD V V3 := fun a j p q r => (h_2_ a j p q r).trans (h a j p q r)
theorem frD.up {a i : Nat} {V : Vt} {x : Int32} (h : a = 11 ∨ a = 12 ∨ (a = 0 ∧ 15 ≤ i ∧ i ≤ 18)) : frD V (up2 V a i x) := fun b j p q r => by
  unfold up2
  rw [if_neg (fun z => by
    obtain ⟨rfl, rfl⟩ := z
    rcases h with h | h | h
    · exact p h
    · exact q h
    · exact r h)]
theorem frD.row {V V2 : Vt} (h : frD V V2) {a : Nat} (h_1_ : a ≠ 11) (h_2_ : a ≠ 12) (h_0_ : a ≠ 0) : V2 a = V a := funext fun j => h a j h_1_ h_2_ (fun q => h_0_ q.1)
def rgV (V : Vt) (q g : Nat) : Vt := up2 (up2 (up2 (up2 (up2 V 0 15 (nI (q + 1))) 11 (2 * g) (dgI (V 3 q))) 0 15 (nI (q + 2))) 11 (2 * g + 1) (dgI (V 3 (q + 1)))) 0 17 (nI (g + 1))
def rtV (V : Vt) (q t : Nat) : Vt := up2 (up2 (up2 (up2 (up2 V 12 (2 * t) (kbI (V 3 q))) 0 15 (nI (q + 1))) 0 15 (nI (q + 2))) 12 (2 * t + 1) (dgI (V 3 (q + 1)))) 0 18 (nI (t + 1))
abbrev rm_X12_digit : Room := { frames := 1, cells := 0, slots := 0, locals := 22 }
set_option maxHeartbeats 4000000 in
set_option maxRecDepth 100000 in
theorem k_X12_digit (l : Launch) (ad : Nat → Nat) (V : Vt) (z0 z1 z2 : Int32) (en : Nat) (e0 : z0 = nI en) (hen : en < 241) (lo : Nat) (e1 : z1 = nI lo) (hlo : lo < 10) (hi : Nat) (e2 : z2 = nI hi) (hhi : hi < 10) (q : Nat) (hq : V 0 15 = nI q) (hqe : q ≤ en)  : Ct l yX12_digit cX12_digit 4 (some .int) rm_X12_digit (mS ad) V [.ref (ad (0)), .int (z0), .int (z1), .int (z2)] (rI fun x V2 => (V2 = if dgP V q en lo hi then up2 V 0 15 (nI (q + 1)) else V) ∧ x = if dgP V q en lo hi then dgI (V 3 q) else -9) := by
  subst e0
  subst e1
  subst e2
  refine Ct_of (by decide) (Nat.le_of_ble_eq_true rfl) ?_
  intro p e s m below meth c A D cy ls C hl
  have hl : lv_has ls 4 [(0, .ref (ad (0))), (1, .int (nI en)), (2, .int (nI lo)), (3, .int (nI hi))] := hl
  refine j_aload_n C dX12_digit_0 rfl (lv_at hl 0 rfl) ?_
  refine j_getI (k := 0) C (f_RX12_95_12) (ml (by decide)) (rfl) dX12_digit_1 ?_
  refine j_iload_n C dX12_digit_4 rfl (lv_at hl 1 rfl) ?_
  refine j_icmp_ge (tgt := 31) C dX12_digit_5 (by decide) (fun c_1_ => ?_) (fun c_1_ => ?_)
  · have n_1_ := Int32.not_lt.mpr c_1_
    have q1 := cLe (rfl) (hq) (by omega) (by omega) c_1_
    refine j_bipush (v := (-9)) C dX12_digit_31 (by decide) ?_
    refine j_iret C ⟨rfl, _, rfl, ?_⟩ dX12_digit_33
    exact ⟨(if_neg (fun z => absurd z.1 (by omega))).symm, (if_neg (fun z => absurd z.1 (by omega))).symm⟩
  · have n_1_ := Int32.not_le.mp c_1_
    have q1 := cNe (rfl) (hq) (by omega) (by omega) c_1_
    refine j_aload_n C dX12_digit_8 rfl (lv_at hl 0 rfl) ?_
    refine j_getR (k := 0) (k2 := 3) C (f_RX12_16_12) (ml (by decide)) (rfl) (rfl) dX12_digit_9 ?_
    refine j_aload_n C dX12_digit_12 rfl (lv_at hl 0 rfl) ?_
    refine j_getI (k := 0) C (f_RX12_95_12) (ml (by decide)) (rfl) dX12_digit_13 ?_
    refine j_ialdE (k := 3) (n := 240) (t := q) C (ml (by decide)) (rfl) (rfl) (hq) (by omega) (by decide) dX12_digit_16 ?_
    refine j_bipush (v := 48) C dX12_digit_17 (by decide) ?_
    refine j_iload_n C dX12_digit_19 rfl (lv_at hl 2 rfl) ?_
    refine j_iadd C dX12_digit_20 ?_
    refine j_bipush (v := 48) C dX12_digit_21 (by decide) ?_
    refine j_iload_n C dX12_digit_23 rfl (lv_at hl 3 rfl) ?_
    refine j_iadd C dX12_digit_24 ?_
    refine j_callS C [.int (V 3 q), .int (48 + (nI lo)), .int (48 + (nI hi))] [] (k_X12_within l (mS ad) V (V 3 q) (48 + (nI lo)) (48 + (nI hi))  ) v_RX12_85 ⟨rfl, rfl, Nat.le_of_ble_eq_true rfl, Nat.le_of_ble_eq_true rfl⟩ rfl hl.1 rfl (Nat.le_of_ble_eq_true rfl) ⟨Nat.le_of_ble_eq_true rfl, Nat.le_of_ble_eq_true rfl⟩ dX12_digit_25 (kI fun x_2_ U2 h_2_ => ?_)
    obtain ⟨eU2, h_2_⟩ := h_2_
    have eU2 := eU2.symm
    subst eU2
    refine j_if_ne (tgt := 34) C dX12_digit_28 (by decide) (fun c_3_ => ?_) (fun c_3_ => ?_)
    · skip
      have b3 := Decidable.not_not.mp (mt bI_0.mpr (h_2_ ▸ c_3_))
      refine j_aload_n C dX12_digit_34 rfl (lv_at hl 0 rfl) ?_
      refine j_dup C dX12_digit_35 rfl ?_
      refine j_getI (k := 0) C (f_RX12_95_12) (ml (by decide)) (rfl) dX12_digit_36 ?_
      refine j_iconst (v := 1) C dX12_digit_39 (by decide) ?_
      refine j_iadd C dX12_digit_40 ?_
      refine j_putI (k := 0) C (f_RX12_95_12) p_12_15 (ml (by decide)) (rfl) dX12_digit_41 (fun V1 eV1 => ?_)
      have ha15 : V1 0 15 = nI (q + 1) := by rw [eV1, up2_s, hq, nI_1]
      refine j_aload_n C dX12_digit_44 rfl (lv_at hl 0 rfl) ?_
      refine j_getR (k := 0) (k2 := 3) C (f_RX12_16_12) (ml (by decide)) (rfl) (rfl) dX12_digit_45 ?_
      refine j_aload_n C dX12_digit_48 rfl (lv_at hl 0 rfl) ?_
      refine j_getI (k := 0) C (f_RX12_95_12) (ml (by decide)) (rfl) dX12_digit_49 ?_
      refine j_iconst (v := 1) C dX12_digit_52 (by decide) ?_
      refine j_isub C dX12_digit_53 ?_
      refine j_ialdE (k := 3) (n := 240) (t := q) C (ml (by decide)) (rfl) (rfl) (nS1 (ha15)) (by omega) (by decide) dX12_digit_54 ?_
      refine j_bipush (v := 48) C dX12_digit_55 (by decide) ?_
      refine j_isub C dX12_digit_57 ?_
      refine j_iret C ⟨rfl, _, rfl, ?_⟩ dX12_digit_58
      have yc : dgP V q en lo hi := ⟨by omega, (dg_iff (by omega) (by omega)).mp b3⟩
      refine ⟨?_, ?_⟩
      · rw [if_pos yc, eV1, hq, nI_1]
      · rw [if_pos yc, eV1, up2_k _ _ (by decide)]
        exact dg_val (by omega) (by omega) b3
    · skip
      have b3 := bI_0.mp (h_2_ ▸ c_3_)
      refine j_bipush (v := (-9)) C dX12_digit_31 (by decide) ?_
      refine j_iret C ⟨rfl, _, rfl, ?_⟩ dX12_digit_33
      exact ⟨(if_neg (fun z => b3 ((dg_iff (by omega) (by omega)).mpr z.2))).symm, (if_neg (fun z => b3 ((dg_iff (by omega) (by omega)).mpr z.2))).symm⟩
abbrev rm_X12_isNext : Room := { frames := 0, cells := 0, slots := 0, locals := 0 }
set_option maxHeartbeats 4000000 in
set_option maxRecDepth 100000 in
theorem k_X12_isNext (l : Launch) (ad : Nat → Nat) (V : Vt) (z0 z1 : Int32) (en : Nat) (e0 : z0 = nI en) (hen : en < 241) (q : Nat) (hq : V 0 15 = nI q) (hqe : q ≤ en)  : Ct l yX12_isNext cX12_isNext 3 (some .boolean) rm_X12_isNext (mS ad) V [.ref (ad (0)), .int (z0), .int (z1)] (rI fun x V2 => V2 = V ∧ x = bI (q < en ∧ V 3 q = z1)) := by
  subst e0
  refine Ct_of (by decide) (Nat.le_of_ble_eq_true rfl) ?_
  intro p e s m below meth c A D cy ls C hl
  have hl : lv_has ls 3 [(0, .ref (ad (0))), (1, .int (nI en)), (2, .int (z1))] := hl
  refine j_aload_n C dX12_isNext_0 rfl (lv_at hl 0 rfl) ?_
  refine j_getI (k := 0) C (f_RX12_95_12) (ml (by decide)) (rfl) dX12_isNext_1 ?_
  refine j_iload_n C dX12_isNext_4 rfl (lv_at hl 1 rfl) ?_
  refine j_icmp_ge (tgt := 25) C dX12_isNext_5 (by decide) (fun c_1_ => ?_) (fun c_1_ => ?_)
  · have n_1_ := Int32.not_lt.mpr c_1_
    have q1 := cLe (rfl) (hq) (by omega) (by omega) c_1_
    refine j_iconst (v := 0) C dX12_isNext_25 (by decide) ?_
    refine j_zret C rfl ⟨rfl, _, rfl, ?_⟩ dX12_isNext_26
    refine ⟨rfl, ?_⟩
    exact (bI_f (fun z => absurd z.1 (by omega))).symm
  · have n_1_ := Int32.not_le.mp c_1_
    have q1 := cNe (rfl) (hq) (by omega) (by omega) c_1_
    refine j_aload_n C dX12_isNext_8 rfl (lv_at hl 0 rfl) ?_
    refine j_getR (k := 0) (k2 := 3) C (f_RX12_16_12) (ml (by decide)) (rfl) (rfl) dX12_isNext_9 ?_
    refine j_aload_n C dX12_isNext_12 rfl (lv_at hl 0 rfl) ?_
    refine j_getI (k := 0) C (f_RX12_95_12) (ml (by decide)) (rfl) dX12_isNext_13 ?_
    refine j_ialdE (k := 3) (n := 240) (t := q) C (ml (by decide)) (rfl) (rfl) (hq) (by omega) (by decide) dX12_isNext_16 ?_
    refine j_iload_n C dX12_isNext_17 rfl (lv_at hl 2 rfl) ?_
    refine j_icmp_ne (tgt := 25) C dX12_isNext_18 (by decide) (fun c_2_ => ?_) (fun c_2_ => ?_)
    · skip
      refine j_iconst (v := 0) C dX12_isNext_25 (by decide) ?_
      refine j_zret C rfl ⟨rfl, _, rfl, ?_⟩ dX12_isNext_26
      refine ⟨rfl, ?_⟩
      exact (bI_f (fun z => c_2_ z.2)).symm
    · skip
      refine j_iconst (v := 1) C dX12_isNext_21 (by decide) ?_
      refine j_goto (tgt := 26) C dX12_isNext_22 (by decide) ?_
      refine j_zret C rfl ⟨rfl, _, rfl, ?_⟩ dX12_isNext_26
      refine ⟨rfl, ?_⟩
      exact (bI_t ⟨by omega, c_2_⟩).symm
abbrev rm_X12_isSign : Room := { frames := 1, cells := 0, slots := 0, locals := 22 }
set_option maxHeartbeats 4000000 in
set_option maxRecDepth 100000 in
theorem k_X12_isSign (l : Launch) (ad : Nat → Nat) (V : Vt) (z0 z1 : Int32) (en : Nat) (e0 : z0 = nI en) (hen : en < 241) (q : Nat) (hq : V 0 15 = nI q) (hqe : q ≤ en)  : Ct l yX12_isSign cX12_isSign 3 (some .boolean) rm_X12_isSign (mS ad) V [.ref (ad (0)), .int (z0), .int (z1)] (rI fun x V2 => (V2 = if q < en ∧ V 3 q = z1 then up2 V 0 15 (nI (q + 1)) else V) ∧ x = bI (q < en ∧ V 3 q = z1)) := by
  subst e0
  refine Ct_of (by decide) (Nat.le_of_ble_eq_true rfl) ?_
  intro p e s m below meth c A D cy ls C hl
  have hl : lv_has ls 3 [(0, .ref (ad (0))), (1, .int (nI en)), (2, .int (z1))] := hl
  refine j_aload_n C dX12_isSign_0 rfl (lv_at hl 0 rfl) ?_
  refine j_iload_n C dX12_isSign_1 rfl (lv_at hl 1 rfl) ?_
  refine j_iload_n C dX12_isSign_2 rfl (lv_at hl 2 rfl) ?_
  refine j_callV (k := 0) C [.int (nI en), .int (z1)] [] (k_X12_isNext l ad V (nI en) (z1) en (rfl) (by omega) q hq hqe) v_RX12_98 (ml (by decide)) (rfl) rfl ⟨rfl, rfl, Nat.le_of_ble_eq_true rfl, Nat.le_of_ble_eq_true rfl⟩ rfl hl.1 rfl (Nat.le_of_ble_eq_true rfl) ⟨Nat.le_of_ble_eq_true rfl, Nat.le_of_ble_eq_true rfl⟩ dX12_isSign_3 (kI fun x_1_ U1 h_1_ => ?_)
  obtain ⟨eU1, h_1_⟩ := h_1_
  have eU1 := eU1.symm
  subst eU1
  refine j_if_ne (tgt := 11) C dX12_isSign_6 (by decide) (fun c_2_ => ?_) (fun c_2_ => ?_)
  · skip
    refine j_aload_n C dX12_isSign_11 rfl (lv_at hl 0 rfl) ?_
    refine j_dup C dX12_isSign_12 rfl ?_
    refine j_getI (k := 0) C (f_RX12_95_12) (ml (by decide)) (rfl) dX12_isSign_13 ?_
    refine j_iconst (v := 1) C dX12_isSign_16 (by decide) ?_
    refine j_iadd C dX12_isSign_17 ?_
    refine j_putI (k := 0) C (f_RX12_95_12) p_12_15 (ml (by decide)) (rfl) dX12_isSign_18 (fun V1 eV1 => ?_)
    refine j_iconst (v := 1) C dX12_isSign_21 (by decide) ?_
    refine j_zret C rfl ⟨rfl, _, rfl, ?_⟩ dX12_isSign_22
    have yc := Decidable.not_not.mp (mt bI_0.mpr (h_1_ ▸ c_2_))
    exact ⟨by rw [if_pos yc, eV1, hq, nI_1], (bI_t yc).symm⟩
  · skip
    refine j_iconst (v := 0) C dX12_isSign_9 (by decide) ?_
    refine j_zret C rfl ⟨rfl, _, rfl, ?_⟩ dX12_isSign_10
    have yc := bI_0.mp (h_1_ ▸ c_2_)
    exact ⟨by rw [if_neg yc], (bI_f yc).symm⟩
abbrev rm_X12_readTheGirl : Room := { frames := 2, cells := 0, slots := 0, locals := 45 }
set_option maxHeartbeats 4000000 in
set_option maxRecDepth 100000 in
theorem k_X12_readTheGirl (l : Launch) (ad : Nat → Nat) (V : Vt) (z0 : Int32) (en : Nat) (e0 : z0 = nI en) (hen : en < 241) (q : Nat) (hq : V 0 15 = nI q) (hqe : q ≤ en) (g : Nat) (hg : V 0 17 = nI g) (g4 : g < 4)  : Ct l yX12_readTheGirl cX12_readTheGirl 3 (some .boolean) rm_X12_readTheGirl (mS ad) V [.ref (ad (0)), .int (z0)] (rI fun x V2 => frD V V2 ∧ ((x = 0 ∧ ¬ dgP V q en 1 9 ∧ V2 0 15 = nI q) ∨ (x = 0 ∧ dgP V q en 1 9 ∧ ¬ dgP V (q + 1) en 0 9 ∧ V2 0 15 = nI (q + 1)) ∨ (x = 1 ∧ dgP V q en 1 9 ∧ dgP V (q + 1) en 0 9 ∧ V2 = rgV V q g))) := by
  subst e0
  refine Ct_of (by decide) (Nat.le_of_ble_eq_true rfl) ?_
  intro p e s m below meth c A D cy ls C hl
  have hl : lv_has ls 3 [(0, .ref (ad (0))), (1, .int (nI en))] := hl
  refine j_iconst (v := 2) C dX12_readTheGirl_0 (by decide) ?_
  refine j_aload_n C dX12_readTheGirl_1 rfl (lv_at hl 0 rfl) ?_
  refine j_getI (k := 0) C (f_RX12_129_12) (ml (by decide)) (rfl) dX12_readTheGirl_2 ?_
  refine j_imul C dX12_readTheGirl_5 ?_
  refine j_istore_n (lv2 := [(2, .int (2 * (V 0 17))), (0, .ref (ad (0))), (1, .int (nI en))]) C dX12_readTheGirl_6 rfl hl (by decide) rfl (fun ls hl => ?_)
  refine j_aload_n C dX12_readTheGirl_7 rfl (lv_at hl 1 rfl) ?_
  refine j_getR (k := 0) (k2 := 11) C (f_RX12_40_12) (ml (by decide)) (rfl) (rfl) dX12_readTheGirl_8 ?_
  refine j_iload_n C dX12_readTheGirl_11 rfl (lv_at hl 0 rfl) ?_
  refine j_aload_n C dX12_readTheGirl_12 rfl (lv_at hl 1 rfl) ?_
  refine j_iload_n C dX12_readTheGirl_13 rfl (lv_at hl 2 rfl) ?_
  refine j_iconst (v := 1) C dX12_readTheGirl_14 (by decide) ?_
  refine j_bipush (v := 9) C dX12_readTheGirl_15 (by decide) ?_
  refine j_callV (k := 0) C [.int (nI en), .int (1), .int (9)] [.int (2 * (V 0 17)), .ref (ad (11))] (k_X12_digit l ad V (nI en) (1) (9) en (rfl) (by omega) 1 (show (1 : Int32) = nI 1 from rfl) (by omega) 9 (show (9 : Int32) = nI 9 from rfl) (by omega) q hq hqe) v_RX12_141 (ml (by decide)) (rfl) rfl ⟨rfl, rfl, Nat.le_of_ble_eq_true rfl, Nat.le_of_ble_eq_true rfl⟩ rfl hl.1 rfl (Nat.le_of_ble_eq_true rfl) ⟨Nat.le_of_ble_eq_true rfl, Nat.le_of_ble_eq_true rfl⟩ dX12_readTheGirl_17 (kI fun x_1_ U1 h_1_ => ?_)
  obtain ⟨eU1, h_1_⟩ := h_1_
  by_cases dq1 : dgP V (q) en 1 9
  · replace h_1_ := h_1_.trans (if_pos dq1)
    replace eU1 := eU1.trans (if_pos dq1)
    refine j_iastE (k := 11) (n := 8) (t := 2 * g) C (ml (by decide)) (rfl) (rfl) (nM (show (2 : Int32) = nI 2 from rfl) (hg)) (by omega) (by decide) dX12_readTheGirl_20 (fun V1 eV1 => ?_)
    have ev1 : V1 = up2 (up2 V 0 15 (nI (q + 1))) 11 (2 * g) (dgI (V 3 q)) := by rw [eV1, eU1, h_1_]
    have ha15 : V1 0 15 = nI (q + 1) := by rw [ev1, up2_k _ _ (by decide), up2_s]
    have hr3 : V1 3 = V 3 := by rw [ev1, up2_k _ _ (by decide), up2_k _ _ (by decide)]
    refine j_aload_n C dX12_readTheGirl_21 rfl (lv_at hl 1 rfl) ?_
    refine j_getR (k := 0) (k2 := 11) C (f_RX12_40_12) (ml (by decide)) (rfl) (rfl) dX12_readTheGirl_22 ?_
    refine j_iload_n C dX12_readTheGirl_25 rfl (lv_at hl 0 rfl) ?_
    refine j_ialdE (k := 11) (n := 8) (t := 2 * g) C (ml (by decide)) (rfl) (rfl) (nM (show (2 : Int32) = nI 2 from rfl) (hg)) (by omega) (by decide) dX12_readTheGirl_26 ?_
    refine j_bipush (v := (-9)) C dX12_readTheGirl_27 (by decide) ?_
    refine j_icmp_ne (tgt := 34) C dX12_readTheGirl_29 (by decide) (fun c_2_ => ?_) (fun c_2_ => ?_)
    · skip
      refine j_aload_n C dX12_readTheGirl_34 rfl (lv_at hl 1 rfl) ?_
      refine j_getR (k := 0) (k2 := 11) C (f_RX12_40_12) (ml (by decide)) (rfl) (rfl) dX12_readTheGirl_35 ?_
      refine j_iload_n C dX12_readTheGirl_38 rfl (lv_at hl 0 rfl) ?_
      refine j_iconst (v := 1) C dX12_readTheGirl_39 (by decide) ?_
      refine j_iadd C dX12_readTheGirl_40 ?_
      refine j_aload_n C dX12_readTheGirl_41 rfl (lv_at hl 1 rfl) ?_
      refine j_iload_n C dX12_readTheGirl_42 rfl (lv_at hl 2 rfl) ?_
      refine j_iconst (v := 0) C dX12_readTheGirl_43 (by decide) ?_
      refine j_bipush (v := 9) C dX12_readTheGirl_44 (by decide) ?_
      refine j_callV (k := 0) C [.int (nI en), .int (0), .int (9)] [.int ((2 * (V 0 17)) + 1), .ref (ad (11))] (k_X12_digit l ad V1 (nI en) (0) (9) en (rfl) (by omega) 0 (show (0 : Int32) = nI 0 from rfl) (by omega) 9 (show (9 : Int32) = nI 9 from rfl) (by omega) (q + 1) ha15 (by have := dq1.1; omega)) v_RX12_141 (ml (by decide)) (rfl) rfl ⟨rfl, rfl, Nat.le_of_ble_eq_true rfl, Nat.le_of_ble_eq_true rfl⟩ rfl hl.1 rfl (Nat.le_of_ble_eq_true rfl) ⟨Nat.le_of_ble_eq_true rfl, Nat.le_of_ble_eq_true rfl⟩ dX12_readTheGirl_46 (kI fun x_3_ U3 h_3_ => ?_)
      obtain ⟨eU3, h_3_⟩ := h_3_
      by_cases dq3 : dgP V1 (q + 1) en 0 9
      · replace h_3_ := h_3_.trans (if_pos dq3)
        replace eU3 := eU3.trans (if_pos dq3)
        refine j_iastE (k := 11) (n := 8) (t := 2 * g + 1) C (ml (by decide)) (rfl) (rfl) (nA (nM (show (2 : Int32) = nI 2 from rfl) (hg)) (show (1 : Int32) = nI 1 from rfl)) (by omega) (by decide) dX12_readTheGirl_49 (fun V2 eV2 => ?_)
        have dz : dgP V (q + 1) en 0 9 := by unfold dgP; rw [← hr3]; exact dq3
        have ev2 : V2 = up2 (up2 (up2 (up2 V 0 15 (nI (q + 1))) 11 (2 * g) (dgI (V 3 q))) 0 15 (nI (q + 2))) 11 (2 * g + 1) (dgI (V 3 (q + 1))) := by rw [eV2, eU3, h_3_, hr3, ev1]
        have hg2 : V2 0 17 = nI g := by rw [ev2, up2_k _ _ (by decide), up2_i _ _ (by decide), up2_k _ _ (by decide), up2_i _ _ (by decide)]; exact hg
        refine j_aload_n C dX12_readTheGirl_50 rfl (lv_at hl 1 rfl) ?_
        refine j_dup C dX12_readTheGirl_51 rfl ?_
        refine j_getI (k := 0) C (f_RX12_129_12) (ml (by decide)) (rfl) dX12_readTheGirl_52 ?_
        refine j_iconst (v := 1) C dX12_readTheGirl_55 (by decide) ?_
        refine j_iadd C dX12_readTheGirl_56 ?_
        refine j_putI (k := 0) C (f_RX12_129_12) p_12_17 (ml (by decide)) (rfl) dX12_readTheGirl_57 (fun V3 eV3 => ?_)
        have ev3 : V3 11 (2 * g + 1) = dgI (V 3 (q + 1)) := by rw [eV3, up2_k _ _ (by decide), ev2, up2_s]
        refine j_aload_n C dX12_readTheGirl_60 rfl (lv_at hl 1 rfl) ?_
        refine j_getR (k := 0) (k2 := 11) C (f_RX12_40_12) (ml (by decide)) (rfl) (rfl) dX12_readTheGirl_61 ?_
        refine j_iload_n C dX12_readTheGirl_64 rfl (lv_at hl 0 rfl) ?_
        refine j_iconst (v := 1) C dX12_readTheGirl_65 (by decide) ?_
        refine j_iadd C dX12_readTheGirl_66 ?_
        refine j_ialdE (k := 11) (n := 8) (t := 2 * g + 1) C (ml (by decide)) (rfl) (rfl) (nA (nM (show (2 : Int32) = nI 2 from rfl) (hg)) (show (1 : Int32) = nI 1 from rfl)) (by omega) (by decide) dX12_readTheGirl_67 ?_
        refine j_bipush (v := (-9)) C dX12_readTheGirl_68 (by decide) ?_
        refine j_icmp_eq (tgt := 77) C dX12_readTheGirl_70 (by decide) (fun c_4_ => ?_) (fun c_4_ => ?_)
        · skip
          exact absurd (ev3.symm.trans c_4_) (dg_9 (lo := 0) (by omega) dz.2.1)
        · skip
          refine j_iconst (v := 1) C dX12_readTheGirl_73 (by decide) ?_
          refine j_goto (tgt := 78) C dX12_readTheGirl_74 (by decide) ?_
          refine j_zret C rfl ⟨rfl, _, rfl, ?_⟩ dX12_readTheGirl_78
          refine ⟨?_, Or.inr (Or.inr ⟨rfl, dq1, dz, ?_⟩)⟩
          · rw [eV3, ev2]; exact ((((frD.up (by omega)).tr (frD.up (by omega))).tr (frD.up (by omega))).tr (frD.up (by omega))).tr (frD.up (by omega))
          · unfold rgV
            rw [eV3, hg2, nI_1, ev2]
      · replace h_3_ := h_3_.trans (if_neg dq3)
        replace eU3 := eU3.trans (if_neg dq3)
        refine j_iastE (k := 11) (n := 8) (t := 2 * g + 1) C (ml (by decide)) (rfl) (rfl) (nA (nM (show (2 : Int32) = nI 2 from rfl) (hg)) (show (1 : Int32) = nI 1 from rfl)) (by omega) (by decide) dX12_readTheGirl_49 (fun V4 eV4 => ?_)
        have dz : ¬ dgP V (q + 1) en 0 9 := by unfold dgP; rw [← hr3]; exact dq3
        have ev2 : V4 = up2 (up2 (up2 V 0 15 (nI (q + 1))) 11 (2 * g) (dgI (V 3 q))) 11 (2 * g + 1) (-9) := by rw [eV4, eU3, h_3_, ev1]
        have hg2 : V4 0 17 = nI g := by rw [ev2, up2_k _ _ (by decide), up2_k _ _ (by decide), up2_i _ _ (by decide)]; exact hg
        refine j_aload_n C dX12_readTheGirl_50 rfl (lv_at hl 1 rfl) ?_
        refine j_dup C dX12_readTheGirl_51 rfl ?_
        refine j_getI (k := 0) C (f_RX12_129_12) (ml (by decide)) (rfl) dX12_readTheGirl_52 ?_
        refine j_iconst (v := 1) C dX12_readTheGirl_55 (by decide) ?_
        refine j_iadd C dX12_readTheGirl_56 ?_
        refine j_putI (k := 0) C (f_RX12_129_12) p_12_17 (ml (by decide)) (rfl) dX12_readTheGirl_57 (fun V5 eV5 => ?_)
        have ev3 : V5 11 (2 * g + 1) = -9 := by rw [eV5, up2_k _ _ (by decide), ev2, up2_s]
        refine j_aload_n C dX12_readTheGirl_60 rfl (lv_at hl 1 rfl) ?_
        refine j_getR (k := 0) (k2 := 11) C (f_RX12_40_12) (ml (by decide)) (rfl) (rfl) dX12_readTheGirl_61 ?_
        refine j_iload_n C dX12_readTheGirl_64 rfl (lv_at hl 0 rfl) ?_
        refine j_iconst (v := 1) C dX12_readTheGirl_65 (by decide) ?_
        refine j_iadd C dX12_readTheGirl_66 ?_
        refine j_ialdE (k := 11) (n := 8) (t := 2 * g + 1) C (ml (by decide)) (rfl) (rfl) (nA (nM (show (2 : Int32) = nI 2 from rfl) (hg)) (show (1 : Int32) = nI 1 from rfl)) (by omega) (by decide) dX12_readTheGirl_67 ?_
        refine j_bipush (v := (-9)) C dX12_readTheGirl_68 (by decide) ?_
        refine j_icmp_eq (tgt := 77) C dX12_readTheGirl_70 (by decide) (fun c_5_ => ?_) (fun c_5_ => ?_)
        · skip
          refine j_iconst (v := 0) C dX12_readTheGirl_77 (by decide) ?_
          refine j_zret C rfl ⟨rfl, _, rfl, ?_⟩ dX12_readTheGirl_78
          refine ⟨?_, Or.inr (Or.inl ⟨rfl, dq1, dz, ?_⟩)⟩
          · rw [eV5, ev2]; exact (((frD.up (by omega)).tr (frD.up (by omega))).tr (frD.up (by omega))).tr (frD.up (by omega))
          · rw [eV5, up2_i _ _ (by decide), ev2, up2_k _ _ (by decide), up2_k _ _ (by decide), up2_s]
        · skip
          exact absurd ev3 c_5_
    · skip
      exact absurd (by rw [ev1, up2_s] at c_2_; exact c_2_) (dg_9 (lo := 1) (by omega) dq1.2.1)
  · replace h_1_ := h_1_.trans (if_neg dq1)
    replace eU1 := eU1.trans (if_neg dq1)
    refine j_iastE (k := 11) (n := 8) (t := 2 * g) C (ml (by decide)) (rfl) (rfl) (nM (show (2 : Int32) = nI 2 from rfl) (hg)) (by omega) (by decide) dX12_readTheGirl_20 (fun V6 eV6 => ?_)
    have ev1 : V6 = up2 V 11 (2 * g) (-9) := by rw [eV6, eU1, h_1_]
    refine j_aload_n C dX12_readTheGirl_21 rfl (lv_at hl 1 rfl) ?_
    refine j_getR (k := 0) (k2 := 11) C (f_RX12_40_12) (ml (by decide)) (rfl) (rfl) dX12_readTheGirl_22 ?_
    refine j_iload_n C dX12_readTheGirl_25 rfl (lv_at hl 0 rfl) ?_
    refine j_ialdE (k := 11) (n := 8) (t := 2 * g) C (ml (by decide)) (rfl) (rfl) (nM (show (2 : Int32) = nI 2 from rfl) (hg)) (by omega) (by decide) dX12_readTheGirl_26 ?_
    refine j_bipush (v := (-9)) C dX12_readTheGirl_27 (by decide) ?_
    refine j_icmp_ne (tgt := 34) C dX12_readTheGirl_29 (by decide) (fun c_6_ => ?_) (fun c_6_ => ?_)
    · skip
      exact absurd (by rw [ev1, up2_s]) c_6_
    · skip
      refine j_iconst (v := 0) C dX12_readTheGirl_32 (by decide) ?_
      refine j_zret C rfl ⟨rfl, _, rfl, ?_⟩ dX12_readTheGirl_33
      refine ⟨by rw [ev1]; exact frD.up (by omega), Or.inl ⟨rfl, dq1, ?_⟩⟩
      rw [ev1, up2_k _ _ (by decide)]
      exact hq
abbrev rm_X12_readTheThrower : Room := { frames := 2, cells := 0, slots := 0, locals := 45 }
set_option maxHeartbeats 4000000 in
set_option maxRecDepth 100000 in
theorem k_X12_readTheThrower (l : Launch) (ad : Nat → Nat) (V : Vt) (z0 : Int32) (en : Nat) (e0 : z0 = nI en) (hen : en < 241) (q : Nat) (hq : V 0 15 = nI q) (hqe : q ≤ en) (t : Nat) (ht : V 0 18 = nI t) (t5 : t < 5)  : Ct l yX12_readTheThrower cX12_readTheThrower 4 (some .boolean) rm_X12_readTheThrower (mS ad) V [.ref (ad (0)), .int (z0)] (rI fun x V2 => frD V V2 ∧ ((x = 0 ∧ ¬ kbP V q en ∧ V2 0 15 = nI q) ∨ (x = 0 ∧ kbP V q en ∧ ¬ dgP V (q + 1) en 1 9 ∧ V2 0 15 = nI (q + 1)) ∨ (x = 1 ∧ kbP V q en ∧ dgP V (q + 1) en 1 9 ∧ V2 = rtV V q t))) := by
  subst e0
  refine Ct_of (by decide) (Nat.le_of_ble_eq_true rfl) ?_
  intro p e s m below meth c A D cy ls C hl
  have hl : lv_has ls 4 [(0, .ref (ad (0))), (1, .int (nI en))] := hl
  refine j_aload_n C dX12_readTheThrower_0 rfl (lv_at hl 0 rfl) ?_
  refine j_getI (k := 0) C (f_RX12_95_12) (ml (by decide)) (rfl) dX12_readTheThrower_1 ?_
  refine j_iload_n C dX12_readTheThrower_4 rfl (lv_at hl 1 rfl) ?_
  refine j_icmp_ge (tgt := 20) C dX12_readTheThrower_5 (by decide) (fun c_1_ => ?_) (fun c_1_ => ?_)
  · have n_1_ := Int32.not_lt.mpr c_1_
    have q1 := cLe (rfl) (hq) (by omega) (by omega) c_1_
    refine j_iconst (v := 0) C dX12_readTheThrower_20 (by decide) ?_
    refine j_istore_n (lv2 := [(2, .int (0)), (0, .ref (ad (0))), (1, .int (nI en))]) C dX12_readTheThrower_21 rfl hl (by decide) rfl (fun ls hl => ?_)
    refine j_iconst (v := 2) C dX12_readTheThrower_22 (by decide) ?_
    refine j_aload_n C dX12_readTheThrower_23 rfl (lv_at hl 1 rfl) ?_
    refine j_getI (k := 0) C (f_RX12_132_12) (ml (by decide)) (rfl) dX12_readTheThrower_24 ?_
    refine j_imul C dX12_readTheThrower_27 ?_
    refine j_istore_n (lv2 := [(3, .int (2 * (V 0 18))), (2, .int (0)), (0, .ref (ad (0))), (1, .int (nI en))]) C dX12_readTheThrower_28 rfl hl (by decide) rfl (fun ls hl => ?_)
    refine j_aload_n C dX12_readTheThrower_29 rfl (lv_at hl 2 rfl) ?_
    refine j_getR (k := 0) (k2 := 12) C (f_RX12_43_12) (ml (by decide)) (rfl) (rfl) dX12_readTheThrower_30 ?_
    refine j_iload_n C dX12_readTheThrower_33 rfl (lv_at hl 0 rfl) ?_
    refine j_iload_n C dX12_readTheThrower_34 rfl (lv_at hl 1 rfl) ?_
    refine j_bipush (v := 114) C dX12_readTheThrower_35 (by decide) ?_
    refine j_icmp_ne (tgt := 44) C dX12_readTheThrower_37 (by decide) (fun c_2_ => ?_) (fun c_2_ => ?_)
    · skip
      have q2 := cNq (show (0 : Int32) = nI 0 from rfl) (show (114 : Int32) = nI 114 from rfl) (by omega) (by omega) c_2_
      refine j_iload_n C dX12_readTheThrower_44 rfl (lv_at hl 1 rfl) ?_
      refine j_bipush (v := 108) C dX12_readTheThrower_45 (by decide) ?_
      refine j_icmp_ne (tgt := 54) C dX12_readTheThrower_47 (by decide) (fun c_3_ => ?_) (fun c_3_ => ?_)
      · skip
        have q3 := cNq (show (0 : Int32) = nI 0 from rfl) (show (108 : Int32) = nI 108 from rfl) (by omega) (by omega) c_3_
        refine j_iload_n C dX12_readTheThrower_54 rfl (lv_at hl 1 rfl) ?_
        refine j_bipush (v := 115) C dX12_readTheThrower_55 (by decide) ?_
        refine j_icmp_ne (tgt := 64) C dX12_readTheThrower_57 (by decide) (fun c_4_ => ?_) (fun c_4_ => ?_)
        · skip
          have q4 := cNq (show (0 : Int32) = nI 0 from rfl) (show (115 : Int32) = nI 115 from rfl) (by omega) (by omega) c_4_
          refine j_bipush (v := (-9)) C dX12_readTheThrower_64 (by decide) ?_
          refine j_iastE (k := 12) (n := 10) (t := 2 * t) C (ml (by decide)) (rfl) (rfl) (nM (show (2 : Int32) = nI 2 from rfl) (ht)) (by omega) (by decide) dX12_readTheThrower_66 (fun V1 eV1 => ?_)
          have nk : ¬ kbP V q en := fun z => absurd z.1 (by omega)
          have ev1 : V1 = up2 V 12 (2 * t) (-9) := eV1
          refine j_aload_n C dX12_readTheThrower_67 rfl (lv_at hl 2 rfl) ?_
          refine j_getR (k := 0) (k2 := 12) C (f_RX12_43_12) (ml (by decide)) (rfl) (rfl) dX12_readTheThrower_68 ?_
          refine j_iload_n C dX12_readTheThrower_71 rfl (lv_at hl 0 rfl) ?_
          refine j_ialdE (k := 12) (n := 10) (t := 2 * t) C (ml (by decide)) (rfl) (rfl) (nM (show (2 : Int32) = nI 2 from rfl) (ht)) (by omega) (by decide) dX12_readTheThrower_72 ?_
          refine j_bipush (v := (-9)) C dX12_readTheThrower_73 (by decide) ?_
          refine j_icmp_ne (tgt := 80) C dX12_readTheThrower_75 (by decide) (fun c_5_ => ?_) (fun c_5_ => ?_)
          · skip
            exact absurd (by rw [ev1, up2_s]) c_5_
          · skip
            refine j_iconst (v := 0) C dX12_readTheThrower_78 (by decide) ?_
            refine j_zret C rfl ⟨rfl, _, rfl, ?_⟩ dX12_readTheThrower_79
            refine ⟨by rw [ev1]; exact frD.up (by omega), Or.inl ⟨rfl, nk, ?_⟩⟩
            rw [ev1, up2_k _ _ (by decide)]
            exact hq
        · skip
          have q4 := cEq (show (0 : Int32) = nI 0 from rfl) (show (115 : Int32) = nI 115 from rfl) (by omega) (by omega) c_4_
          exact absurd q4 (by decide)
      · skip
        have q3 := cEq (show (0 : Int32) = nI 0 from rfl) (show (108 : Int32) = nI 108 from rfl) (by omega) (by omega) c_3_
        exact absurd q3 (by decide)
    · skip
      have q2 := cEq (show (0 : Int32) = nI 0 from rfl) (show (114 : Int32) = nI 114 from rfl) (by omega) (by omega) c_2_
      exact absurd q2 (by decide)
  · have n_1_ := Int32.not_le.mp c_1_
    have q1 := cNe (rfl) (hq) (by omega) (by omega) c_1_
    refine j_aload_n C dX12_readTheThrower_8 rfl (lv_at hl 0 rfl) ?_
    refine j_getR (k := 0) (k2 := 3) C (f_RX12_16_12) (ml (by decide)) (rfl) (rfl) dX12_readTheThrower_9 ?_
    refine j_aload_n C dX12_readTheThrower_12 rfl (lv_at hl 0 rfl) ?_
    refine j_getI (k := 0) C (f_RX12_95_12) (ml (by decide)) (rfl) dX12_readTheThrower_13 ?_
    refine j_ialdE (k := 3) (n := 240) (t := q) C (ml (by decide)) (rfl) (rfl) (hq) (by omega) (by decide) dX12_readTheThrower_16 ?_
    refine j_goto (tgt := 21) C dX12_readTheThrower_17 (by decide) ?_
    refine j_istore_n (lv2 := [(2, .int (V 3 q)), (0, .ref (ad (0))), (1, .int (nI en))]) C dX12_readTheThrower_21 rfl hl (by decide) rfl (fun ls hl => ?_)
    refine j_iconst (v := 2) C dX12_readTheThrower_22 (by decide) ?_
    refine j_aload_n C dX12_readTheThrower_23 rfl (lv_at hl 1 rfl) ?_
    refine j_getI (k := 0) C (f_RX12_132_12) (ml (by decide)) (rfl) dX12_readTheThrower_24 ?_
    refine j_imul C dX12_readTheThrower_27 ?_
    refine j_istore_n (lv2 := [(3, .int (2 * (V 0 18))), (2, .int (V 3 q)), (0, .ref (ad (0))), (1, .int (nI en))]) C dX12_readTheThrower_28 rfl hl (by decide) rfl (fun ls hl => ?_)
    refine j_aload_n C dX12_readTheThrower_29 rfl (lv_at hl 2 rfl) ?_
    refine j_getR (k := 0) (k2 := 12) C (f_RX12_43_12) (ml (by decide)) (rfl) (rfl) dX12_readTheThrower_30 ?_
    refine j_iload_n C dX12_readTheThrower_33 rfl (lv_at hl 0 rfl) ?_
    refine j_iload_n C dX12_readTheThrower_34 rfl (lv_at hl 1 rfl) ?_
    refine j_bipush (v := 114) C dX12_readTheThrower_35 (by decide) ?_
    refine j_icmp_ne (tgt := 44) C dX12_readTheThrower_37 (by decide) (fun c_6_ => ?_) (fun c_6_ => ?_)
    · skip
      refine j_iload_n C dX12_readTheThrower_44 rfl (lv_at hl 1 rfl) ?_
      refine j_bipush (v := 108) C dX12_readTheThrower_45 (by decide) ?_
      refine j_icmp_ne (tgt := 54) C dX12_readTheThrower_47 (by decide) (fun c_7_ => ?_) (fun c_7_ => ?_)
      · skip
        refine j_iload_n C dX12_readTheThrower_54 rfl (lv_at hl 1 rfl) ?_
        refine j_bipush (v := 115) C dX12_readTheThrower_55 (by decide) ?_
        refine j_icmp_ne (tgt := 64) C dX12_readTheThrower_57 (by decide) (fun c_8_ => ?_) (fun c_8_ => ?_)
        · skip
          refine j_bipush (v := (-9)) C dX12_readTheThrower_64 (by decide) ?_
          refine j_iastE (k := 12) (n := 10) (t := 2 * t) C (ml (by decide)) (rfl) (rfl) (nM (show (2 : Int32) = nI 2 from rfl) (ht)) (by omega) (by decide) dX12_readTheThrower_66 (fun V2 eV2 => ?_)
          have ek : kbI (V 3 q) = (-9) := by unfold kbI; rw [if_neg c_6_, if_neg c_7_, if_neg c_8_]
          have nk : ¬ kbP V q en := fun z => absurd (ek ▸ z.2.1) (by decide)
          have ev1 : V2 = up2 V 12 (2 * t) (-9) := eV2
          refine j_aload_n C dX12_readTheThrower_67 rfl (lv_at hl 2 rfl) ?_
          refine j_getR (k := 0) (k2 := 12) C (f_RX12_43_12) (ml (by decide)) (rfl) (rfl) dX12_readTheThrower_68 ?_
          refine j_iload_n C dX12_readTheThrower_71 rfl (lv_at hl 0 rfl) ?_
          refine j_ialdE (k := 12) (n := 10) (t := 2 * t) C (ml (by decide)) (rfl) (rfl) (nM (show (2 : Int32) = nI 2 from rfl) (ht)) (by omega) (by decide) dX12_readTheThrower_72 ?_
          refine j_bipush (v := (-9)) C dX12_readTheThrower_73 (by decide) ?_
          refine j_icmp_ne (tgt := 80) C dX12_readTheThrower_75 (by decide) (fun c_9_ => ?_) (fun c_9_ => ?_)
          · skip
            exact absurd (by rw [ev1, up2_s]) c_9_
          · skip
            refine j_iconst (v := 0) C dX12_readTheThrower_78 (by decide) ?_
            refine j_zret C rfl ⟨rfl, _, rfl, ?_⟩ dX12_readTheThrower_79
            refine ⟨by rw [ev1]; exact frD.up (by omega), Or.inl ⟨rfl, nk, ?_⟩⟩
            rw [ev1, up2_k _ _ (by decide)]
            exact hq
        · skip
          refine j_iconst (v := 2) C dX12_readTheThrower_60 (by decide) ?_
          refine j_goto (tgt := 66) C dX12_readTheThrower_61 (by decide) ?_
          refine j_iastE (k := 12) (n := 10) (t := 2 * t) C (ml (by decide)) (rfl) (rfl) (nM (show (2 : Int32) = nI 2 from rfl) (ht)) (by omega) (by decide) dX12_readTheThrower_66 (fun V3 eV3 => ?_)
          have ek : kbI (V 3 q) = 2 := by unfold kbI; rw [if_neg c_6_, if_neg c_7_, if_pos c_8_]
          have yk : kbP V q en := ⟨by omega, by rw [ek]; decide, by rw [ek]; decide⟩
          have ev1 : V3 = up2 V 12 (2 * t) (kbI (V 3 q)) := by rw [ek]; exact eV3
          have hb15 : V3 0 15 = nI q := by rw [ev1, up2_k _ _ (by decide)]; exact hq
          refine j_aload_n C dX12_readTheThrower_67 rfl (lv_at hl 2 rfl) ?_
          refine j_getR (k := 0) (k2 := 12) C (f_RX12_43_12) (ml (by decide)) (rfl) (rfl) dX12_readTheThrower_68 ?_
          refine j_iload_n C dX12_readTheThrower_71 rfl (lv_at hl 0 rfl) ?_
          refine j_ialdE (k := 12) (n := 10) (t := 2 * t) C (ml (by decide)) (rfl) (rfl) (nM (show (2 : Int32) = nI 2 from rfl) (ht)) (by omega) (by decide) dX12_readTheThrower_72 ?_
          refine j_bipush (v := (-9)) C dX12_readTheThrower_73 (by decide) ?_
          refine j_icmp_ne (tgt := 80) C dX12_readTheThrower_75 (by decide) (fun c_10_ => ?_) (fun c_10_ => ?_)
          · skip
            refine j_aload_n C dX12_readTheThrower_80 rfl (lv_at hl 2 rfl) ?_
            refine j_dup C dX12_readTheThrower_81 rfl ?_
            refine j_getI (k := 0) C (f_RX12_95_12) (ml (by decide)) (rfl) dX12_readTheThrower_82 ?_
            refine j_iconst (v := 1) C dX12_readTheThrower_85 (by decide) ?_
            refine j_iadd C dX12_readTheThrower_86 ?_
            refine j_putI (k := 0) C (f_RX12_95_12) p_12_15 (ml (by decide)) (rfl) dX12_readTheThrower_87 (fun V4 eV4 => ?_)
            have ev2 : V4 = up2 (up2 V 12 (2 * t) (kbI (V 3 q))) 0 15 (nI (q + 1)) := by rw [eV4, hb15, nI_1, ev1]
            have ha15 : V4 0 15 = nI (q + 1) := by rw [ev2, up2_s]
            have hr3 : V4 3 = V 3 := by rw [ev2, up2_k _ _ (by decide), up2_k _ _ (by decide)]
            refine j_aload_n C dX12_readTheThrower_90 rfl (lv_at hl 2 rfl) ?_
            refine j_getR (k := 0) (k2 := 12) C (f_RX12_43_12) (ml (by decide)) (rfl) (rfl) dX12_readTheThrower_91 ?_
            refine j_iload_n C dX12_readTheThrower_94 rfl (lv_at hl 0 rfl) ?_
            refine j_iconst (v := 1) C dX12_readTheThrower_95 (by decide) ?_
            refine j_iadd C dX12_readTheThrower_96 ?_
            refine j_aload_n C dX12_readTheThrower_97 rfl (lv_at hl 2 rfl) ?_
            refine j_iload_n C dX12_readTheThrower_98 rfl (lv_at hl 3 rfl) ?_
            refine j_iconst (v := 1) C dX12_readTheThrower_99 (by decide) ?_
            refine j_bipush (v := 9) C dX12_readTheThrower_100 (by decide) ?_
            refine j_callV (k := 0) C [.int (nI en), .int (1), .int (9)] [.int ((2 * (V 0 18)) + 1), .ref (ad (12))] (k_X12_digit l ad V4 (nI en) (1) (9) en (rfl) (by omega) 1 (show (1 : Int32) = nI 1 from rfl) (by omega) 9 (show (9 : Int32) = nI 9 from rfl) (by omega) (q + 1) ha15 (by have := yk.1; omega)) v_RX12_141 (ml (by decide)) (rfl) rfl ⟨rfl, rfl, Nat.le_of_ble_eq_true rfl, Nat.le_of_ble_eq_true rfl⟩ rfl hl.1 rfl (Nat.le_of_ble_eq_true rfl) ⟨Nat.le_of_ble_eq_true rfl, Nat.le_of_ble_eq_true rfl⟩ dX12_readTheThrower_102 (kI fun x_11_ U11 h_11_ => ?_)
            obtain ⟨eU11, h_11_⟩ := h_11_
            by_cases dq11 : dgP V4 (q + 1) en 1 9
            · replace h_11_ := h_11_.trans (if_pos dq11)
              replace eU11 := eU11.trans (if_pos dq11)
              refine j_iastE (k := 12) (n := 10) (t := 2 * t + 1) C (ml (by decide)) (rfl) (rfl) (nA (nM (show (2 : Int32) = nI 2 from rfl) (ht)) (show (1 : Int32) = nI 1 from rfl)) (by omega) (by decide) dX12_readTheThrower_105 (fun V5 eV5 => ?_)
              have dz : dgP V (q + 1) en 1 9 := by unfold dgP; rw [← hr3]; exact dq11
              have ev3 : V5 = up2 (up2 (up2 (up2 V 12 (2 * t) (kbI (V 3 q))) 0 15 (nI (q + 1))) 0 15 (nI (q + 2))) 12 (2 * t + 1) (dgI (V 3 (q + 1))) := by rw [eV5, eU11, h_11_, hr3, ev2]
              have hg2 : V5 0 18 = nI t := by rw [ev3, up2_k _ _ (by decide), up2_i _ _ (by decide), up2_i _ _ (by decide), up2_k _ _ (by decide)]; exact ht
              refine j_aload_n C dX12_readTheThrower_106 rfl (lv_at hl 2 rfl) ?_
              refine j_dup C dX12_readTheThrower_107 rfl ?_
              refine j_getI (k := 0) C (f_RX12_132_12) (ml (by decide)) (rfl) dX12_readTheThrower_108 ?_
              refine j_iconst (v := 1) C dX12_readTheThrower_111 (by decide) ?_
              refine j_iadd C dX12_readTheThrower_112 ?_
              refine j_putI (k := 0) C (f_RX12_132_12) p_12_18 (ml (by decide)) (rfl) dX12_readTheThrower_113 (fun V6 eV6 => ?_)
              have ev4 : V6 12 (2 * t + 1) = dgI (V 3 (q + 1)) := by rw [eV6, up2_k _ _ (by decide), ev3, up2_s]
              refine j_aload_n C dX12_readTheThrower_116 rfl (lv_at hl 2 rfl) ?_
              refine j_getR (k := 0) (k2 := 12) C (f_RX12_43_12) (ml (by decide)) (rfl) (rfl) dX12_readTheThrower_117 ?_
              refine j_iload_n C dX12_readTheThrower_120 rfl (lv_at hl 0 rfl) ?_
              refine j_iconst (v := 1) C dX12_readTheThrower_121 (by decide) ?_
              refine j_iadd C dX12_readTheThrower_122 ?_
              refine j_ialdE (k := 12) (n := 10) (t := 2 * t + 1) C (ml (by decide)) (rfl) (rfl) (nA (nM (show (2 : Int32) = nI 2 from rfl) (ht)) (show (1 : Int32) = nI 1 from rfl)) (by omega) (by decide) dX12_readTheThrower_123 ?_
              refine j_bipush (v := (-9)) C dX12_readTheThrower_124 (by decide) ?_
              refine j_icmp_eq (tgt := 133) C dX12_readTheThrower_126 (by decide) (fun c_12_ => ?_) (fun c_12_ => ?_)
              · skip
                exact absurd (ev4.symm.trans c_12_) (dg_9 (lo := 1) (by omega) dz.2.1)
              · skip
                refine j_iconst (v := 1) C dX12_readTheThrower_129 (by decide) ?_
                refine j_goto (tgt := 134) C dX12_readTheThrower_130 (by decide) ?_
                refine j_zret C rfl ⟨rfl, _, rfl, ?_⟩ dX12_readTheThrower_134
                refine ⟨?_, Or.inr (Or.inr ⟨rfl, yk, dz, ?_⟩)⟩
                · rw [eV6, ev3]; exact ((((frD.up (by omega)).tr (frD.up (by omega))).tr (frD.up (by omega))).tr (frD.up (by omega))).tr (frD.up (by omega))
                · unfold rtV
                  rw [eV6, hg2, nI_1, ev3]
            · replace h_11_ := h_11_.trans (if_neg dq11)
              replace eU11 := eU11.trans (if_neg dq11)
              refine j_iastE (k := 12) (n := 10) (t := 2 * t + 1) C (ml (by decide)) (rfl) (rfl) (nA (nM (show (2 : Int32) = nI 2 from rfl) (ht)) (show (1 : Int32) = nI 1 from rfl)) (by omega) (by decide) dX12_readTheThrower_105 (fun V7 eV7 => ?_)
              have dz : ¬ dgP V (q + 1) en 1 9 := by unfold dgP; rw [← hr3]; exact dq11
              have ev3 : V7 = up2 (up2 (up2 V 12 (2 * t) (kbI (V 3 q))) 0 15 (nI (q + 1))) 12 (2 * t + 1) (-9) := by rw [eV7, eU11, h_11_, ev2]
              have hg2 : V7 0 18 = nI t := by rw [ev3, up2_k _ _ (by decide), up2_i _ _ (by decide), up2_k _ _ (by decide)]; exact ht
              refine j_aload_n C dX12_readTheThrower_106 rfl (lv_at hl 2 rfl) ?_
              refine j_dup C dX12_readTheThrower_107 rfl ?_
              refine j_getI (k := 0) C (f_RX12_132_12) (ml (by decide)) (rfl) dX12_readTheThrower_108 ?_
              refine j_iconst (v := 1) C dX12_readTheThrower_111 (by decide) ?_
              refine j_iadd C dX12_readTheThrower_112 ?_
              refine j_putI (k := 0) C (f_RX12_132_12) p_12_18 (ml (by decide)) (rfl) dX12_readTheThrower_113 (fun V8 eV8 => ?_)
              have ev4 : V8 12 (2 * t + 1) = -9 := by rw [eV8, up2_k _ _ (by decide), ev3, up2_s]
              refine j_aload_n C dX12_readTheThrower_116 rfl (lv_at hl 2 rfl) ?_
              refine j_getR (k := 0) (k2 := 12) C (f_RX12_43_12) (ml (by decide)) (rfl) (rfl) dX12_readTheThrower_117 ?_
              refine j_iload_n C dX12_readTheThrower_120 rfl (lv_at hl 0 rfl) ?_
              refine j_iconst (v := 1) C dX12_readTheThrower_121 (by decide) ?_
              refine j_iadd C dX12_readTheThrower_122 ?_
              refine j_ialdE (k := 12) (n := 10) (t := 2 * t + 1) C (ml (by decide)) (rfl) (rfl) (nA (nM (show (2 : Int32) = nI 2 from rfl) (ht)) (show (1 : Int32) = nI 1 from rfl)) (by omega) (by decide) dX12_readTheThrower_123 ?_
              refine j_bipush (v := (-9)) C dX12_readTheThrower_124 (by decide) ?_
              refine j_icmp_eq (tgt := 133) C dX12_readTheThrower_126 (by decide) (fun c_13_ => ?_) (fun c_13_ => ?_)
              · skip
                refine j_iconst (v := 0) C dX12_readTheThrower_133 (by decide) ?_
                refine j_zret C rfl ⟨rfl, _, rfl, ?_⟩ dX12_readTheThrower_134
                refine ⟨?_, Or.inr (Or.inl ⟨rfl, yk, dz, ?_⟩)⟩
                · rw [eV8, ev3]; exact (((frD.up (by omega)).tr (frD.up (by omega))).tr (frD.up (by omega))).tr (frD.up (by omega))
                · rw [eV8, up2_i _ _ (by decide), ev3, up2_k _ _ (by decide), up2_s]
              · skip
                exact absurd ev4 c_13_
          · skip
            exact absurd (by rw [ev1, up2_s, ek] at c_10_; exact c_10_) (by decide)
      · skip
        refine j_iconst (v := 1) C dX12_readTheThrower_50 (by decide) ?_
        refine j_goto (tgt := 66) C dX12_readTheThrower_51 (by decide) ?_
        refine j_iastE (k := 12) (n := 10) (t := 2 * t) C (ml (by decide)) (rfl) (rfl) (nM (show (2 : Int32) = nI 2 from rfl) (ht)) (by omega) (by decide) dX12_readTheThrower_66 (fun V9 eV9 => ?_)
        have ek : kbI (V 3 q) = 1 := by unfold kbI; rw [if_neg c_6_, if_pos c_7_]
        have yk : kbP V q en := ⟨by omega, by rw [ek]; decide, by rw [ek]; decide⟩
        have ev1 : V9 = up2 V 12 (2 * t) (kbI (V 3 q)) := by rw [ek]; exact eV9
        have hb15 : V9 0 15 = nI q := by rw [ev1, up2_k _ _ (by decide)]; exact hq
        refine j_aload_n C dX12_readTheThrower_67 rfl (lv_at hl 2 rfl) ?_
        refine j_getR (k := 0) (k2 := 12) C (f_RX12_43_12) (ml (by decide)) (rfl) (rfl) dX12_readTheThrower_68 ?_
        refine j_iload_n C dX12_readTheThrower_71 rfl (lv_at hl 0 rfl) ?_
        refine j_ialdE (k := 12) (n := 10) (t := 2 * t) C (ml (by decide)) (rfl) (rfl) (nM (show (2 : Int32) = nI 2 from rfl) (ht)) (by omega) (by decide) dX12_readTheThrower_72 ?_
        refine j_bipush (v := (-9)) C dX12_readTheThrower_73 (by decide) ?_
        refine j_icmp_ne (tgt := 80) C dX12_readTheThrower_75 (by decide) (fun c_14_ => ?_) (fun c_14_ => ?_)
        · skip
          refine j_aload_n C dX12_readTheThrower_80 rfl (lv_at hl 2 rfl) ?_
          refine j_dup C dX12_readTheThrower_81 rfl ?_
          refine j_getI (k := 0) C (f_RX12_95_12) (ml (by decide)) (rfl) dX12_readTheThrower_82 ?_
          refine j_iconst (v := 1) C dX12_readTheThrower_85 (by decide) ?_
          refine j_iadd C dX12_readTheThrower_86 ?_
          refine j_putI (k := 0) C (f_RX12_95_12) p_12_15 (ml (by decide)) (rfl) dX12_readTheThrower_87 (fun V10 eV10 => ?_)
          have ev2 : V10 = up2 (up2 V 12 (2 * t) (kbI (V 3 q))) 0 15 (nI (q + 1)) := by rw [eV10, hb15, nI_1, ev1]
          have ha15 : V10 0 15 = nI (q + 1) := by rw [ev2, up2_s]
          have hr3 : V10 3 = V 3 := by rw [ev2, up2_k _ _ (by decide), up2_k _ _ (by decide)]
          refine j_aload_n C dX12_readTheThrower_90 rfl (lv_at hl 2 rfl) ?_
          refine j_getR (k := 0) (k2 := 12) C (f_RX12_43_12) (ml (by decide)) (rfl) (rfl) dX12_readTheThrower_91 ?_
          refine j_iload_n C dX12_readTheThrower_94 rfl (lv_at hl 0 rfl) ?_
          refine j_iconst (v := 1) C dX12_readTheThrower_95 (by decide) ?_
          refine j_iadd C dX12_readTheThrower_96 ?_
          refine j_aload_n C dX12_readTheThrower_97 rfl (lv_at hl 2 rfl) ?_
          refine j_iload_n C dX12_readTheThrower_98 rfl (lv_at hl 3 rfl) ?_
          refine j_iconst (v := 1) C dX12_readTheThrower_99 (by decide) ?_
          refine j_bipush (v := 9) C dX12_readTheThrower_100 (by decide) ?_
          refine j_callV (k := 0) C [.int (nI en), .int (1), .int (9)] [.int ((2 * (V 0 18)) + 1), .ref (ad (12))] (k_X12_digit l ad V10 (nI en) (1) (9) en (rfl) (by omega) 1 (show (1 : Int32) = nI 1 from rfl) (by omega) 9 (show (9 : Int32) = nI 9 from rfl) (by omega) (q + 1) ha15 (by have := yk.1; omega)) v_RX12_141 (ml (by decide)) (rfl) rfl ⟨rfl, rfl, Nat.le_of_ble_eq_true rfl, Nat.le_of_ble_eq_true rfl⟩ rfl hl.1 rfl (Nat.le_of_ble_eq_true rfl) ⟨Nat.le_of_ble_eq_true rfl, Nat.le_of_ble_eq_true rfl⟩ dX12_readTheThrower_102 (kI fun x_15_ U15 h_15_ => ?_)
          obtain ⟨eU15, h_15_⟩ := h_15_
          by_cases dq15 : dgP V10 (q + 1) en 1 9
          · replace h_15_ := h_15_.trans (if_pos dq15)
            replace eU15 := eU15.trans (if_pos dq15)
            refine j_iastE (k := 12) (n := 10) (t := 2 * t + 1) C (ml (by decide)) (rfl) (rfl) (nA (nM (show (2 : Int32) = nI 2 from rfl) (ht)) (show (1 : Int32) = nI 1 from rfl)) (by omega) (by decide) dX12_readTheThrower_105 (fun V11 eV11 => ?_)
            have dz : dgP V (q + 1) en 1 9 := by unfold dgP; rw [← hr3]; exact dq15
            have ev3 : V11 = up2 (up2 (up2 (up2 V 12 (2 * t) (kbI (V 3 q))) 0 15 (nI (q + 1))) 0 15 (nI (q + 2))) 12 (2 * t + 1) (dgI (V 3 (q + 1))) := by rw [eV11, eU15, h_15_, hr3, ev2]
            have hg2 : V11 0 18 = nI t := by rw [ev3, up2_k _ _ (by decide), up2_i _ _ (by decide), up2_i _ _ (by decide), up2_k _ _ (by decide)]; exact ht
            refine j_aload_n C dX12_readTheThrower_106 rfl (lv_at hl 2 rfl) ?_
            refine j_dup C dX12_readTheThrower_107 rfl ?_
            refine j_getI (k := 0) C (f_RX12_132_12) (ml (by decide)) (rfl) dX12_readTheThrower_108 ?_
            refine j_iconst (v := 1) C dX12_readTheThrower_111 (by decide) ?_
            refine j_iadd C dX12_readTheThrower_112 ?_
            refine j_putI (k := 0) C (f_RX12_132_12) p_12_18 (ml (by decide)) (rfl) dX12_readTheThrower_113 (fun V12 eV12 => ?_)
            have ev4 : V12 12 (2 * t + 1) = dgI (V 3 (q + 1)) := by rw [eV12, up2_k _ _ (by decide), ev3, up2_s]
            refine j_aload_n C dX12_readTheThrower_116 rfl (lv_at hl 2 rfl) ?_
            refine j_getR (k := 0) (k2 := 12) C (f_RX12_43_12) (ml (by decide)) (rfl) (rfl) dX12_readTheThrower_117 ?_
            refine j_iload_n C dX12_readTheThrower_120 rfl (lv_at hl 0 rfl) ?_
            refine j_iconst (v := 1) C dX12_readTheThrower_121 (by decide) ?_
            refine j_iadd C dX12_readTheThrower_122 ?_
            refine j_ialdE (k := 12) (n := 10) (t := 2 * t + 1) C (ml (by decide)) (rfl) (rfl) (nA (nM (show (2 : Int32) = nI 2 from rfl) (ht)) (show (1 : Int32) = nI 1 from rfl)) (by omega) (by decide) dX12_readTheThrower_123 ?_
            refine j_bipush (v := (-9)) C dX12_readTheThrower_124 (by decide) ?_
            refine j_icmp_eq (tgt := 133) C dX12_readTheThrower_126 (by decide) (fun c_16_ => ?_) (fun c_16_ => ?_)
            · skip
              exact absurd (ev4.symm.trans c_16_) (dg_9 (lo := 1) (by omega) dz.2.1)
            · skip
              refine j_iconst (v := 1) C dX12_readTheThrower_129 (by decide) ?_
              refine j_goto (tgt := 134) C dX12_readTheThrower_130 (by decide) ?_
              refine j_zret C rfl ⟨rfl, _, rfl, ?_⟩ dX12_readTheThrower_134
              refine ⟨?_, Or.inr (Or.inr ⟨rfl, yk, dz, ?_⟩)⟩
              · rw [eV12, ev3]; exact ((((frD.up (by omega)).tr (frD.up (by omega))).tr (frD.up (by omega))).tr (frD.up (by omega))).tr (frD.up (by omega))
              · unfold rtV
                rw [eV12, hg2, nI_1, ev3]
          · replace h_15_ := h_15_.trans (if_neg dq15)
            replace eU15 := eU15.trans (if_neg dq15)
            refine j_iastE (k := 12) (n := 10) (t := 2 * t + 1) C (ml (by decide)) (rfl) (rfl) (nA (nM (show (2 : Int32) = nI 2 from rfl) (ht)) (show (1 : Int32) = nI 1 from rfl)) (by omega) (by decide) dX12_readTheThrower_105 (fun V13 eV13 => ?_)
            have dz : ¬ dgP V (q + 1) en 1 9 := by unfold dgP; rw [← hr3]; exact dq15
            have ev3 : V13 = up2 (up2 (up2 V 12 (2 * t) (kbI (V 3 q))) 0 15 (nI (q + 1))) 12 (2 * t + 1) (-9) := by rw [eV13, eU15, h_15_, ev2]
            have hg2 : V13 0 18 = nI t := by rw [ev3, up2_k _ _ (by decide), up2_i _ _ (by decide), up2_k _ _ (by decide)]; exact ht
            refine j_aload_n C dX12_readTheThrower_106 rfl (lv_at hl 2 rfl) ?_
            refine j_dup C dX12_readTheThrower_107 rfl ?_
            refine j_getI (k := 0) C (f_RX12_132_12) (ml (by decide)) (rfl) dX12_readTheThrower_108 ?_
            refine j_iconst (v := 1) C dX12_readTheThrower_111 (by decide) ?_
            refine j_iadd C dX12_readTheThrower_112 ?_
            refine j_putI (k := 0) C (f_RX12_132_12) p_12_18 (ml (by decide)) (rfl) dX12_readTheThrower_113 (fun V14 eV14 => ?_)
            have ev4 : V14 12 (2 * t + 1) = -9 := by rw [eV14, up2_k _ _ (by decide), ev3, up2_s]
            refine j_aload_n C dX12_readTheThrower_116 rfl (lv_at hl 2 rfl) ?_
            refine j_getR (k := 0) (k2 := 12) C (f_RX12_43_12) (ml (by decide)) (rfl) (rfl) dX12_readTheThrower_117 ?_
            refine j_iload_n C dX12_readTheThrower_120 rfl (lv_at hl 0 rfl) ?_
            refine j_iconst (v := 1) C dX12_readTheThrower_121 (by decide) ?_
            refine j_iadd C dX12_readTheThrower_122 ?_
            refine j_ialdE (k := 12) (n := 10) (t := 2 * t + 1) C (ml (by decide)) (rfl) (rfl) (nA (nM (show (2 : Int32) = nI 2 from rfl) (ht)) (show (1 : Int32) = nI 1 from rfl)) (by omega) (by decide) dX12_readTheThrower_123 ?_
            refine j_bipush (v := (-9)) C dX12_readTheThrower_124 (by decide) ?_
            refine j_icmp_eq (tgt := 133) C dX12_readTheThrower_126 (by decide) (fun c_17_ => ?_) (fun c_17_ => ?_)
            · skip
              refine j_iconst (v := 0) C dX12_readTheThrower_133 (by decide) ?_
              refine j_zret C rfl ⟨rfl, _, rfl, ?_⟩ dX12_readTheThrower_134
              refine ⟨?_, Or.inr (Or.inl ⟨rfl, yk, dz, ?_⟩)⟩
              · rw [eV14, ev3]; exact (((frD.up (by omega)).tr (frD.up (by omega))).tr (frD.up (by omega))).tr (frD.up (by omega))
              · rw [eV14, up2_i _ _ (by decide), ev3, up2_k _ _ (by decide), up2_s]
            · skip
              exact absurd ev4 c_17_
        · skip
          exact absurd (by rw [ev1, up2_s, ek] at c_14_; exact c_14_) (by decide)
    · skip
      refine j_iconst (v := 0) C dX12_readTheThrower_40 (by decide) ?_
      refine j_goto (tgt := 66) C dX12_readTheThrower_41 (by decide) ?_
      refine j_iastE (k := 12) (n := 10) (t := 2 * t) C (ml (by decide)) (rfl) (rfl) (nM (show (2 : Int32) = nI 2 from rfl) (ht)) (by omega) (by decide) dX12_readTheThrower_66 (fun V15 eV15 => ?_)
      have ek : kbI (V 3 q) = 0 := by unfold kbI; rw [if_pos c_6_]
      have yk : kbP V q en := ⟨by omega, by rw [ek]; decide, by rw [ek]; decide⟩
      have ev1 : V15 = up2 V 12 (2 * t) (kbI (V 3 q)) := by rw [ek]; exact eV15
      have hb15 : V15 0 15 = nI q := by rw [ev1, up2_k _ _ (by decide)]; exact hq
      refine j_aload_n C dX12_readTheThrower_67 rfl (lv_at hl 2 rfl) ?_
      refine j_getR (k := 0) (k2 := 12) C (f_RX12_43_12) (ml (by decide)) (rfl) (rfl) dX12_readTheThrower_68 ?_
      refine j_iload_n C dX12_readTheThrower_71 rfl (lv_at hl 0 rfl) ?_
      refine j_ialdE (k := 12) (n := 10) (t := 2 * t) C (ml (by decide)) (rfl) (rfl) (nM (show (2 : Int32) = nI 2 from rfl) (ht)) (by omega) (by decide) dX12_readTheThrower_72 ?_
      refine j_bipush (v := (-9)) C dX12_readTheThrower_73 (by decide) ?_
      refine j_icmp_ne (tgt := 80) C dX12_readTheThrower_75 (by decide) (fun c_18_ => ?_) (fun c_18_ => ?_)
      · skip
        refine j_aload_n C dX12_readTheThrower_80 rfl (lv_at hl 2 rfl) ?_
        refine j_dup C dX12_readTheThrower_81 rfl ?_
        refine j_getI (k := 0) C (f_RX12_95_12) (ml (by decide)) (rfl) dX12_readTheThrower_82 ?_
        refine j_iconst (v := 1) C dX12_readTheThrower_85 (by decide) ?_
        refine j_iadd C dX12_readTheThrower_86 ?_
        refine j_putI (k := 0) C (f_RX12_95_12) p_12_15 (ml (by decide)) (rfl) dX12_readTheThrower_87 (fun V16 eV16 => ?_)
        have ev2 : V16 = up2 (up2 V 12 (2 * t) (kbI (V 3 q))) 0 15 (nI (q + 1)) := by rw [eV16, hb15, nI_1, ev1]
        have ha15 : V16 0 15 = nI (q + 1) := by rw [ev2, up2_s]
        have hr3 : V16 3 = V 3 := by rw [ev2, up2_k _ _ (by decide), up2_k _ _ (by decide)]
        refine j_aload_n C dX12_readTheThrower_90 rfl (lv_at hl 2 rfl) ?_
        refine j_getR (k := 0) (k2 := 12) C (f_RX12_43_12) (ml (by decide)) (rfl) (rfl) dX12_readTheThrower_91 ?_
        refine j_iload_n C dX12_readTheThrower_94 rfl (lv_at hl 0 rfl) ?_
        refine j_iconst (v := 1) C dX12_readTheThrower_95 (by decide) ?_
        refine j_iadd C dX12_readTheThrower_96 ?_
        refine j_aload_n C dX12_readTheThrower_97 rfl (lv_at hl 2 rfl) ?_
        refine j_iload_n C dX12_readTheThrower_98 rfl (lv_at hl 3 rfl) ?_
        refine j_iconst (v := 1) C dX12_readTheThrower_99 (by decide) ?_
        refine j_bipush (v := 9) C dX12_readTheThrower_100 (by decide) ?_
        refine j_callV (k := 0) C [.int (nI en), .int (1), .int (9)] [.int ((2 * (V 0 18)) + 1), .ref (ad (12))] (k_X12_digit l ad V16 (nI en) (1) (9) en (rfl) (by omega) 1 (show (1 : Int32) = nI 1 from rfl) (by omega) 9 (show (9 : Int32) = nI 9 from rfl) (by omega) (q + 1) ha15 (by have := yk.1; omega)) v_RX12_141 (ml (by decide)) (rfl) rfl ⟨rfl, rfl, Nat.le_of_ble_eq_true rfl, Nat.le_of_ble_eq_true rfl⟩ rfl hl.1 rfl (Nat.le_of_ble_eq_true rfl) ⟨Nat.le_of_ble_eq_true rfl, Nat.le_of_ble_eq_true rfl⟩ dX12_readTheThrower_102 (kI fun x_19_ U19 h_19_ => ?_)
        obtain ⟨eU19, h_19_⟩ := h_19_
        by_cases dq19 : dgP V16 (q + 1) en 1 9
        · replace h_19_ := h_19_.trans (if_pos dq19)
          replace eU19 := eU19.trans (if_pos dq19)
          refine j_iastE (k := 12) (n := 10) (t := 2 * t + 1) C (ml (by decide)) (rfl) (rfl) (nA (nM (show (2 : Int32) = nI 2 from rfl) (ht)) (show (1 : Int32) = nI 1 from rfl)) (by omega) (by decide) dX12_readTheThrower_105 (fun V17 eV17 => ?_)
          have dz : dgP V (q + 1) en 1 9 := by unfold dgP; rw [← hr3]; exact dq19
          have ev3 : V17 = up2 (up2 (up2 (up2 V 12 (2 * t) (kbI (V 3 q))) 0 15 (nI (q + 1))) 0 15 (nI (q + 2))) 12 (2 * t + 1) (dgI (V 3 (q + 1))) := by rw [eV17, eU19, h_19_, hr3, ev2]
          have hg2 : V17 0 18 = nI t := by rw [ev3, up2_k _ _ (by decide), up2_i _ _ (by decide), up2_i _ _ (by decide), up2_k _ _ (by decide)]; exact ht
          refine j_aload_n C dX12_readTheThrower_106 rfl (lv_at hl 2 rfl) ?_
          refine j_dup C dX12_readTheThrower_107 rfl ?_
          refine j_getI (k := 0) C (f_RX12_132_12) (ml (by decide)) (rfl) dX12_readTheThrower_108 ?_
          refine j_iconst (v := 1) C dX12_readTheThrower_111 (by decide) ?_
          refine j_iadd C dX12_readTheThrower_112 ?_
          refine j_putI (k := 0) C (f_RX12_132_12) p_12_18 (ml (by decide)) (rfl) dX12_readTheThrower_113 (fun V18 eV18 => ?_)
          have ev4 : V18 12 (2 * t + 1) = dgI (V 3 (q + 1)) := by rw [eV18, up2_k _ _ (by decide), ev3, up2_s]
          refine j_aload_n C dX12_readTheThrower_116 rfl (lv_at hl 2 rfl) ?_
          refine j_getR (k := 0) (k2 := 12) C (f_RX12_43_12) (ml (by decide)) (rfl) (rfl) dX12_readTheThrower_117 ?_
          refine j_iload_n C dX12_readTheThrower_120 rfl (lv_at hl 0 rfl) ?_
          refine j_iconst (v := 1) C dX12_readTheThrower_121 (by decide) ?_
          refine j_iadd C dX12_readTheThrower_122 ?_
          refine j_ialdE (k := 12) (n := 10) (t := 2 * t + 1) C (ml (by decide)) (rfl) (rfl) (nA (nM (show (2 : Int32) = nI 2 from rfl) (ht)) (show (1 : Int32) = nI 1 from rfl)) (by omega) (by decide) dX12_readTheThrower_123 ?_
          refine j_bipush (v := (-9)) C dX12_readTheThrower_124 (by decide) ?_
          refine j_icmp_eq (tgt := 133) C dX12_readTheThrower_126 (by decide) (fun c_20_ => ?_) (fun c_20_ => ?_)
          · skip
            exact absurd (ev4.symm.trans c_20_) (dg_9 (lo := 1) (by omega) dz.2.1)
          · skip
            refine j_iconst (v := 1) C dX12_readTheThrower_129 (by decide) ?_
            refine j_goto (tgt := 134) C dX12_readTheThrower_130 (by decide) ?_
            refine j_zret C rfl ⟨rfl, _, rfl, ?_⟩ dX12_readTheThrower_134
            refine ⟨?_, Or.inr (Or.inr ⟨rfl, yk, dz, ?_⟩)⟩
            · rw [eV18, ev3]; exact ((((frD.up (by omega)).tr (frD.up (by omega))).tr (frD.up (by omega))).tr (frD.up (by omega))).tr (frD.up (by omega))
            · unfold rtV
              rw [eV18, hg2, nI_1, ev3]
        · replace h_19_ := h_19_.trans (if_neg dq19)
          replace eU19 := eU19.trans (if_neg dq19)
          refine j_iastE (k := 12) (n := 10) (t := 2 * t + 1) C (ml (by decide)) (rfl) (rfl) (nA (nM (show (2 : Int32) = nI 2 from rfl) (ht)) (show (1 : Int32) = nI 1 from rfl)) (by omega) (by decide) dX12_readTheThrower_105 (fun V19 eV19 => ?_)
          have dz : ¬ dgP V (q + 1) en 1 9 := by unfold dgP; rw [← hr3]; exact dq19
          have ev3 : V19 = up2 (up2 (up2 V 12 (2 * t) (kbI (V 3 q))) 0 15 (nI (q + 1))) 12 (2 * t + 1) (-9) := by rw [eV19, eU19, h_19_, ev2]
          have hg2 : V19 0 18 = nI t := by rw [ev3, up2_k _ _ (by decide), up2_i _ _ (by decide), up2_k _ _ (by decide)]; exact ht
          refine j_aload_n C dX12_readTheThrower_106 rfl (lv_at hl 2 rfl) ?_
          refine j_dup C dX12_readTheThrower_107 rfl ?_
          refine j_getI (k := 0) C (f_RX12_132_12) (ml (by decide)) (rfl) dX12_readTheThrower_108 ?_
          refine j_iconst (v := 1) C dX12_readTheThrower_111 (by decide) ?_
          refine j_iadd C dX12_readTheThrower_112 ?_
          refine j_putI (k := 0) C (f_RX12_132_12) p_12_18 (ml (by decide)) (rfl) dX12_readTheThrower_113 (fun V20 eV20 => ?_)
          have ev4 : V20 12 (2 * t + 1) = -9 := by rw [eV20, up2_k _ _ (by decide), ev3, up2_s]
          refine j_aload_n C dX12_readTheThrower_116 rfl (lv_at hl 2 rfl) ?_
          refine j_getR (k := 0) (k2 := 12) C (f_RX12_43_12) (ml (by decide)) (rfl) (rfl) dX12_readTheThrower_117 ?_
          refine j_iload_n C dX12_readTheThrower_120 rfl (lv_at hl 0 rfl) ?_
          refine j_iconst (v := 1) C dX12_readTheThrower_121 (by decide) ?_
          refine j_iadd C dX12_readTheThrower_122 ?_
          refine j_ialdE (k := 12) (n := 10) (t := 2 * t + 1) C (ml (by decide)) (rfl) (rfl) (nA (nM (show (2 : Int32) = nI 2 from rfl) (ht)) (show (1 : Int32) = nI 1 from rfl)) (by omega) (by decide) dX12_readTheThrower_123 ?_
          refine j_bipush (v := (-9)) C dX12_readTheThrower_124 (by decide) ?_
          refine j_icmp_eq (tgt := 133) C dX12_readTheThrower_126 (by decide) (fun c_21_ => ?_) (fun c_21_ => ?_)
          · skip
            refine j_iconst (v := 0) C dX12_readTheThrower_133 (by decide) ?_
            refine j_zret C rfl ⟨rfl, _, rfl, ?_⟩ dX12_readTheThrower_134
            refine ⟨?_, Or.inr (Or.inl ⟨rfl, yk, dz, ?_⟩)⟩
            · rw [eV20, ev3]; exact (((frD.up (by omega)).tr (frD.up (by omega))).tr (frD.up (by omega))).tr (frD.up (by omega))
            · rw [eV20, up2_i _ _ (by decide), ev3, up2_k _ _ (by decide), up2_s]
          · skip
            exact absurd ev4 c_21_
      · skip
        exact absurd (by rw [ev1, up2_s, ek] at c_18_; exact c_18_) (by decide)
