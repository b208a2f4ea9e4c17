theorem inz {z : Int32} {j n : Nat} (ej : z = nI j) (hj : j < n) (hn : n < 2 ^ 31) : (¬ z < 0 ∧ z < nI n) ∧ z.toNatClampNeg = j := by
  rw [ej]
  exact ⟨⟨nI_pos (by omega), nI_lt hj hn⟩, nI_clamp (by omega)⟩
/-- what always holds of the system: ng girls, rr rings with each, c_0_ readings -/
def XI (tk : Nat → Nat) (nt : Nat) (V : Vt) (ng : Nat) (rr : Nat → Nat) (c_0_ : Nat) : Prop :=
  ClI V 0 ng rr ∧ V 55 8 = nI nt ∧ nt ≤ 5 ∧ (∀ t, t < nt → isT (tk t) ∧ V (56 + t) 0 = nI t) ∧ V 29 0 = nI c_0_ ∧ c_0_ ≤ 8 ∧
  (∀ r, r < c_0_ → (∃ t, t < nt ∧ V 30 r = nI t) ∧ ∃ g, g < ng ∧ V 31 r = nI g) ∧ ∀ k, k < 4 → ∃ n, n ≤ 60 ∧ V (34 + 2 * k) 1 = nI n
theorem XI_T {tk : Nat → Nat} {nt : Nat} {V : Vt} {ng : Nat} {rr : Nat → Nat} {c_0_ : Nat} (hX : XI tk nt V ng rr c_0_) {t : Nat} (h : t < nt) : isT (tk t) := (hX.2.2.2.1 t h).1
abbrev rm_X11_comeTo : Room := { frames := 0, cells := 0, slots := 0, locals := 0 }
set_option maxHeartbeats 4000000 in
set_option maxRecDepth 100000 in
theorem k_X11_comeTo (l : Launch) (ad tk : Nat → Nat) (nt : Nat) (V : Vt) (z : Int32) : Ct l yX11_comeTo cX11_comeTo 2 (some .int) rm_X11_comeTo (xS ad tk nt) V [.ref (ad (55)), .int (z)] (rI fun x V2 => V2 = up2 V 55 9 z ∧ x = -10 - z) := by
  refine Ct_of (by decide) (Nat.le_of_ble_eq_true rfl) ?_
  intro p e s m below meth c A D cy ls C hl
  have hl : lv_has ls 2 [(0, .ref (ad (55))), (1, .int (z))] := hl
  refine j_aload_n C dX11_comeTo_0 rfl (lv_at hl 0 rfl) ?_
  refine j_iload_n C dX11_comeTo_1 rfl (lv_at hl 1 rfl) ?_
  refine j_putI (k := 55) C (f_RX11_66_11) p_11_9 (xl (by decide)) (rfl) dX11_comeTo_2 (fun V1 eV1 => ?_)
  refine j_bipush (v := (-10)) C dX11_comeTo_5 (by decide) ?_
  refine j_iload_n C dX11_comeTo_7 rfl (lv_at hl 1 rfl) ?_
  refine j_isub C dX11_comeTo_8 ?_
  refine j_iret C ⟨rfl, _, rfl, ?_⟩ dX11_comeTo_9
  exact ⟨eV1, rfl⟩
abbrev rm_X11_trace : Room := { frames := 0, cells := 0, slots := 0, locals := 0 }
set_option maxHeartbeats 4000000 in
set_option maxRecDepth 100000 in
theorem k_X11_trace (l : Launch) (ad tk : Nat → Nat) (nt : Nat) (V : Vt)  : Ct l yX11_trace cX11_trace 1 (some .int) rm_X11_trace (xS ad tk nt) V [.ref (ad (55))] (rI fun x V2 => V2 = V ∧ x = V 42 0) := by
  refine Ct_of (by decide) (Nat.le_of_ble_eq_true rfl) ?_
  intro p e s m below meth c A D cy ls C hl
  have hl : lv_has ls 1 [(0, .ref (ad (55)))] := hl
  refine j_aload_n C dX11_trace_0 rfl (lv_at hl 0 rfl) ?_
  refine j_getR (k := 55) (k2 := 42) C (f_RX11_40_11) (xl (by decide)) (rfl) (rfl) dX11_trace_1 ?_
  refine j_getI (k := 42) C (f_RX11_263_10) (xl (by decide)) (rfl) dX11_trace_4 ?_
  refine j_iret C ⟨rfl, _, rfl, ?_⟩ dX11_trace_7
  exact ⟨rfl, rfl⟩
abbrev rm_X11_fault : Room := { frames := 0, cells := 0, slots := 0, locals := 0 }
set_option maxHeartbeats 4000000 in
set_option maxRecDepth 100000 in
theorem k_X11_fault (l : Launch) (ad tk : Nat → Nat) (nt : Nat) (V : Vt)  : Ct l yX11_fault cX11_fault 1 (some .int) rm_X11_fault (xS ad tk nt) V [.ref (ad (55))] (rI fun x V2 => V2 = V ∧ x = V 55 9) := by
  refine Ct_of (by decide) (Nat.le_of_ble_eq_true rfl) ?_
  intro p e s m below meth c A D cy ls C hl
  have hl : lv_has ls 1 [(0, .ref (ad (55)))] := hl
  refine j_aload_n C dX11_fault_0 rfl (lv_at hl 0 rfl) ?_
  refine j_getI (k := 55) C (f_RX11_66_11) (xl (by decide)) (rfl) dX11_fault_1 ?_
  refine j_iret C ⟨rfl, _, rfl, ?_⟩ dX11_fault_4
  exact ⟨rfl, rfl⟩
abbrev rm_X11_freeze : Room := { frames := 1, cells := 0, slots := 0, locals := 22 }
set_option maxHeartbeats 4000000 in
set_option maxRecDepth 100000 in
theorem k_X11_freeze (l : Launch) (ad tk : Nat → Nat) (nt : Nat) (V : Vt) (ng : Nat) (rr : Nat → Nat) (c_0_ : Nat) (hX : XI tk nt V ng rr c_0_) (z : Int32) : Ct l yX11_freeze cX11_freeze 3 (some .int) rm_X11_freeze (xS ad tk nt) V [.ref (ad (55)), .int (z)] (rI fun x V2 => (V2 = if (0 ≤ z ∧ z ≤ 3) ∧ ¬ nt = 0 then up2 V 0 0 z else V) ∧ x = if 0 ≤ z ∧ z ≤ 3 then (if nt = 0 then -3 else V 0 0) else -2) := by
  refine Ct_of (by decide) (Nat.le_of_ble_eq_true rfl) ?_
  intro p e s m below meth c A D cy ls C hl
  have hl : lv_has ls 3 [(0, .ref (ad (55))), (1, .int (z))] := hl
  have ng4 := hX.1.2.1
  have nt5 := hX.2.2.1
  refine j_iload_n C dX11_freeze_0 rfl (lv_at hl 1 rfl) ?_
  refine j_iconst (v := 0) C dX11_freeze_1 (by decide) ?_
  refine j_iconst (v := 3) C dX11_freeze_2 (by decide) ?_
  refine j_callS C [.int (z), .int (0), .int (3)] [] (k_X11_isWithin l (xS ad tk nt) V (z) (0) (3)) v_RX11_143 ⟨rfl, rfl, Nat.le_of_ble_eq_true rfl, Nat.le_of_ble_eq_true rfl⟩ rfl hl.1 rfl (Nat.le_of_ble_eq_true rfl) ⟨Nat.le_of_ble_eq_true rfl, Nat.le_of_ble_eq_true rfl⟩ dX11_freeze_3 (kI fun x_1_ U1 h_1_ => ?_)
  obtain ⟨eU1, h_1_⟩ := h_1_
  have eU1 := eU1.symm
  subst eU1
  refine j_if_ne (tgt := 12) C dX11_freeze_6 (by decide) (fun c_2_ => ?_) (fun c_2_ => ?_)
  · skip
    refine j_aload_n C dX11_freeze_12 rfl (lv_at hl 0 rfl) ?_
    refine j_getI (k := 55) C (f_RX11_96_11) (xl (by decide)) (rfl) dX11_freeze_13 ?_
    refine j_if_ne (tgt := 22) C dX11_freeze_16 (by decide) (fun c_3_ => ?_) (fun c_3_ => ?_)
    · skip
      refine j_aload_n C dX11_freeze_22 rfl (lv_at hl 0 rfl) ?_
      refine j_getR (k := 55) (k2 := 0) C (f_RX11_12_11) (xl (by decide)) (rfl) (rfl) dX11_freeze_23 ?_
      refine j_getI (k := 0) C (f_RX11_147_0) (xl (xC (tk := tk) (nt := nt) (k := 0) (Or.inl rfl)).1.1) ((xC (tk := tk) (nt := nt) (k := 0) (Or.inl rfl)).2.1) dX11_freeze_26 ?_
      refine j_istore_n (lv2 := [(2, .int (V 0 0)), (0, .ref (ad (55))), (1, .int (z))]) C dX11_freeze_29 rfl hl (by decide) rfl (fun ls hl => ?_)
      refine j_aload_n C dX11_freeze_30 rfl (lv_at hl 1 rfl) ?_
      refine j_getR (k := 55) (k2 := 0) C (f_RX11_12_11) (xl (by decide)) (rfl) (rfl) dX11_freeze_31 ?_
      refine j_iload_n C dX11_freeze_34 rfl (lv_at hl 2 rfl) ?_
      refine j_putI (k := 0) C (f_RX11_147_0) p_0_0 (xl (xC (tk := tk) (nt := nt) (k := 0) (Or.inl rfl)).1.1) ((xC (tk := tk) (nt := nt) (k := 0) (Or.inl rfl)).2.1) dX11_freeze_35 (fun V1 eV1 => ?_)
      refine j_iload_n C dX11_freeze_38 rfl (lv_at hl 0 rfl) ?_
      refine j_iret C ⟨rfl, _, rfl, ?_⟩ dX11_freeze_39
      have b9 := Decidable.not_not.mp (mt bI_0.mpr (h_1_ ▸ c_2_))
      have n_0_ : ¬ nt = 0 := fun q => c_3_ (by rw [hX.2.1, q]; rfl)
      rw [if_pos ⟨b9, n_0_⟩, if_pos b9, if_neg n_0_]
      exact ⟨eV1, rfl⟩
    · skip
      refine j_bipush (v := (-3)) C dX11_freeze_19 (by decide) ?_
      refine j_iret C ⟨rfl, _, rfl, ?_⟩ dX11_freeze_21
      have b9 := Decidable.not_not.mp (mt bI_0.mpr (h_1_ ▸ c_2_))
      have n_0_ : nt = 0 := nI_inj (by omega) (show 0 < 2 ^ 31 by decide) (hX.2.1.symm.trans c_3_)
      rw [if_neg (fun q => q.2 n_0_), if_pos b9, if_pos n_0_]
      exact ⟨rfl, rfl⟩
  · skip
    refine j_bipush (v := (-2)) C dX11_freeze_9 (by decide) ?_
    refine j_iret C ⟨rfl, _, rfl, ?_⟩ dX11_freeze_11
    have b9 := bI_0.mp (h_1_ ▸ c_2_)
    rw [if_neg (fun q => b9 q.1), if_neg b9]
    exact ⟨rfl, rfl⟩
abbrev rm_X11_lean : Room := { frames := 1, cells := 0, slots := 0, locals := 22 }
set_option maxHeartbeats 4000000 in
set_option maxRecDepth 100000 in
theorem k_X11_lean (l : Launch) (ad tk : Nat → Nat) (nt : Nat) (V : Vt) (ng : Nat) (rr : Nat → Nat) (c_0_ : Nat) (hX : XI tk nt V ng rr c_0_) (z0 z1 : Int32) : Ct l yX11_lean cX11_lean 5 (some .int) rm_X11_lean (xS ad tk nt) V [.ref (ad (55)), .int (z0), .int (z1)] (rI fun x V2 => (V2 = if ¬ z0 < 0 ∧ z0 < nI ng then (if 0 ≤ z1 ∧ z1 ≤ 9 then up2 V (0 + 2 + 3 * z0.toNatClampNeg) 1 z1 else V) else V) ∧ x = if ¬ z0 < 0 ∧ z0 < nI ng then (if 0 ≤ z1 ∧ z1 ≤ 9 then V (0 + 2 + 3 * z0.toNatClampNeg) 1 else -2) else -1) := by
  refine Ct_of (by decide) (Nat.le_of_ble_eq_true rfl) ?_
  intro p e s m below meth c A D cy ls C hl
  have hl : lv_has ls 5 [(0, .ref (ad (55))), (1, .int (z0)), (2, .int (z1))] := hl
  have ng4 := hX.1.2.1
  have nt5 := hX.2.2.1
  refine j_aload_n C dX11_lean_0 rfl (lv_at hl 0 rfl) ?_
  refine j_getR (k := 55) (k2 := 0) C (f_RX11_12_11) (xl (by decide)) (rfl) (rfl) dX11_lean_1 ?_
  refine j_iload_n C dX11_lean_4 rfl (lv_at hl 1 rfl) ?_
  refine j_callV (k := 0) C [.int (z0)] [] (k_X0_girlAt l ad tk nt V 0 (Or.inl rfl) ng hX.1.1 hX.1.2.1 (z0)) v_RX11_99 (xl (xC (tk := tk) (nt := nt) (k := 0) (Or.inl rfl)).1.1) ((xC (tk := tk) (nt := nt) (k := 0) (Or.inl rfl)).2.1) rfl ⟨rfl, rfl, Nat.le_of_ble_eq_true rfl, Nat.le_of_ble_eq_true rfl⟩ rfl hl.1 rfl (Nat.le_of_ble_eq_true rfl) ⟨Nat.le_of_ble_eq_true rfl, Nat.le_of_ble_eq_true rfl⟩ dX11_lean_5 (kA fun x_1_ U1 h_1_ => ?_)
  obtain ⟨eU1, h_1_⟩ := h_1_
  have eU1 := eU1.symm
  subst eU1
  rcases h_1_ with ⟨j_1_, hj1, ej1, ev1⟩ | ⟨ho1, ev1⟩
  · subst ev1
    refine j_astore_n (lv2 := [(3, .ref (ad (0 + 2 + 3 * j_1_))), (0, .ref (ad (55))), (1, .int (z0)), (2, .int (z1))]) C dX11_lean_8 rfl hl (by decide) rfl (fun ls hl => ?_)
    refine j_aload_n C dX11_lean_9 rfl (lv_at hl 0 rfl) ?_
    refine j_ifnonnull (tgt := 15) C dX11_lean_10 (by decide) ?_
    refine j_iload_n C dX11_lean_15 rfl (lv_at hl 3 rfl) ?_
    refine j_iconst (v := 0) C dX11_lean_16 (by decide) ?_
    refine j_bipush (v := 9) C dX11_lean_17 (by decide) ?_
    refine j_callS C [.int (z1), .int (0), .int (9)] [] (k_X11_isWithin l (xS ad tk nt) V (z1) (0) (9)) v_RX11_143 ⟨rfl, rfl, Nat.le_of_ble_eq_true rfl, Nat.le_of_ble_eq_true rfl⟩ rfl hl.1 rfl (Nat.le_of_ble_eq_true rfl) ⟨Nat.le_of_ble_eq_true rfl, Nat.le_of_ble_eq_true rfl⟩ dX11_lean_19 (kI fun x_2_ U2 h_2_ => ?_)
    obtain ⟨eU2, h_2_⟩ := h_2_
    have eU2 := eU2.symm
    subst eU2
    refine j_if_ne (tgt := 28) C dX11_lean_22 (by decide) (fun c_3_ => ?_) (fun c_3_ => ?_)
    · skip
      have b3 := Decidable.not_not.mp (mt bI_0.mpr (h_2_ ▸ c_3_))
      refine j_aload_n C dX11_lean_28 rfl (lv_at hl 0 rfl) ?_
      refine j_getI (k := 0 + 2 + 3 * j_1_) C (f_RX11_108_2) (xl (xG (tk := tk) (nt := nt) (xCg (nt := nt) (Or.inl rfl) (by omega : j_1_ < 4)).1).1.1) ((xG (tk := tk) (nt := nt) (xCg (nt := nt) (Or.inl rfl) (by omega : j_1_ < 4)).1).2.1) dX11_lean_29 ?_
      refine j_istore (lv2 := [(4, .int (V (0 + 2 + 3 * j_1_) 1)), (3, .ref (ad (0 + 2 + 3 * j_1_))), (0, .ref (ad (55))), (1, .int (z0)), (2, .int (z1))]) C dX11_lean_32 hl (by decide) rfl (fun ls hl => ?_)
      refine j_aload_n C dX11_lean_34 rfl (lv_at hl 1 rfl) ?_
      refine j_iload_n C dX11_lean_35 rfl (lv_at hl 4 rfl) ?_
      refine j_putI (k := 0 + 2 + 3 * j_1_) C (f_RX11_108_2) p_2_1 (xl (xG (tk := tk) (nt := nt) (xCg (nt := nt) (Or.inl rfl) (by omega : j_1_ < 4)).1).1.1) ((xG (tk := tk) (nt := nt) (xCg (nt := nt) (Or.inl rfl) (by omega : j_1_ < 4)).1).2.1) dX11_lean_36 (fun V1 eV1 => ?_)
      refine j_iload C dX11_lean_39 (lv_at hl 0 rfl) ?_
      refine j_iret C ⟨rfl, _, rfl, ?_⟩ dX11_lean_41
      obtain ⟨hin1, hcl1⟩ := inz ej1 hj1 (by omega)
      refine ⟨?_, ?_⟩
      · first | (simp only [if_pos hin1, if_pos b3, hcl1]; done) | (simp only [if_pos hin1, if_pos b3, hcl1]; rfl) | rfl | (simp only [if_pos hin1, if_pos b3, hcl1]; exact eV1) | (simp only [if_pos hin1, if_pos b3, hcl1]; rw [eV1])
      · first | (simp only [if_pos hin1, if_pos b3, hcl1]; done) | (simp only [if_pos hin1, if_pos b3, hcl1]; rfl) | rfl | (simp only [if_pos hin1, if_pos b3, hcl1]; exact h_2_) | (simp only [if_pos hin1, if_pos b3, hcl1]; rw [h_2_])
    · skip
      have b3 := bI_0.mp (h_2_ ▸ c_3_)
      refine j_bipush (v := (-2)) C dX11_lean_25 (by decide) ?_
      refine j_iret C ⟨rfl, _, rfl, ?_⟩ dX11_lean_27
      obtain ⟨hin1, hcl1⟩ := inz ej1 hj1 (by omega)
      refine ⟨?_, ?_⟩
      · first | (simp only [if_pos hin1, if_neg b3, hcl1]; done) | (simp only [if_pos hin1, if_neg b3, hcl1]; rfl) | rfl
      · first | (simp only [if_pos hin1, if_neg b3, hcl1]; done) | (simp only [if_pos hin1, if_neg b3, hcl1]; rfl) | rfl | (simp only [if_pos hin1, if_neg b3, hcl1]; exact h_2_) | (simp only [if_pos hin1, if_neg b3, hcl1]; rw [h_2_])
  · subst ev1
    refine j_astore_nN (lv2 := [(3, .null), (0, .ref (ad (55))), (1, .int (z0)), (2, .int (z1))]) C dX11_lean_8 rfl hl (by decide) rfl (fun ls hl => ?_)
    refine j_aload_nN C dX11_lean_9 rfl (lv_at hl 0 rfl) ?_
    refine j_ifnonnullN C dX11_lean_10 ?_
    refine j_iconst (v := (-1)) C dX11_lean_13 (by decide) ?_
    refine j_iret C ⟨rfl, _, rfl, ?_⟩ dX11_lean_14
    have hot1 := outR ho1
    refine ⟨?_, ?_⟩
    · first | (simp only [if_neg hot1]; done) | (simp only [if_neg hot1]; rfl) | rfl
    · first | (simp only [if_neg hot1]; done) | (simp only [if_neg hot1]; rfl) | rfl
abbrev rm_X11_place : Room := { frames := 1, cells := 0, slots := 0, locals := 22 }
set_option maxHeartbeats 4000000 in
set_option maxRecDepth 100000 in
theorem k_X11_place (l : Launch) (ad tk : Nat → Nat) (nt : Nat) (V : Vt) (ng : Nat) (rr : Nat → Nat) (c_0_ : Nat) (hX : XI tk nt V ng rr c_0_) (z0 z1 : Int32) : Ct l yX11_place cX11_place 5 (some .int) rm_X11_place (xS ad tk nt) V [.ref (ad (55)), .int (z0), .int (z1)] (rI fun x V2 => (V2 = if ¬ z0 < 0 ∧ z0 < nI ng then (if 1 ≤ z1 ∧ z1 ≤ 9 then up2 V (0 + 2 + 3 * z0.toNatClampNeg) 0 z1 else V) else V) ∧ x = if ¬ z0 < 0 ∧ z0 < nI ng then (if 1 ≤ z1 ∧ z1 ≤ 9 then V (0 + 2 + 3 * z0.toNatClampNeg) 0 else -2) else -1) := by
  refine Ct_of (by decide) (Nat.le_of_ble_eq_true rfl) ?_
  intro p e s m below meth c A D cy ls C hl
  have hl : lv_has ls 5 [(0, .ref (ad (55))), (1, .int (z0)), (2, .int (z1))] := hl
  have ng4 := hX.1.2.1
  have nt5 := hX.2.2.1
  refine j_aload_n C dX11_place_0 rfl (lv_at hl 0 rfl) ?_
  refine j_getR (k := 55) (k2 := 0) C (f_RX11_12_11) (xl (by decide)) (rfl) (rfl) dX11_place_1 ?_
  refine j_iload_n C dX11_place_4 rfl (lv_at hl 1 rfl) ?_
  refine j_callV (k := 0) C [.int (z0)] [] (k_X0_girlAt l ad tk nt V 0 (Or.inl rfl) ng hX.1.1 hX.1.2.1 (z0)) v_RX11_99 (xl (xC (tk := tk) (nt := nt) (k := 0) (Or.inl rfl)).1.1) ((xC (tk := tk) (nt := nt) (k := 0) (Or.inl rfl)).2.1) rfl ⟨rfl, rfl, Nat.le_of_ble_eq_true rfl, Nat.le_of_ble_eq_true rfl⟩ rfl hl.1 rfl (Nat.le_of_ble_eq_true rfl) ⟨Nat.le_of_ble_eq_true rfl, Nat.le_of_ble_eq_true rfl⟩ dX11_place_5 (kA fun x_1_ U1 h_1_ => ?_)
  obtain ⟨eU1, h_1_⟩ := h_1_
  have eU1 := eU1.symm
  subst eU1
  rcases h_1_ with ⟨j_1_, hj1, ej1, ev1⟩ | ⟨ho1, ev1⟩
  · subst ev1
    refine j_astore_n (lv2 := [(3, .ref (ad (0 + 2 + 3 * j_1_))), (0, .ref (ad (55))), (1, .int (z0)), (2, .int (z1))]) C dX11_place_8 rfl hl (by decide) rfl (fun ls hl => ?_)
    refine j_aload_n C dX11_place_9 rfl (lv_at hl 0 rfl) ?_
    refine j_ifnonnull (tgt := 15) C dX11_place_10 (by decide) ?_
    refine j_iload_n C dX11_place_15 rfl (lv_at hl 3 rfl) ?_
    refine j_iconst (v := 1) C dX11_place_16 (by decide) ?_
    refine j_bipush (v := 9) C dX11_place_17 (by decide) ?_
    refine j_callS C [.int (z1), .int (1), .int (9)] [] (k_X11_isWithin l (xS ad tk nt) V (z1) (1) (9)) v_RX11_143 ⟨rfl, rfl, Nat.le_of_ble_eq_true rfl, Nat.le_of_ble_eq_true rfl⟩ rfl hl.1 rfl (Nat.le_of_ble_eq_true rfl) ⟨Nat.le_of_ble_eq_true rfl, Nat.le_of_ble_eq_true rfl⟩ dX11_place_19 (kI fun x_2_ U2 h_2_ => ?_)
    obtain ⟨eU2, h_2_⟩ := h_2_
    have eU2 := eU2.symm
    subst eU2
    refine j_if_ne (tgt := 28) C dX11_place_22 (by decide) (fun c_3_ => ?_) (fun c_3_ => ?_)
    · skip
      have b3 := Decidable.not_not.mp (mt bI_0.mpr (h_2_ ▸ c_3_))
      refine j_aload_n C dX11_place_28 rfl (lv_at hl 0 rfl) ?_
      refine j_getI (k := 0 + 2 + 3 * j_1_) C (f_RX11_103_2) (xl (xG (tk := tk) (nt := nt) (xCg (nt := nt) (Or.inl rfl) (by omega : j_1_ < 4)).1).1.1) ((xG (tk := tk) (nt := nt) (xCg (nt := nt) (Or.inl rfl) (by omega : j_1_ < 4)).1).2.1) dX11_place_29 ?_
      refine j_istore (lv2 := [(4, .int (V (0 + 2 + 3 * j_1_) 0)), (3, .ref (ad (0 + 2 + 3 * j_1_))), (0, .ref (ad (55))), (1, .int (z0)), (2, .int (z1))]) C dX11_place_32 hl (by decide) rfl (fun ls hl => ?_)
      refine j_aload_n C dX11_place_34 rfl (lv_at hl 1 rfl) ?_
      refine j_iload_n C dX11_place_35 rfl (lv_at hl 4 rfl) ?_
      refine j_putI (k := 0 + 2 + 3 * j_1_) C (f_RX11_103_2) p_2_0 (xl (xG (tk := tk) (nt := nt) (xCg (nt := nt) (Or.inl rfl) (by omega : j_1_ < 4)).1).1.1) ((xG (tk := tk) (nt := nt) (xCg (nt := nt) (Or.inl rfl) (by omega : j_1_ < 4)).1).2.1) dX11_place_36 (fun V1 eV1 => ?_)
      refine j_iload C dX11_place_39 (lv_at hl 0 rfl) ?_
      refine j_iret C ⟨rfl, _, rfl, ?_⟩ dX11_place_41
      obtain ⟨hin1, hcl1⟩ := inz ej1 hj1 (by omega)
      refine ⟨?_, ?_⟩
      · first | (simp only [if_pos hin1, if_pos b3, hcl1]; done) | (simp only [if_pos hin1, if_pos b3, hcl1]; rfl) | rfl | (simp only [if_pos hin1, if_pos b3, hcl1]; exact eV1) | (simp only [if_pos hin1, if_pos b3, hcl1]; rw [eV1])
      · first | (simp only [if_pos hin1, if_pos b3, hcl1]; done) | (simp only [if_pos hin1, if_pos b3, hcl1]; rfl) | rfl | (simp only [if_pos hin1, if_pos b3, hcl1]; exact h_2_) | (simp only [if_pos hin1, if_pos b3, hcl1]; rw [h_2_])
    · skip
      have b3 := bI_0.mp (h_2_ ▸ c_3_)
      refine j_bipush (v := (-2)) C dX11_place_25 (by decide) ?_
      refine j_iret C ⟨rfl, _, rfl, ?_⟩ dX11_place_27
      obtain ⟨hin1, hcl1⟩ := inz ej1 hj1 (by omega)
      refine ⟨?_, ?_⟩
      · first | (simp only [if_pos hin1, if_neg b3, hcl1]; done) | (simp only [if_pos hin1, if_neg b3, hcl1]; rfl) | rfl
      · first | (simp only [if_pos hin1, if_neg b3, hcl1]; done) | (simp only [if_pos hin1, if_neg b3, hcl1]; rfl) | rfl | (simp only [if_pos hin1, if_neg b3, hcl1]; exact h_2_) | (simp only [if_pos hin1, if_neg b3, hcl1]; rw [h_2_])
  · subst ev1
    refine j_astore_nN (lv2 := [(3, .null), (0, .ref (ad (55))), (1, .int (z0)), (2, .int (z1))]) C dX11_place_8 rfl hl (by decide) rfl (fun ls hl => ?_)
    refine j_aload_nN C dX11_place_9 rfl (lv_at hl 0 rfl) ?_
    refine j_ifnonnullN C dX11_place_10 ?_
    refine j_iconst (v := (-1)) C dX11_place_13 (by decide) ?_
    refine j_iret C ⟨rfl, _, rfl, ?_⟩ dX11_place_14
    have hot1 := outR ho1
    refine ⟨?_, ?_⟩
    · first | (simp only [if_neg hot1]; done) | (simp only [if_neg hot1]; rfl) | rfl
    · first | (simp only [if_neg hot1]; done) | (simp only [if_neg hot1]; rfl) | rfl
abbrev rm_X11_train : Room := { frames := 1, cells := 0, slots := 0, locals := 22 }
set_option maxHeartbeats 4000000 in
set_option maxRecDepth 100000 in
theorem k_X11_train (l : Launch) (ad tk : Nat → Nat) (nt : Nat) (V : Vt) (ng : Nat) (rr : Nat → Nat) (c_0_ : Nat) (hX : XI tk nt V ng rr c_0_) (z0 z1 : Int32) : Ct l yX11_train cX11_train 5 (some .int) rm_X11_train (xS ad tk nt) V [.ref (ad (55)), .int (z0), .int (z1)] (rI fun x V2 => (V2 = if ¬ z0 < 0 ∧ z0 < nI nt then (if 1 ≤ z1 ∧ z1 ≤ 9 then up2 V (56 + z0.toNatClampNeg) 1 z1 else V) else V) ∧ x = if ¬ z0 < 0 ∧ z0 < nI nt then (if 1 ≤ z1 ∧ z1 ≤ 9 then V (56 + z0.toNatClampNeg) 1 else -2) else -1) := by
  refine Ct_of (by decide) (Nat.le_of_ble_eq_true rfl) ?_
  intro p e s m below meth c A D cy ls C hl
  have hl : lv_has ls 5 [(0, .ref (ad (55))), (1, .int (z0)), (2, .int (z1))] := hl
  have ng4 := hX.1.2.1
  have nt5 := hX.2.2.1
  refine j_aload_n C dX11_train_0 rfl (lv_at hl 0 rfl) ?_
  refine j_iload_n C dX11_train_1 rfl (lv_at hl 1 rfl) ?_
  refine j_callV (k := 55) C [.int (z0)] [] (k_X11_throwerOf l ad tk nt V hX.2.1 hX.2.2.1 (z0)) v_RX11_124 (xl (by decide)) (rfl) rfl ⟨rfl, rfl, Nat.le_of_ble_eq_true rfl, Nat.le_of_ble_eq_true rfl⟩ rfl hl.1 rfl (Nat.le_of_ble_eq_true rfl) ⟨Nat.le_of_ble_eq_true rfl, Nat.le_of_ble_eq_true rfl⟩ dX11_train_2 (kA fun x_1_ U1 h_1_ => ?_)
  obtain ⟨eU1, h_1_⟩ := h_1_
  have eU1 := eU1.symm
  subst eU1
  rcases h_1_ with ⟨j_1_, hj1, ej1, ev1⟩ | ⟨ho1, ev1⟩
  · subst ev1
    refine j_astore_n (lv2 := [(3, .ref (ad (56 + j_1_))), (0, .ref (ad (55))), (1, .int (z0)), (2, .int (z1))]) C dX11_train_5 rfl hl (by decide) rfl (fun ls hl => ?_)
    refine j_aload_n C dX11_train_6 rfl (lv_at hl 0 rfl) ?_
    refine j_ifnonnull (tgt := 12) C dX11_train_7 (by decide) ?_
    refine j_iload_n C dX11_train_12 rfl (lv_at hl 3 rfl) ?_
    refine j_iconst (v := 1) C dX11_train_13 (by decide) ?_
    refine j_bipush (v := 9) C dX11_train_14 (by decide) ?_
    refine j_callS C [.int (z1), .int (1), .int (9)] [] (k_X11_isWithin l (xS ad tk nt) V (z1) (1) (9)) v_RX11_143 ⟨rfl, rfl, Nat.le_of_ble_eq_true rfl, Nat.le_of_ble_eq_true rfl⟩ rfl hl.1 rfl (Nat.le_of_ble_eq_true rfl) ⟨Nat.le_of_ble_eq_true rfl, Nat.le_of_ble_eq_true rfl⟩ dX11_train_16 (kI fun x_2_ U2 h_2_ => ?_)
    obtain ⟨eU2, h_2_⟩ := h_2_
    have eU2 := eU2.symm
    subst eU2
    refine j_if_ne (tgt := 25) C dX11_train_19 (by decide) (fun c_3_ => ?_) (fun c_3_ => ?_)
    · skip
      have b3 := Decidable.not_not.mp (mt bI_0.mpr (h_2_ ▸ c_3_))
      refine j_aload_n C dX11_train_25 rfl (lv_at hl 0 rfl) ?_
      refine j_getT (k := 56 + j_1_) C f_RX11_131_6 f_RX11_131_3 f_RX11_131_8 (xt hj1) (xT (XI_T hX hj1)) dX11_train_26 ?_
      refine j_istore (lv2 := [(4, .int (V (56 + j_1_) 1)), (3, .ref (ad (56 + j_1_))), (0, .ref (ad (55))), (1, .int (z0)), (2, .int (z1))]) C dX11_train_29 hl (by decide) rfl (fun ls hl => ?_)
      refine j_aload_n C dX11_train_31 rfl (lv_at hl 1 rfl) ?_
      refine j_iload_n C dX11_train_32 rfl (lv_at hl 4 rfl) ?_
      refine j_putT (k := 56 + j_1_) C f_RX11_131_6 f_RX11_131_3 f_RX11_131_8 p_6_1 p_3_1 p_8_1 (xt hj1) (xT (XI_T hX hj1)) dX11_train_33 (fun V1 eV1 => ?_)
      refine j_iload C dX11_train_36 (lv_at hl 0 rfl) ?_
      refine j_iret C ⟨rfl, _, rfl, ?_⟩ dX11_train_38
      obtain ⟨hin1, hcl1⟩ := inz ej1 hj1 (by omega)
      refine ⟨?_, ?_⟩
      · first | (simp only [if_pos hin1, if_pos b3, hcl1]; done) | (simp only [if_pos hin1, if_pos b3, hcl1]; rfl) | rfl | (simp only [if_pos hin1, if_pos b3, hcl1]; exact eV1) | (simp only [if_pos hin1, if_pos b3, hcl1]; rw [eV1])
      · first | (simp only [if_pos hin1, if_pos b3, hcl1]; done) | (simp only [if_pos hin1, if_pos b3, hcl1]; rfl) | rfl | (simp only [if_pos hin1, if_pos b3, hcl1]; exact h_2_) | (simp only [if_pos hin1, if_pos b3, hcl1]; rw [h_2_])
    · skip
      have b3 := bI_0.mp (h_2_ ▸ c_3_)
      refine j_bipush (v := (-2)) C dX11_train_22 (by decide) ?_
      refine j_iret C ⟨rfl, _, rfl, ?_⟩ dX11_train_24
      obtain ⟨hin1, hcl1⟩ := inz ej1 hj1 (by omega)
      refine ⟨?_, ?_⟩
      · first | (simp only [if_pos hin1, if_neg b3, hcl1]; done) | (simp only [if_pos hin1, if_neg b3, hcl1]; rfl) | rfl
      · first | (simp only [if_pos hin1, if_neg b3, hcl1]; done) | (simp only [if_pos hin1, if_neg b3, hcl1]; rfl) | rfl | (simp only [if_pos hin1, if_neg b3, hcl1]; exact h_2_) | (simp only [if_pos hin1, if_neg b3, hcl1]; rw [h_2_])
  · subst ev1
    refine j_astore_nN (lv2 := [(3, .null), (0, .ref (ad (55))), (1, .int (z0)), (2, .int (z1))]) C dX11_train_5 rfl hl (by decide) rfl (fun ls hl => ?_)
    refine j_aload_nN C dX11_train_6 rfl (lv_at hl 0 rfl) ?_
    refine j_ifnonnullN C dX11_train_7 ?_
    refine j_iconst (v := (-1)) C dX11_train_10 (by decide) ?_
    refine j_iret C ⟨rfl, _, rfl, ?_⟩ dX11_train_11
    have hot1 := outR ho1
    refine ⟨?_, ?_⟩
    · first | (simp only [if_neg hot1]; done) | (simp only [if_neg hot1]; rfl) | rfl
    · first | (simp only [if_neg hot1]; done) | (simp only [if_neg hot1]; rfl) | rfl
abbrev rm_X11_clear : Room := { frames := 1, cells := 0, slots := 0, locals := 21 }
set_option maxHeartbeats 4000000 in
set_option maxRecDepth 100000 in
theorem k_X11_clear (l : Launch) (ad tk : Nat → Nat) (nt : Nat) (V : Vt) (ng : Nat) (rr : Nat → Nat) (c_0_ : Nat) (hX : XI tk nt V ng rr c_0_) (z0 : Int32) : Ct l yX11_clear cX11_clear 4 (some .int) rm_X11_clear (xS ad tk nt) V [.ref (ad (55)), .int (z0)] (rI fun x V2 => (V2 = if ¬ z0 < 0 ∧ z0 < nI ng then up2 V (0 + 2 + 3 * z0.toNatClampNeg) 2 0 else V) ∧ x = if ¬ z0 < 0 ∧ z0 < nI ng then V (0 + 2 + 3 * z0.toNatClampNeg) 2 else -1) := by
  refine Ct_of (by decide) (Nat.le_of_ble_eq_true rfl) ?_
  intro p e s m below meth c A D cy ls C hl
  have hl : lv_has ls 4 [(0, .ref (ad (55))), (1, .int (z0))] := hl
  have ng4 := hX.1.2.1
  have nt5 := hX.2.2.1
  refine j_aload_n C dX11_clear_0 rfl (lv_at hl 0 rfl) ?_
  refine j_getR (k := 55) (k2 := 0) C (f_RX11_12_11) (xl (by decide)) (rfl) (rfl) dX11_clear_1 ?_
  refine j_iload_n C dX11_clear_4 rfl (lv_at hl 1 rfl) ?_
  refine j_callV (k := 0) C [.int (z0)] [] (k_X0_girlAt l ad tk nt V 0 (Or.inl rfl) ng hX.1.1 hX.1.2.1 (z0)) v_RX11_99 (xl (xC (tk := tk) (nt := nt) (k := 0) (Or.inl rfl)).1.1) ((xC (tk := tk) (nt := nt) (k := 0) (Or.inl rfl)).2.1) rfl ⟨rfl, rfl, Nat.le_of_ble_eq_true rfl, Nat.le_of_ble_eq_true rfl⟩ rfl hl.1 rfl (Nat.le_of_ble_eq_true rfl) ⟨Nat.le_of_ble_eq_true rfl, Nat.le_of_ble_eq_true rfl⟩ dX11_clear_5 (kA fun x_1_ U1 h_1_ => ?_)
  obtain ⟨eU1, h_1_⟩ := h_1_
  have eU1 := eU1.symm
  subst eU1
  rcases h_1_ with ⟨j_1_, hj1, ej1, ev1⟩ | ⟨ho1, ev1⟩
  · subst ev1
    refine j_astore_n (lv2 := [(2, .ref (ad (0 + 2 + 3 * j_1_))), (0, .ref (ad (55))), (1, .int (z0))]) C dX11_clear_8 rfl hl (by decide) rfl (fun ls hl => ?_)
    refine j_aload_n C dX11_clear_9 rfl (lv_at hl 0 rfl) ?_
    refine j_ifnonnull (tgt := 15) C dX11_clear_10 (by decide) ?_
    refine j_aload_n C dX11_clear_15 rfl (lv_at hl 0 rfl) ?_
    refine j_getI (k := 0 + 2 + 3 * j_1_) C (f_RX11_111_2) (xl (xG (tk := tk) (nt := nt) (xCg (nt := nt) (Or.inl rfl) (by omega : j_1_ < 4)).1).1.1) ((xG (tk := tk) (nt := nt) (xCg (nt := nt) (Or.inl rfl) (by omega : j_1_ < 4)).1).2.1) dX11_clear_16 ?_
    refine j_istore_n (lv2 := [(3, .int (V (0 + 2 + 3 * j_1_) 2)), (2, .ref (ad (0 + 2 + 3 * j_1_))), (0, .ref (ad (55))), (1, .int (z0))]) C dX11_clear_19 rfl hl (by decide) rfl (fun ls hl => ?_)
    refine j_aload_n C dX11_clear_20 rfl (lv_at hl 1 rfl) ?_
    refine j_iconst (v := 0) C dX11_clear_21 (by decide) ?_
    refine j_putI (k := 0 + 2 + 3 * j_1_) C (f_RX11_111_2) p_2_2 (xl (xG (tk := tk) (nt := nt) (xCg (nt := nt) (Or.inl rfl) (by omega : j_1_ < 4)).1).1.1) ((xG (tk := tk) (nt := nt) (xCg (nt := nt) (Or.inl rfl) (by omega : j_1_ < 4)).1).2.1) dX11_clear_22 (fun V1 eV1 => ?_)
    refine j_iload_n C dX11_clear_25 rfl (lv_at hl 0 rfl) ?_
    refine j_iret C ⟨rfl, _, rfl, ?_⟩ dX11_clear_26
    obtain ⟨hin1, hcl1⟩ := inz ej1 hj1 (by omega)
    refine ⟨?_, ?_⟩
    · first | (simp only [if_pos hin1, hcl1]; done) | (simp only [if_pos hin1, hcl1]; rfl) | rfl | (simp only [if_pos hin1, hcl1]; exact eV1) | (simp only [if_pos hin1, hcl1]; rw [eV1])
    · first | (simp only [if_pos hin1, hcl1]; done) | (simp only [if_pos hin1, hcl1]; rfl) | rfl
  · subst ev1
    refine j_astore_nN (lv2 := [(2, .null), (0, .ref (ad (55))), (1, .int (z0))]) C dX11_clear_8 rfl hl (by decide) rfl (fun ls hl => ?_)
    refine j_aload_nN C dX11_clear_9 rfl (lv_at hl 0 rfl) ?_
    refine j_ifnonnullN C dX11_clear_10 ?_
    refine j_iconst (v := (-1)) C dX11_clear_13 (by decide) ?_
    refine j_iret C ⟨rfl, _, rfl, ?_⟩ dX11_clear_14
    have hot1 := outR ho1
    refine ⟨?_, ?_⟩
    · first | (simp only [if_neg hot1]; done) | (simp only [if_neg hot1]; rfl) | rfl
    · first | (simp only [if_neg hot1]; done) | (simp only [if_neg hot1]; rfl) | rfl
abbrev rm_X11_measure : Room := { frames := 3, cells := 0, slots := 0, locals := 67 }
set_option maxHeartbeats 4000000 in
set_option maxRecDepth 100000 in
theorem k_X11_measure (l : Launch) (ad tk : Nat → Nat) (nt : Nat) (V : Vt) (ng : Nat) (rr : Nat → Nat) (c_0_ : Nat) (hX : XI tk nt V ng rr c_0_) (z0 z1 : Int32) : Ct l yX11_measure cX11_measure 5 (some .int) rm_X11_measure (xS ad tk nt) V [.ref (ad (55)), .int (z0), .int (z1)] (rI fun x V2 => V2 = V ∧ x = if ¬ z0 < 0 ∧ z0 < nI nt then (if ¬ z1 < 0 ∧ z1 < nI ng then near (rch (kdI (tk z0.toNatClampNeg)) (V (56 + z0.toNatClampNeg) 1)) (V (0 + 2 + 3 * z1.toNatClampNeg) 0) (V (0 + 2 + 3 * z1.toNatClampNeg) 1) (V 0 0) else -1) else -1) := by
  refine Ct_of (by decide) (Nat.le_of_ble_eq_true rfl) ?_
  intro p e s m below meth c A D cy ls C hl
  have hl : lv_has ls 5 [(0, .ref (ad (55))), (1, .int (z0)), (2, .int (z1))] := hl
  have ng4 := hX.1.2.1
  have nt5 := hX.2.2.1
  refine j_aload_n C dX11_measure_0 rfl (lv_at hl 0 rfl) ?_
  refine j_iload_n C dX11_measure_1 rfl (lv_at hl 1 rfl) ?_
  refine j_callV (k := 55) C [.int (z0)] [] (k_X11_throwerOf l ad tk nt V hX.2.1 hX.2.2.1 (z0)) v_RX11_124 (xl (by decide)) (rfl) rfl ⟨rfl, rfl, Nat.le_of_ble_eq_true rfl, Nat.le_of_ble_eq_true rfl⟩ rfl hl.1 rfl (Nat.le_of_ble_eq_true rfl) ⟨Nat.le_of_ble_eq_true rfl, Nat.le_of_ble_eq_true rfl⟩ dX11_measure_2 (kA fun x_1_ U1 h_1_ => ?_)
  obtain ⟨eU1, h_1_⟩ := h_1_
  have eU1 := eU1.symm
  subst eU1
  rcases h_1_ with ⟨j_1_, hj1, ej1, ev1⟩ | ⟨ho1, ev1⟩
  · subst ev1
    refine j_astore_n (lv2 := [(3, .ref (ad (56 + j_1_))), (0, .ref (ad (55))), (1, .int (z0)), (2, .int (z1))]) C dX11_measure_5 rfl hl (by decide) rfl (fun ls hl => ?_)
    refine j_aload_n C dX11_measure_6 rfl (lv_at hl 1 rfl) ?_
    refine j_getR (k := 55) (k2 := 0) C (f_RX11_12_11) (xl (by decide)) (rfl) (rfl) dX11_measure_7 ?_
    refine j_iload_n C dX11_measure_10 rfl (lv_at hl 3 rfl) ?_
    refine j_callV (k := 0) C [.int (z1)] [] (k_X0_girlAt l ad tk nt V 0 (Or.inl rfl) ng hX.1.1 hX.1.2.1 (z1)) v_RX11_99 (xl (xC (tk := tk) (nt := nt) (k := 0) (Or.inl rfl)).1.1) ((xC (tk := tk) (nt := nt) (k := 0) (Or.inl rfl)).2.1) rfl ⟨rfl, rfl, Nat.le_of_ble_eq_true rfl, Nat.le_of_ble_eq_true rfl⟩ rfl hl.1 rfl (Nat.le_of_ble_eq_true rfl) ⟨Nat.le_of_ble_eq_true rfl, Nat.le_of_ble_eq_true rfl⟩ dX11_measure_11 (kA fun x_2_ U2 h_2_ => ?_)
    obtain ⟨eU2, h_2_⟩ := h_2_
    have eU2 := eU2.symm
    subst eU2
    rcases h_2_ with ⟨j_2_, hj2, ej2, ev2⟩ | ⟨ho2, ev2⟩
    · subst ev2
      refine j_astore (lv2 := [(4, .ref (ad (0 + 2 + 3 * j_2_))), (3, .ref (ad (56 + j_1_))), (0, .ref (ad (55))), (1, .int (z0)), (2, .int (z1))]) C dX11_measure_14 hl (by decide) rfl (fun ls hl => ?_)
      refine j_aload_n C dX11_measure_16 rfl (lv_at hl 1 rfl) ?_
      refine j_ifnull C dX11_measure_17 ?_
      refine j_aload C dX11_measure_20 (lv_at hl 0 rfl) ?_
      refine j_ifnonnull (tgt := 27) C dX11_measure_22 (by decide) ?_
      refine j_aload C dX11_measure_27 (lv_at hl 0 rfl) ?_
      refine j_aload_n C dX11_measure_29 rfl (lv_at hl 1 rfl) ?_
      refine j_callT (k := 56 + j_1_) C [] [.ref (ad (0 + 2 + 3 * j_2_))] (k_X6_reach l ad tk nt V j_1_ hj1 (XI_T hX hj1) ) v_RX11_134 o_RX11_134_3 o_RX11_134_8 rfl (xt hj1) (xT (XI_T hX hj1)) ⟨rfl, rfl, Nat.le_of_ble_eq_true rfl, Nat.le_of_ble_eq_true rfl⟩ rfl hl.1 rfl (Nat.le_of_ble_eq_true rfl) ⟨Nat.le_of_ble_eq_true rfl, Nat.le_of_ble_eq_true rfl⟩ dX11_measure_30 (kI fun x_3_ U3 h_3_ => ?_)
      obtain ⟨eU3, h_3_⟩ := h_3_
      have eU3 := eU3.symm
      subst eU3
      refine j_aload_n C dX11_measure_33 rfl (lv_at hl 2 rfl) ?_
      refine j_getR (k := 55) (k2 := 0) C (f_RX11_12_11) (xl (by decide)) (rfl) (rfl) dX11_measure_34 ?_
      refine j_getI (k := 0) C (f_RX11_147_0) (xl (xC (tk := tk) (nt := nt) (k := 0) (Or.inl rfl)).1.1) ((xC (tk := tk) (nt := nt) (k := 0) (Or.inl rfl)).2.1) dX11_measure_37 ?_
      refine j_callV (k := 0 + 2 + 3 * j_2_) C [.int (x_3_), .int (V 0 0)] [] (k_X2_nearness l ad tk nt V (0 + 2 + 3 * j_2_) (xCg (nt := nt) (Or.inl rfl) (by omega : j_2_ < 4)).1 (x_3_) (V 0 0) ) v_RX11_150 (xl (xG (tk := tk) (nt := nt) (xCg (nt := nt) (Or.inl rfl) (by omega : j_2_ < 4)).1).1.1) ((xG (tk := tk) (nt := nt) (xCg (nt := nt) (Or.inl rfl) (by omega : j_2_ < 4)).1).2.1) rfl ⟨rfl, rfl, Nat.le_of_ble_eq_true rfl, Nat.le_of_ble_eq_true rfl⟩ rfl hl.1 rfl (Nat.le_of_ble_eq_true rfl) ⟨Nat.le_of_ble_eq_true rfl, Nat.le_of_ble_eq_true rfl⟩ dX11_measure_40 (kI fun x_4_ U4 h_4_ => ?_)
      obtain ⟨eU4, h_4_⟩ := h_4_
      have eU4 := eU4.symm
      subst eU4
      refine j_iret C ⟨rfl, _, rfl, ?_⟩ dX11_measure_43
      rw [h_3_] at h_4_
      obtain ⟨hin1, hcl1⟩ := inz ej1 hj1 (by omega)
      obtain ⟨hin2, hcl2⟩ := inz ej2 hj2 (by omega)
      refine ⟨?_, ?_⟩
      · first | (simp only [if_pos hin1, if_pos hin2, hcl1, hcl2]; done) | (simp only [if_pos hin1, if_pos hin2, hcl1, hcl2]; rfl) | rfl
      · first | (simp only [if_pos hin1, if_pos hin2, hcl1, hcl2]; done) | (simp only [if_pos hin1, if_pos hin2, hcl1, hcl2]; rfl) | rfl | (simp only [if_pos hin1, if_pos hin2, hcl1, hcl2]; exact h_4_) | (simp only [if_pos hin1, if_pos hin2, hcl1, hcl2]; rw [h_4_]) | (simp only [if_pos hin1, if_pos hin2, hcl1, hcl2]; exact h_3_) | (simp only [if_pos hin1, if_pos hin2, hcl1, hcl2]; rw [h_3_])
    · subst ev2
      refine j_astoreN (lv2 := [(4, .null), (3, .ref (ad (56 + j_1_))), (0, .ref (ad (55))), (1, .int (z0)), (2, .int (z1))]) C dX11_measure_14 hl (by decide) rfl (fun ls hl => ?_)
      refine j_aload_n C dX11_measure_16 rfl (lv_at hl 1 rfl) ?_
      refine j_ifnull C dX11_measure_17 ?_
      refine j_aloadN C dX11_measure_20 (lv_at hl 0 rfl) ?_
      refine j_ifnonnullN C dX11_measure_22 ?_
      refine j_iconst (v := (-1)) C dX11_measure_25 (by decide) ?_
      refine j_iret C ⟨rfl, _, rfl, ?_⟩ dX11_measure_26
      obtain ⟨hin1, hcl1⟩ := inz ej1 hj1 (by omega)
      have hot2 := outR ho2
      refine ⟨?_, ?_⟩
      · first | (simp only [if_pos hin1, if_neg hot2, hcl1]; done) | (simp only [if_pos hin1, if_neg hot2, hcl1]; rfl) | rfl
      · first | (simp only [if_pos hin1, if_neg hot2, hcl1]; done) | (simp only [if_pos hin1, if_neg hot2, hcl1]; rfl) | rfl
  · subst ev1
    refine j_astore_nN (lv2 := [(3, .null), (0, .ref (ad (55))), (1, .int (z0)), (2, .int (z1))]) C dX11_measure_5 rfl hl (by decide) rfl (fun ls hl => ?_)
    refine j_aload_n C dX11_measure_6 rfl (lv_at hl 1 rfl) ?_
    refine j_getR (k := 55) (k2 := 0) C (f_RX11_12_11) (xl (by decide)) (rfl) (rfl) dX11_measure_7 ?_
    refine j_iload_n C dX11_measure_10 rfl (lv_at hl 3 rfl) ?_
    refine j_callV (k := 0) C [.int (z1)] [] (k_X0_girlAt l ad tk nt V 0 (Or.inl rfl) ng hX.1.1 hX.1.2.1 (z1)) v_RX11_99 (xl (xC (tk := tk) (nt := nt) (k := 0) (Or.inl rfl)).1.1) ((xC (tk := tk) (nt := nt) (k := 0) (Or.inl rfl)).2.1) rfl ⟨rfl, rfl, Nat.le_of_ble_eq_true rfl, Nat.le_of_ble_eq_true rfl⟩ rfl hl.1 rfl (Nat.le_of_ble_eq_true rfl) ⟨Nat.le_of_ble_eq_true rfl, Nat.le_of_ble_eq_true rfl⟩ dX11_measure_11 (kA fun x_5_ U5 h_5_ => ?_)
    obtain ⟨eU5, h_5_⟩ := h_5_
    have eU5 := eU5.symm
    subst eU5
    rcases h_5_ with ⟨j_5_, hj5, ej5, ev5⟩ | ⟨ho5, ev5⟩
    · subst ev5
      refine j_astore (lv2 := [(4, .ref (ad (0 + 2 + 3 * j_5_))), (3, .null), (0, .ref (ad (55))), (1, .int (z0)), (2, .int (z1))]) C dX11_measure_14 hl (by decide) rfl (fun ls hl => ?_)
      refine j_aload_nN C dX11_measure_16 rfl (lv_at hl 1 rfl) ?_
      refine j_ifnullN (tgt := 25) C dX11_measure_17 (by decide) ?_
      refine j_iconst (v := (-1)) C dX11_measure_25 (by decide) ?_
      refine j_iret C ⟨rfl, _, rfl, ?_⟩ dX11_measure_26
      have hot1 := outR ho1
      obtain ⟨hin5, hcl5⟩ := inz ej5 hj5 (by omega)
      refine ⟨?_, ?_⟩
      · first | (simp only [if_neg hot1, if_pos hin5, hcl5]; done) | (simp only [if_neg hot1, if_pos hin5, hcl5]; rfl) | rfl
      · first | (simp only [if_neg hot1, if_pos hin5, hcl5]; done) | (simp only [if_neg hot1, if_pos hin5, hcl5]; rfl) | rfl
    · subst ev5
      refine j_astoreN (lv2 := [(4, .null), (3, .null), (0, .ref (ad (55))), (1, .int (z0)), (2, .int (z1))]) C dX11_measure_14 hl (by decide) rfl (fun ls hl => ?_)
      refine j_aload_nN C dX11_measure_16 rfl (lv_at hl 1 rfl) ?_
      refine j_ifnullN (tgt := 25) C dX11_measure_17 (by decide) ?_
      refine j_iconst (v := (-1)) C dX11_measure_25 (by decide) ?_
      refine j_iret C ⟨rfl, _, rfl, ?_⟩ dX11_measure_26
      have hot1 := outR ho1
      have hot5 := outR ho5
      refine ⟨?_, ?_⟩
      · first | (simp only [if_neg hot1, if_neg hot5]; done) | (simp only [if_neg hot1, if_neg hot5]; rfl) | rfl
      · first | (simp only [if_neg hot1, if_neg hot5]; done) | (simp only [if_neg hot1, if_neg hot5]; rfl) | rfl
abbrev rm_X11_ofGirl : Room := { frames := 3, cells := 0, slots := 0, locals := 64 }
set_option maxHeartbeats 4000000 in
set_option maxRecDepth 100000 in
theorem k_X11_ofGirl (l : Launch) (ad tk : Nat → Nat) (nt : Nat) (V : Vt) (ng : Nat) (rr : Nat → Nat) (c_0_ : Nat) (hX : XI tk nt V ng rr c_0_) (z0 z1 : Int32) : Ct l yX11_ofGirl cX11_ofGirl 4 (some .int) rm_X11_ofGirl (xS ad tk nt) V [.ref (ad (55)), .int (z0), .int (z1)] (rI fun x V2 => V2 = V ∧ x = if ¬ z0 < 0 ∧ z0 < nI ng then (if z1 = 0 then V (0 + 2 + 3 * z0.toNatClampNeg) 0 else if z1 = 1 then V (0 + 2 + 3 * z0.toNatClampNeg) 1 else if z1 = 2 then V (0 + 2 + 3 * z0.toNatClampNeg) 2 else if z1 = 3 then holI (V ((0 + 2 + 3 * z0.toNatClampNeg) + 1)) (V ((0 + 2 + 3 * z0.toNatClampNeg) + 2)) (rr z0.toNatClampNeg) else if z1 = 4 then holI (V ((0 + 2 + 3 * z0.toNatClampNeg) + 2)) (V ((0 + 2 + 3 * z0.toNatClampNeg) + 2)) (rr z0.toNatClampNeg) else if z1 = 5 then nI (cntI (fun q => V ((0 + 2 + 3 * z0.toNatClampNeg) + 2) q = 0) (rr z0.toNatClampNeg)) else -2) else -1) := by
  refine Ct_of (by decide) (Nat.le_of_ble_eq_true rfl) ?_
  intro p e s m below meth c A D cy ls C hl
  have hl : lv_has ls 4 [(0, .ref (ad (55))), (1, .int (z0)), (2, .int (z1))] := hl
  have ng4 := hX.1.2.1
  have nt5 := hX.2.2.1
  refine j_aload_n C dX11_ofGirl_0 rfl (lv_at hl 0 rfl) ?_
  refine j_getR (k := 55) (k2 := 0) C (f_RX11_12_11) (xl (by decide)) (rfl) (rfl) dX11_ofGirl_1 ?_
  refine j_iload_n C dX11_ofGirl_4 rfl (lv_at hl 1 rfl) ?_
  refine j_callV (k := 0) C [.int (z0)] [] (k_X0_girlAt l ad tk nt V 0 (Or.inl rfl) ng hX.1.1 hX.1.2.1 (z0)) v_RX11_99 (xl (xC (tk := tk) (nt := nt) (k := 0) (Or.inl rfl)).1.1) ((xC (tk := tk) (nt := nt) (k := 0) (Or.inl rfl)).2.1) rfl ⟨rfl, rfl, Nat.le_of_ble_eq_true rfl, Nat.le_of_ble_eq_true rfl⟩ rfl hl.1 rfl (Nat.le_of_ble_eq_true rfl) ⟨Nat.le_of_ble_eq_true rfl, Nat.le_of_ble_eq_true rfl⟩ dX11_ofGirl_5 (kA fun x_1_ U1 h_1_ => ?_)
  obtain ⟨eU1, h_1_⟩ := h_1_
  have eU1 := eU1.symm
  subst eU1
  rcases h_1_ with ⟨j_1_, hj1, ej1, ev1⟩ | ⟨ho1, ev1⟩
  · subst ev1
    refine j_astore_n (lv2 := [(3, .ref (ad (0 + 2 + 3 * j_1_))), (0, .ref (ad (55))), (1, .int (z0)), (2, .int (z1))]) C dX11_ofGirl_8 rfl hl (by decide) rfl (fun ls hl => ?_)
    refine j_aload_n C dX11_ofGirl_9 rfl (lv_at hl 0 rfl) ?_
    refine j_ifnonnull (tgt := 15) C dX11_ofGirl_10 (by decide) ?_
    refine j_iload_n C dX11_ofGirl_15 rfl (lv_at hl 3 rfl) ?_
    rcases sw_in (z1) 6 (by decide) with ⟨js2, hjs2, s_2_⟩ | s_2_
    · rcases (show js2 = 0 ∨ js2 = 1 ∨ js2 = 2 ∨ js2 = 3 ∨ js2 = 4 ∨ js2 = 5 by omega) with rfl | rfl | rfl | rfl | rfl | rfl
      · refine j_tableIn (off := 40) (tgt := 56) C dX11_ofGirl_16 (by rw [s_2_]; decide) (by rw [s_2_]; decide) (by rw [s_2_]; rfl) (by decide) ?_
        refine j_aload_n C dX11_ofGirl_56 rfl (lv_at hl 0 rfl) ?_
        refine j_getI (k := 0 + 2 + 3 * j_1_) C (f_RX11_103_2) (xl (xG (tk := tk) (nt := nt) (xCg (nt := nt) (Or.inl rfl) (by omega : j_1_ < 4)).1).1.1) ((xG (tk := tk) (nt := nt) (xCg (nt := nt) (Or.inl rfl) (by omega : j_1_ < 4)).1).2.1) dX11_ofGirl_57 ?_
        refine j_iret C ⟨rfl, _, rfl, ?_⟩ dX11_ofGirl_60
        obtain ⟨hin1, hcl1⟩ := inz ej1 hj1 (by omega)
        refine ⟨rfl, ?_⟩
        rw [if_pos hin1, hcl1]
        rw [if_pos (show z1 = 0 from s_2_)]
      · refine j_tableIn (off := 45) (tgt := 61) C dX11_ofGirl_16 (by rw [s_2_]; decide) (by rw [s_2_]; decide) (by rw [s_2_]; rfl) (by decide) ?_
        refine j_aload_n C dX11_ofGirl_61 rfl (lv_at hl 0 rfl) ?_
        refine j_getI (k := 0 + 2 + 3 * j_1_) C (f_RX11_108_2) (xl (xG (tk := tk) (nt := nt) (xCg (nt := nt) (Or.inl rfl) (by omega : j_1_ < 4)).1).1.1) ((xG (tk := tk) (nt := nt) (xCg (nt := nt) (Or.inl rfl) (by omega : j_1_ < 4)).1).2.1) dX11_ofGirl_62 ?_
        refine j_iret C ⟨rfl, _, rfl, ?_⟩ dX11_ofGirl_65
        obtain ⟨hin1, hcl1⟩ := inz ej1 hj1 (by omega)
        refine ⟨rfl, ?_⟩
        rw [if_pos hin1, hcl1]
        rw [if_neg (fun q => by rw [q] at s_2_; revert s_2_; decide)]
        rw [if_pos (show z1 = 1 from s_2_)]
      · refine j_tableIn (off := 50) (tgt := 66) C dX11_ofGirl_16 (by rw [s_2_]; decide) (by rw [s_2_]; decide) (by rw [s_2_]; rfl) (by decide) ?_
        refine j_aload_n C dX11_ofGirl_66 rfl (lv_at hl 0 rfl) ?_
        refine j_getI (k := 0 + 2 + 3 * j_1_) C (f_RX11_111_2) (xl (xG (tk := tk) (nt := nt) (xCg (nt := nt) (Or.inl rfl) (by omega : j_1_ < 4)).1).1.1) ((xG (tk := tk) (nt := nt) (xCg (nt := nt) (Or.inl rfl) (by omega : j_1_ < 4)).1).2.1) dX11_ofGirl_67 ?_
        refine j_iret C ⟨rfl, _, rfl, ?_⟩ dX11_ofGirl_70
        obtain ⟨hin1, hcl1⟩ := inz ej1 hj1 (by omega)
        refine ⟨rfl, ?_⟩
        rw [if_pos hin1, hcl1]
        rw [if_neg (fun q => by rw [q] at s_2_; revert s_2_; decide)]
        rw [if_neg (fun q => by rw [q] at s_2_; revert s_2_; decide)]
        rw [if_pos (show z1 = 2 from s_2_)]
      · refine j_tableIn (off := 55) (tgt := 71) C dX11_ofGirl_16 (by rw [s_2_]; decide) (by rw [s_2_]; decide) (by rw [s_2_]; rfl) (by decide) ?_
        refine j_aload_n C dX11_ofGirl_71 rfl (lv_at hl 0 rfl) ?_
        refine j_callV (k := 0 + 2 + 3 * j_1_) C [] [] (k_X2_holder l ad tk nt V (0 + 2 + 3 * j_1_) (xCg (nt := nt) (Or.inl rfl) (by omega : j_1_ < 4)).1 (rr j_1_) (hX.1.2.2 j_1_ hj1).1 (hX.1.2.2 j_1_ hj1).2 ) v_RX11_114 (xl (xG (tk := tk) (nt := nt) (xCg (nt := nt) (Or.inl rfl) (by omega : j_1_ < 4)).1).1.1) ((xG (tk := tk) (nt := nt) (xCg (nt := nt) (Or.inl rfl) (by omega : j_1_ < 4)).1).2.1) rfl ⟨rfl, rfl, Nat.le_of_ble_eq_true rfl, Nat.le_of_ble_eq_true rfl⟩ rfl hl.1 rfl (Nat.le_of_ble_eq_true rfl) ⟨Nat.le_of_ble_eq_true rfl, Nat.le_of_ble_eq_true rfl⟩ dX11_ofGirl_72 (kI fun x_3_ U3 h_3_ => ?_)
        obtain ⟨eU3, h_3_⟩ := h_3_
        have eU3 := eU3.symm
        subst eU3
        refine j_iret C ⟨rfl, _, rfl, ?_⟩ dX11_ofGirl_75
        obtain ⟨hin1, hcl1⟩ := inz ej1 hj1 (by omega)
        refine ⟨rfl, ?_⟩
        rw [if_pos hin1, hcl1]
        rw [if_neg (fun q => by rw [q] at s_2_; revert s_2_; decide)]
        rw [if_neg (fun q => by rw [q] at s_2_; revert s_2_; decide)]
        rw [if_neg (fun q => by rw [q] at s_2_; revert s_2_; decide)]
        rw [if_pos (show z1 = 3 from s_2_)]
        exact h_3_
      · refine j_tableIn (off := 60) (tgt := 76) C dX11_ofGirl_16 (by rw [s_2_]; decide) (by rw [s_2_]; decide) (by rw [s_2_]; rfl) (by decide) ?_
        refine j_aload_n C dX11_ofGirl_76 rfl (lv_at hl 0 rfl) ?_
        refine j_callV (k := 0 + 2 + 3 * j_1_) C [] [] (k_X2_holdersNearness l ad tk nt V (0 + 2 + 3 * j_1_) (xCg (nt := nt) (Or.inl rfl) (by omega : j_1_ < 4)).1 (rr j_1_) (hX.1.2.2 j_1_ hj1).1 (hX.1.2.2 j_1_ hj1).2 ) v_RX11_118 (xl (xG (tk := tk) (nt := nt) (xCg (nt := nt) (Or.inl rfl) (by omega : j_1_ < 4)).1).1.1) ((xG (tk := tk) (nt := nt) (xCg (nt := nt) (Or.inl rfl) (by omega : j_1_ < 4)).1).2.1) rfl ⟨rfl, rfl, Nat.le_of_ble_eq_true rfl, Nat.le_of_ble_eq_true rfl⟩ rfl hl.1 rfl (Nat.le_of_ble_eq_true rfl) ⟨Nat.le_of_ble_eq_true rfl, Nat.le_of_ble_eq_true rfl⟩ dX11_ofGirl_77 (kI fun x_4_ U4 h_4_ => ?_)
        obtain ⟨eU4, h_4_⟩ := h_4_
        have eU4 := eU4.symm
        subst eU4
        refine j_iret C ⟨rfl, _, rfl, ?_⟩ dX11_ofGirl_80
        obtain ⟨hin1, hcl1⟩ := inz ej1 hj1 (by omega)
        refine ⟨rfl, ?_⟩
        rw [if_pos hin1, hcl1]
        rw [if_neg (fun q => by rw [q] at s_2_; revert s_2_; decide)]
        rw [if_neg (fun q => by rw [q] at s_2_; revert s_2_; decide)]
        rw [if_neg (fun q => by rw [q] at s_2_; revert s_2_; decide)]
        rw [if_neg (fun q => by rw [q] at s_2_; revert s_2_; decide)]
        rw [if_pos (show z1 = 4 from s_2_)]
        exact h_4_
      · refine j_tableIn (off := 65) (tgt := 81) C dX11_ofGirl_16 (by rw [s_2_]; decide) (by rw [s_2_]; decide) (by rw [s_2_]; rfl) (by decide) ?_
        refine j_aload_n C dX11_ofGirl_81 rfl (lv_at hl 0 rfl) ?_
        refine j_callV (k := 0 + 2 + 3 * j_1_) C [] [] (k_X2_ringers l ad tk nt V (0 + 2 + 3 * j_1_) (xCg (nt := nt) (Or.inl rfl) (by omega : j_1_ < 4)).1 (rr j_1_) (hX.1.2.2 j_1_ hj1).1 (hX.1.2.2 j_1_ hj1).2 ) v_RX11_121 (xl (xG (tk := tk) (nt := nt) (xCg (nt := nt) (Or.inl rfl) (by omega : j_1_ < 4)).1).1.1) ((xG (tk := tk) (nt := nt) (xCg (nt := nt) (Or.inl rfl) (by omega : j_1_ < 4)).1).2.1) rfl ⟨rfl, rfl, Nat.le_of_ble_eq_true rfl, Nat.le_of_ble_eq_true rfl⟩ rfl hl.1 rfl (Nat.le_of_ble_eq_true rfl) ⟨Nat.le_of_ble_eq_true rfl, Nat.le_of_ble_eq_true rfl⟩ dX11_ofGirl_82 (kI fun x_5_ U5 h_5_ => ?_)
        obtain ⟨eU5, h_5_⟩ := h_5_
        have eU5 := eU5.symm
        subst eU5
        refine j_iret C ⟨rfl, _, rfl, ?_⟩ dX11_ofGirl_85
        obtain ⟨hin1, hcl1⟩ := inz ej1 hj1 (by omega)
        refine ⟨rfl, ?_⟩
        rw [if_pos hin1, hcl1]
        rw [if_neg (fun q => by rw [q] at s_2_; revert s_2_; decide)]
        rw [if_neg (fun q => by rw [q] at s_2_; revert s_2_; decide)]
        rw [if_neg (fun q => by rw [q] at s_2_; revert s_2_; decide)]
        rw [if_neg (fun q => by rw [q] at s_2_; revert s_2_; decide)]
        rw [if_neg (fun q => by rw [q] at s_2_; revert s_2_; decide)]
        rw [if_pos (show z1 = 5 from s_2_)]
        exact h_5_
    · refine j_tableOut (tgt := 86) C dX11_ofGirl_16 (by omega) (by decide) ?_
      refine j_bipush (v := (-2)) C dX11_ofGirl_86 (by decide) ?_
      refine j_iret C ⟨rfl, _, rfl, ?_⟩ dX11_ofGirl_88
      obtain ⟨hin1, hcl1⟩ := inz ej1 hj1 (by omega)
      refine ⟨rfl, ?_⟩
      rw [if_pos hin1, hcl1]
      rw [if_neg (fun q => by rw [q] at s_2_; revert s_2_; decide)]
      rw [if_neg (fun q => by rw [q] at s_2_; revert s_2_; decide)]
      rw [if_neg (fun q => by rw [q] at s_2_; revert s_2_; decide)]
      rw [if_neg (fun q => by rw [q] at s_2_; revert s_2_; decide)]
      rw [if_neg (fun q => by rw [q] at s_2_; revert s_2_; decide)]
      rw [if_neg (fun q => by rw [q] at s_2_; revert s_2_; decide)]
  · subst ev1
    refine j_astore_nN (lv2 := [(3, .null), (0, .ref (ad (55))), (1, .int (z0)), (2, .int (z1))]) C dX11_ofGirl_8 rfl hl (by decide) rfl (fun ls hl => ?_)
    refine j_aload_nN C dX11_ofGirl_9 rfl (lv_at hl 0 rfl) ?_
    refine j_ifnonnullN C dX11_ofGirl_10 ?_
    refine j_iconst (v := (-1)) C dX11_ofGirl_13 (by decide) ?_
    refine j_iret C ⟨rfl, _, rfl, ?_⟩ dX11_ofGirl_14
    have hot1 := outR ho1
    exact ⟨rfl, by rw [if_neg hot1]⟩
abbrev rm_X11_ofThrower : Room := { frames := 5, cells := 0, slots := 0, locals := 109 }
set_option maxHeartbeats 4000000 in
set_option maxRecDepth 100000 in
theorem k_X11_ofThrower (l : Launch) (ad tk : Nat → Nat) (nt : Nat) (V : Vt) (ng : Nat) (rr : Nat → Nat) (c_0_ : Nat) (hX : XI tk nt V ng rr c_0_) (z0 z1 : Int32) : Ct l yX11_ofThrower cX11_ofThrower 4 (some .int) rm_X11_ofThrower (xS ad tk nt) V [.ref (ad (55)), .int (z0), .int (z1)] (rI fun x V2 => V2 = V ∧ x = if ¬ z0 < 0 ∧ z0 < nI nt then (if z1 = 0 then kdI (tk z0.toNatClampNeg) else if z1 = 1 then V (56 + z0.toNatClampNeg) 1 else if z1 = 2 then rch (kdI (tk z0.toNatClampNeg)) (V (56 + z0.toNatClampNeg) 1) else if z1 = 3 then setI (fun g => hoC V 0 rr g = z0) ng else if z1 = 4 then nI (sumN (fun g => cntI (fun q => V (0 + 2 + 3 * g + 1) q = z0) (rr g)) ng) else -2) else -1) := by
  refine Ct_of (by decide) (Nat.le_of_ble_eq_true rfl) ?_
  intro p e s m below meth c A D cy ls C hl
  have hl : lv_has ls 4 [(0, .ref (ad (55))), (1, .int (z0)), (2, .int (z1))] := hl
  have ng4 := hX.1.2.1
  have nt5 := hX.2.2.1
  refine j_aload_n C dX11_ofThrower_0 rfl (lv_at hl 0 rfl) ?_
  refine j_iload_n C dX11_ofThrower_1 rfl (lv_at hl 1 rfl) ?_
  refine j_callV (k := 55) C [.int (z0)] [] (k_X11_throwerOf l ad tk nt V hX.2.1 hX.2.2.1 (z0)) v_RX11_124 (xl (by decide)) (rfl) rfl ⟨rfl, rfl, Nat.le_of_ble_eq_true rfl, Nat.le_of_ble_eq_true rfl⟩ rfl hl.1 rfl (Nat.le_of_ble_eq_true rfl) ⟨Nat.le_of_ble_eq_true rfl, Nat.le_of_ble_eq_true rfl⟩ dX11_ofThrower_2 (kA fun x_1_ U1 h_1_ => ?_)
  obtain ⟨eU1, h_1_⟩ := h_1_
  have eU1 := eU1.symm
  subst eU1
  rcases h_1_ with ⟨j_1_, hj1, ej1, ev1⟩ | ⟨ho1, ev1⟩
  · subst ev1
    refine j_astore_n (lv2 := [(3, .ref (ad (56 + j_1_))), (0, .ref (ad (55))), (1, .int (z0)), (2, .int (z1))]) C dX11_ofThrower_5 rfl hl (by decide) rfl (fun ls hl => ?_)
    refine j_aload_n C dX11_ofThrower_6 rfl (lv_at hl 0 rfl) ?_
    refine j_ifnonnull (tgt := 12) C dX11_ofThrower_7 (by decide) ?_
    refine j_iload_n C dX11_ofThrower_12 rfl (lv_at hl 3 rfl) ?_
    rcases sw_in (z1) 5 (by decide) with ⟨js2, hjs2, s_2_⟩ | s_2_
    · rcases (show js2 = 0 ∨ js2 = 1 ∨ js2 = 2 ∨ js2 = 3 ∨ js2 = 4 by omega) with rfl | rfl | rfl | rfl | rfl
      · refine j_tableIn (off := 35) (tgt := 48) C dX11_ofThrower_13 (by rw [s_2_]; decide) (by rw [s_2_]; decide) (by rw [s_2_]; rfl) (by decide) ?_
        refine j_aload_n C dX11_ofThrower_48 rfl (lv_at hl 0 rfl) ?_
        rcases (show isT (xk tk (56 + j_1_)) from xT (XI_T hX hj1)) with t3 | t3 | t3
        · skip
          refine j_callV (k := 56 + j_1_) C [] [] (k_X6_kind l (xS ad tk nt) V (ad (56 + j_1_))) v_RX11_128 (xt hj1) t3 rfl ⟨rfl, rfl, Nat.le_of_ble_eq_true rfl, Nat.le_of_ble_eq_true rfl⟩ rfl hl.1 rfl (Nat.le_of_ble_eq_true rfl) ⟨Nat.le_of_ble_eq_true rfl, Nat.le_of_ble_eq_true rfl⟩ dX11_ofThrower_49 (kI fun x_4_ U4 h_4_ => ?_)
          obtain ⟨eU4, h_4_⟩ := h_4_
          have eU4 := eU4.symm
          subst eU4
          refine j_iret C ⟨rfl, _, rfl, ?_⟩ dX11_ofThrower_52
          obtain ⟨hin1, hcl1⟩ := inz ej1 hj1 (by omega)
          refine ⟨rfl, ?_⟩
          rw [if_pos hin1, hcl1]
          rw [if_pos (show z1 = 0 from s_2_)]
          rw [xk_t] at t3
          rw [h_4_, t3]
          rfl
        · skip
          refine j_callO (k := 56 + j_1_) C [] [] (k_X3_kind l (xS ad tk nt) V (ad (56 + j_1_))) o_RX11_128_3 (xt hj1) t3 rfl ⟨rfl, rfl, Nat.le_of_ble_eq_true rfl, Nat.le_of_ble_eq_true rfl⟩ rfl hl.1 rfl (Nat.le_of_ble_eq_true rfl) ⟨Nat.le_of_ble_eq_true rfl, Nat.le_of_ble_eq_true rfl⟩ dX11_ofThrower_49 (kI fun x_5_ U5 h_5_ => ?_)
          obtain ⟨eU5, h_5_⟩ := h_5_
          have eU5 := eU5.symm
          subst eU5
          refine j_iret C ⟨rfl, _, rfl, ?_⟩ dX11_ofThrower_52
          obtain ⟨hin1, hcl1⟩ := inz ej1 hj1 (by omega)
          refine ⟨rfl, ?_⟩
          rw [if_pos hin1, hcl1]
          rw [if_pos (show z1 = 0 from s_2_)]
          rw [xk_t] at t3
          rw [h_5_, t3]
          rfl
        · skip
          refine j_callO (k := 56 + j_1_) C [] [] (k_X8_kind l (xS ad tk nt) V (ad (56 + j_1_))) o_RX11_128_8 (xt hj1) t3 rfl ⟨rfl, rfl, Nat.le_of_ble_eq_true rfl, Nat.le_of_ble_eq_true rfl⟩ rfl hl.1 rfl (Nat.le_of_ble_eq_true rfl) ⟨Nat.le_of_ble_eq_true rfl, Nat.le_of_ble_eq_true rfl⟩ dX11_ofThrower_49 (kI fun x_6_ U6 h_6_ => ?_)
          obtain ⟨eU6, h_6_⟩ := h_6_
          have eU6 := eU6.symm
          subst eU6
          refine j_iret C ⟨rfl, _, rfl, ?_⟩ dX11_ofThrower_52
          obtain ⟨hin1, hcl1⟩ := inz ej1 hj1 (by omega)
          refine ⟨rfl, ?_⟩
          rw [if_pos hin1, hcl1]
          rw [if_pos (show z1 = 0 from s_2_)]
          rw [xk_t] at t3
          rw [h_6_, t3]
          rfl
      · refine j_tableIn (off := 40) (tgt := 53) C dX11_ofThrower_13 (by rw [s_2_]; decide) (by rw [s_2_]; decide) (by rw [s_2_]; rfl) (by decide) ?_
        refine j_aload_n C dX11_ofThrower_53 rfl (lv_at hl 0 rfl) ?_
        refine j_getT (k := 56 + j_1_) C f_RX11_131_6 f_RX11_131_3 f_RX11_131_8 (xt hj1) (xT (XI_T hX hj1)) dX11_ofThrower_54 ?_
        refine j_iret C ⟨rfl, _, rfl, ?_⟩ dX11_ofThrower_57
        obtain ⟨hin1, hcl1⟩ := inz ej1 hj1 (by omega)
        refine ⟨rfl, ?_⟩
        rw [if_pos hin1, hcl1]
        rw [if_neg (fun q => by rw [q] at s_2_; revert s_2_; decide)]
        rw [if_pos (show z1 = 1 from s_2_)]
      · refine j_tableIn (off := 45) (tgt := 58) C dX11_ofThrower_13 (by rw [s_2_]; decide) (by rw [s_2_]; decide) (by rw [s_2_]; rfl) (by decide) ?_
        refine j_aload_n C dX11_ofThrower_58 rfl (lv_at hl 0 rfl) ?_
        refine j_callT (k := 56 + j_1_) C [] [] (k_X6_reach l ad tk nt V j_1_ hj1 (XI_T hX hj1) ) v_RX11_134 o_RX11_134_3 o_RX11_134_8 rfl (xt hj1) (xT (XI_T hX hj1)) ⟨rfl, rfl, Nat.le_of_ble_eq_true rfl, Nat.le_of_ble_eq_true rfl⟩ rfl hl.1 rfl (Nat.le_of_ble_eq_true rfl) ⟨Nat.le_of_ble_eq_true rfl, Nat.le_of_ble_eq_true rfl⟩ dX11_ofThrower_59 (kI fun x_7_ U7 h_7_ => ?_)
        obtain ⟨eU7, h_7_⟩ := h_7_
        have eU7 := eU7.symm
        subst eU7
        refine j_iret C ⟨rfl, _, rfl, ?_⟩ dX11_ofThrower_62
        obtain ⟨hin1, hcl1⟩ := inz ej1 hj1 (by omega)
        refine ⟨rfl, ?_⟩
        rw [if_pos hin1, hcl1]
        rw [if_neg (fun q => by rw [q] at s_2_; revert s_2_; decide)]
        rw [if_neg (fun q => by rw [q] at s_2_; revert s_2_; decide)]
        rw [if_pos (show z1 = 2 from s_2_)]
        exact h_7_
      · refine j_tableIn (off := 50) (tgt := 63) C dX11_ofThrower_13 (by rw [s_2_]; decide) (by rw [s_2_]; decide) (by rw [s_2_]; rfl) (by decide) ?_
        refine j_aload_n C dX11_ofThrower_63 rfl (lv_at hl 1 rfl) ?_
        refine j_getR (k := 55) (k2 := 0) C (f_RX11_12_11) (xl (by decide)) (rfl) (rfl) dX11_ofThrower_64 ?_
        refine j_iload_n C dX11_ofThrower_67 rfl (lv_at hl 2 rfl) ?_
        refine j_callV (k := 0) C [.int (z0)] [] (k_X0_heldBy l ad tk nt V 0 (Or.inl rfl) ng rr hX.1 (z0)) v_RX11_137 (xl (xC (tk := tk) (nt := nt) (k := 0) (Or.inl rfl)).1.1) ((xC (tk := tk) (nt := nt) (k := 0) (Or.inl rfl)).2.1) rfl ⟨rfl, rfl, Nat.le_of_ble_eq_true rfl, Nat.le_of_ble_eq_true rfl⟩ rfl hl.1 rfl (Nat.le_of_ble_eq_true rfl) ⟨Nat.le_of_ble_eq_true rfl, Nat.le_of_ble_eq_true rfl⟩ dX11_ofThrower_68 (kI fun x_8_ U8 h_8_ => ?_)
        obtain ⟨eU8, h_8_⟩ := h_8_
        have eU8 := eU8.symm
        subst eU8
        refine j_iret C ⟨rfl, _, rfl, ?_⟩ dX11_ofThrower_71
        obtain ⟨hin1, hcl1⟩ := inz ej1 hj1 (by omega)
        refine ⟨rfl, ?_⟩
        rw [if_pos hin1, hcl1]
        rw [if_neg (fun q => by rw [q] at s_2_; revert s_2_; decide)]
        rw [if_neg (fun q => by rw [q] at s_2_; revert s_2_; decide)]
        rw [if_neg (fun q => by rw [q] at s_2_; revert s_2_; decide)]
        rw [if_pos (show z1 = 3 from s_2_)]
        exact h_8_
      · refine j_tableIn (off := 59) (tgt := 72) C dX11_ofThrower_13 (by rw [s_2_]; decide) (by rw [s_2_]; decide) (by rw [s_2_]; rfl) (by decide) ?_
        refine j_aload_n C dX11_ofThrower_72 rfl (lv_at hl 1 rfl) ?_
        refine j_getR (k := 55) (k2 := 0) C (f_RX11_12_11) (xl (by decide)) (rfl) (rfl) dX11_ofThrower_73 ?_
        refine j_iload_n C dX11_ofThrower_76 rfl (lv_at hl 2 rfl) ?_
        refine j_callV (k := 0) C [.int (z0)] [] (k_X0_ringsOf l ad tk nt V 0 (Or.inl rfl) ng rr hX.1 (z0)) v_RX11_140 (xl (xC (tk := tk) (nt := nt) (k := 0) (Or.inl rfl)).1.1) ((xC (tk := tk) (nt := nt) (k := 0) (Or.inl rfl)).2.1) rfl ⟨rfl, rfl, Nat.le_of_ble_eq_true rfl, Nat.le_of_ble_eq_true rfl⟩ rfl hl.1 rfl (Nat.le_of_ble_eq_true rfl) ⟨Nat.le_of_ble_eq_true rfl, Nat.le_of_ble_eq_true rfl⟩ dX11_ofThrower_77 (kI fun x_9_ U9 h_9_ => ?_)
        obtain ⟨eU9, h_9_⟩ := h_9_
        have eU9 := eU9.symm
        subst eU9
        refine j_iret C ⟨rfl, _, rfl, ?_⟩ dX11_ofThrower_80
        obtain ⟨hin1, hcl1⟩ := inz ej1 hj1 (by omega)
        refine ⟨rfl, ?_⟩
        rw [if_pos hin1, hcl1]
        rw [if_neg (fun q => by rw [q] at s_2_; revert s_2_; decide)]
        rw [if_neg (fun q => by rw [q] at s_2_; revert s_2_; decide)]
        rw [if_neg (fun q => by rw [q] at s_2_; revert s_2_; decide)]
        rw [if_neg (fun q => by rw [q] at s_2_; revert s_2_; decide)]
        rw [if_pos (show z1 = 4 from s_2_)]
        exact h_9_
    · refine j_tableOut (tgt := 81) C dX11_ofThrower_13 (by omega) (by decide) ?_
      refine j_bipush (v := (-2)) C dX11_ofThrower_81 (by decide) ?_
      refine j_iret C ⟨rfl, _, rfl, ?_⟩ dX11_ofThrower_83
      obtain ⟨hin1, hcl1⟩ := inz ej1 hj1 (by omega)
      refine ⟨rfl, ?_⟩
      rw [if_pos hin1, hcl1]
      rw [if_neg (fun q => by rw [q] at s_2_; revert s_2_; decide)]
      rw [if_neg (fun q => by rw [q] at s_2_; revert s_2_; decide)]
      rw [if_neg (fun q => by rw [q] at s_2_; revert s_2_; decide)]
      rw [if_neg (fun q => by rw [q] at s_2_; revert s_2_; decide)]
      rw [if_neg (fun q => by rw [q] at s_2_; revert s_2_; decide)]
  · subst ev1
    refine j_astore_nN (lv2 := [(3, .null), (0, .ref (ad (55))), (1, .int (z0)), (2, .int (z1))]) C dX11_ofThrower_5 rfl hl (by decide) rfl (fun ls hl => ?_)
    refine j_aload_nN C dX11_ofThrower_6 rfl (lv_at hl 0 rfl) ?_
    refine j_ifnonnullN C dX11_ofThrower_7 ?_
    refine j_iconst (v := (-1)) C dX11_ofThrower_10 (by decide) ?_
    refine j_iret C ⟨rfl, _, rfl, ?_⟩ dX11_ofThrower_11
    have hot1 := outR ho1
    exact ⟨rfl, by rw [if_neg hot1]⟩
