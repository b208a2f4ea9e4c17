def kpM (V : Vt) (n m : Nat) : Vt := fun a j => if a = 0 ∧ j = 21 then V 0 5 else if a = 13 ∧ j < n then V 8 j else if a = 14 ∧ j < m then V 9 j else if a = 15 ∧ j < m then V 10 j else V a j
theorem kpM_0 (V : Vt) : up2 V 0 21 (V 0 5) = kpM V 0 0 := by
  funext a j
  unfold up2 kpM
  by_cases h : a = 0 ∧ j = 21
  · rw [if_pos h, if_pos h]
  · rw [if_neg h, if_neg h, if_neg (by omega), if_neg (by omega), if_neg (by omega)]
theorem kpM_n (V : Vt) (n : Nat) : up2 (kpM V n 0) 13 n (kpM V n 0 8 n) = kpM V (n + 1) 0 := by
  funext a j
  have e0 : kpM V n 0 8 n = V 8 n := by unfold kpM; rw [if_neg (by omega), if_neg (by omega), if_neg (by omega), if_neg (by omega)]
  rw [e0]
  unfold up2
  by_cases h : a = 13 ∧ j = n
  · rw [if_pos h, h.1, h.2]
    unfold kpM
    rw [if_neg (by omega), if_pos (by omega)]
  · rw [if_neg h]
    unfold kpM
    have e : (a = 13 ∧ j < n) ↔ (a = 13 ∧ j < n + 1) := by omega
    simp only [e]
theorem kpM_m (V : Vt) (n m : Nat) : up2 (up2 (kpM V n m) 14 m (kpM V n m 9 m)) 15 m (up2 (kpM V n m) 14 m (kpM V n m 9 m) 10 m) = kpM V n (m + 1) := by
  funext a j
  have e0 : kpM V n m 9 m = V 9 m := by unfold kpM; rw [if_neg (by omega), if_neg (by omega), if_neg (by omega), if_neg (by omega)]
  have e1 : up2 (kpM V n m) 14 m (kpM V n m 9 m) 10 m = V 10 m := by rw [up2_k _ _ (by decide)]; unfold kpM; rw [if_neg (by omega), if_neg (by omega), if_neg (by omega), if_neg (by omega)]
  rw [e1, e0]
  unfold up2
  by_cases h : a = 15 ∧ j = m
  · rw [if_pos h, h.1, h.2]
    unfold kpM
    rw [if_neg (by omega), if_neg (by omega), if_neg (by omega), if_pos (by omega)]
  · rw [if_neg h]
    by_cases h_2_ : a = 14 ∧ j = m
    · rw [if_pos h_2_, h_2_.1, h_2_.2]
      unfold kpM
      rw [if_neg (by omega), if_neg (by omega), if_pos (by omega)]
    · rw [if_neg h_2_]
      unfold kpM
      have e : (a = 14 ∧ j < m) ↔ (a = 14 ∧ j < m + 1) := by omega
      have e2 : (a = 15 ∧ j < m) ↔ (a = 15 ∧ j < m + 1) := by omega
      simp only [e, e2]
abbrev rm_X12_keep : Room := { frames := 0, cells := 0, slots := 0, locals := 0 }
set_option maxHeartbeats 4000000 in
set_option maxRecDepth 100000 in
theorem k_X12_keep (l : Launch) (ad : Nat → Nat) (V : Vt) (ng : Nat) (hG : V 0 6 = nI ng) (ng4 : ng ≤ 4)  : Ct l yX12_keep cX12_keep 2 none rm_X12_keep (mS ad) V [.ref (ad (0))] (rU fun V2 => V2 = kpM V ng 32) := by
  refine Ct_of (by decide) (Nat.le_of_ble_eq_true rfl) ?_
  intro p e s m below meth c A D cy ls C hl
  have hl : lv_has ls 2 [(0, .ref (ad (0)))] := hl
  refine j_aload_n C dX12_keep_0 rfl (lv_at hl 0 rfl) ?_
  refine j_aload_n C dX12_keep_1 rfl (lv_at hl 0 rfl) ?_
  refine j_getI (k := 0) C (f_RX12_126_12) (ml (by decide)) (rfl) dX12_keep_2 ?_
  refine j_putI (k := 0) C (f_RX12_186_12) p_12_21 (ml (by decide)) (rfl) dX12_keep_5 (fun V1 eV1 => ?_)
  refine j_iconst (v := 0) C dX12_keep_8 (by decide) ?_
  refine j_istore_n (lv2 := [(1, .int (0)), (0, .ref (ad (0)))]) C dX12_keep_9 rfl hl (by decide) rfl (fun ls hl => ?_)
  have loop : ∀ (n_9_ : Nat) (n : Nat) (Vi : Vt), n ≤ ng → Vi = kpM V n 0 → ng - n < n_9_ → ∀ (ls : Array Slot), lv_has ls 2 [(0, .ref (ad (0))), (1, .int (nI n))] → J p l e rm_X12_keep s m [.ref (ad (0))].toArray below meth c A D cy 0 0 (MQ below (gPost D cy A (fun o9 σ2 V2 => σ2 = mS ad ∧ (rU fun V2 => V2 = kpM V ng 32) o9 V2)) [.ref (ad (0))].toArray s 0 0 A) (mS ad) Vi (F0 m 10 ls []) := by
    intro n_9_
    induction n_9_ with
    | zero =>
      intro n Vi hi hV hm
      exact absurd hm (by omega)
    | succ n_9_ ih_loop =>
      intro n Vi hi hV hm ls hl
      refine j_iload_n C dX12_keep_10 rfl (lv_at hl 1 rfl) ?_
      refine j_aload_n C dX12_keep_11 rfl (lv_at hl 0 rfl) ?_
      refine j_getI (k := 0) C (f_RX12_89_12) (ml (by decide)) (rfl) dX12_keep_12 ?_
      refine j_icmp_ge (tgt := 36) C dX12_keep_15 (by decide) (fun c_1_ => ?_) (fun c_1_ => ?_)
      · have n_1_ := Int32.not_lt.mpr c_1_
        have q1 := cLe ((by rw [hV]; exact hG : Vi 0 6 = nI ng)) (rfl) (by omega) (by omega) c_1_
        have e9 : n = ng := by omega
        refine j_iconst (v := 0) C dX12_keep_36 (by decide) ?_
        refine j_istore_n (lv2 := [(1, .int (0)), (0, .ref (ad (0)))]) C dX12_keep_37 rfl hl (by decide) rfl (fun ls hl => ?_)
        have loop2 : ∀ (n_9_ : Nat) (m9 : Nat) (Vj : Vt), m9 ≤ 32 → Vj = kpM V ng m9 → 32 - m9 < n_9_ → ∀ (ls : Array Slot), lv_has ls 2 [(0, .ref (ad (0))), (1, .int (nI m9))] → J p l e rm_X12_keep s m [.ref (ad (0))].toArray below meth c A D cy 0 0 (MQ below (gPost D cy A (fun o9 σ2 V2 => σ2 = mS ad ∧ (rU fun V2 => V2 = kpM V ng 32) o9 V2)) [.ref (ad (0))].toArray s 0 0 A) (mS ad) Vj (F0 m 38 ls []) := by
          intro n_9_
          induction n_9_ with
          | zero =>
            intro m9 Vj hi2 hV2 hm
            exact absurd hm (by omega)
          | succ n_9_ ih_loop2 =>
            intro m9 Vj hi2 hV2 hm ls hl
            refine j_iload_n C dX12_keep_38 rfl (lv_at hl 1 rfl) ?_
            refine j_bipush (v := 32) C dX12_keep_39 (by decide) ?_
            refine j_icmp_ge (tgt := 74) C dX12_keep_41 (by decide) (fun c_2_ => ?_) (fun c_2_ => ?_)
            · have n_2_ := Int32.not_lt.mpr c_2_
              have q2 := cLe (show (32 : Int32) = nI 32 from rfl) (rfl) (by omega) (by omega) c_2_
              refine j_vret C ⟨rfl, rfl, ?_⟩ dX12_keep_74
              obtain rfl : m9 = 32 := by omega
              exact hV2
            · have n_2_ := Int32.not_le.mp c_2_
              have q2 := cNe (show (32 : Int32) = nI 32 from rfl) (rfl) (by omega) (by omega) c_2_
              refine j_aload_n C dX12_keep_44 rfl (lv_at hl 0 rfl) ?_
              refine j_getR (k := 0) (k2 := 14) C (f_RX12_49_12) (ml (by decide)) (rfl) (rfl) dX12_keep_45 ?_
              refine j_iload_n C dX12_keep_48 rfl (lv_at hl 1 rfl) ?_
              refine j_aload_n C dX12_keep_49 rfl (lv_at hl 0 rfl) ?_
              refine j_getR (k := 0) (k2 := 9) C (f_RX12_34_12) (ml (by decide)) (rfl) (rfl) dX12_keep_50 ?_
              refine j_iload_n C dX12_keep_53 rfl (lv_at hl 1 rfl) ?_
              refine j_ialdE (k := 9) (n := 32) (t := m9) C (ml (by decide)) (rfl) (rfl) (rfl) (by omega) (by decide) dX12_keep_54 ?_
              refine j_iastE (k := 14) (n := 32) (t := m9) C (ml (by decide)) (rfl) (rfl) (rfl) (by omega) (by decide) dX12_keep_55 (fun V2 eV2 => ?_)
              refine j_aload_n C dX12_keep_56 rfl (lv_at hl 0 rfl) ?_
              refine j_getR (k := 0) (k2 := 15) C (f_RX12_52_12) (ml (by decide)) (rfl) (rfl) dX12_keep_57 ?_
              refine j_iload_n C dX12_keep_60 rfl (lv_at hl 1 rfl) ?_
              refine j_aload_n C dX12_keep_61 rfl (lv_at hl 0 rfl) ?_
              refine j_getR (k := 0) (k2 := 10) C (f_RX12_37_12) (ml (by decide)) (rfl) (rfl) dX12_keep_62 ?_
              refine j_iload_n C dX12_keep_65 rfl (lv_at hl 1 rfl) ?_
              refine j_ialdE (k := 10) (n := 32) (t := m9) C (ml (by decide)) (rfl) (rfl) (rfl) (by omega) (by decide) dX12_keep_66 ?_
              refine j_iastE (k := 15) (n := 32) (t := m9) C (ml (by decide)) (rfl) (rfl) (rfl) (by omega) (by decide) dX12_keep_67 (fun V3 eV3 => ?_)
              refine j_iinc (v := nI (m9 + 1)) (lv2 := [(1, .int (nI (m9 + 1))), (0, .ref (ad (0)))]) C dX12_keep_68 hl (k0 := 1) rfl (nI_1 _) (by decide) rfl (fun ls hl => ?_)
              refine j_goto (tgt := 38) C dX12_keep_71 (by decide) ?_
              exact ih_loop2 (m9 + 1) V3 (by omega) (by rw [eV3, eV2, hV2, kpM_m]) (by omega) ls (lv_sub hl [1, 0] rfl)
        exact loop2 33 0 Vi (by omega) (by rw [hV, e9]) (by omega) ls (lv_sub hl [1, 0] rfl)
      · have n_1_ := Int32.not_le.mp c_1_
        have q1 := cNe ((by rw [hV]; exact hG : Vi 0 6 = nI ng)) (rfl) (by omega) (by omega) c_1_
        refine j_aload_n C dX12_keep_18 rfl (lv_at hl 0 rfl) ?_
        refine j_getR (k := 0) (k2 := 13) C (f_RX12_46_12) (ml (by decide)) (rfl) (rfl) dX12_keep_19 ?_
        refine j_iload_n C dX12_keep_22 rfl (lv_at hl 1 rfl) ?_
        refine j_aload_n C dX12_keep_23 rfl (lv_at hl 0 rfl) ?_
        refine j_getR (k := 0) (k2 := 8) C (f_RX12_31_12) (ml (by decide)) (rfl) (rfl) dX12_keep_24 ?_
        refine j_iload_n C dX12_keep_27 rfl (lv_at hl 1 rfl) ?_
        refine j_ialdE (k := 8) (n := 4) (t := n) C (ml (by decide)) (rfl) (rfl) (rfl) (by omega) (by decide) dX12_keep_28 ?_
        refine j_iastE (k := 13) (n := 4) (t := n) C (ml (by decide)) (rfl) (rfl) (rfl) (by omega) (by decide) dX12_keep_29 (fun V4 eV4 => ?_)
        refine j_iinc (v := nI (n + 1)) (lv2 := [(1, .int (nI (n + 1))), (0, .ref (ad (0)))]) C dX12_keep_30 hl (k0 := 1) rfl (nI_1 _) (by decide) rfl (fun ls hl => ?_)
        refine j_goto (tgt := 10) C dX12_keep_33 (by decide) ?_
        exact ih_loop (n + 1) V4 (by omega) (by rw [eV4, hV, kpM_n]) (by omega) ls (lv_sub hl [1, 0] rfl)
  exact loop (ng + 1) 0 V1 (by omega) (by rw [eV1, kpM_0]) (by omega) ls (lv_sub hl [1, 0] rfl)
def pbM (V : Vt) (n m : Nat) : Vt := fun a j => if a = 0 ∧ j = 5 then V 0 21 else if a = 8 ∧ j < n then V 13 j else if a = 9 ∧ j < m then V 14 j else if a = 10 ∧ j < m then V 15 j else V a j
theorem pbM_0 (V : Vt) : up2 V 0 5 (V 0 21) = pbM V 0 0 := by
  funext a j
  unfold up2 pbM
  by_cases h : a = 0 ∧ j = 5
  · rw [if_pos h, if_pos h]
  · rw [if_neg h, if_neg h, if_neg (by omega), if_neg (by omega), if_neg (by omega)]
theorem pbM_n (V : Vt) (n : Nat) : up2 (pbM V n 0) 8 n (pbM V n 0 13 n) = pbM V (n + 1) 0 := by
  funext a j
  have e0 : pbM V n 0 13 n = V 13 n := by unfold pbM; rw [if_neg (by omega), if_neg (by omega), if_neg (by omega), if_neg (by omega)]
  rw [e0]
  unfold up2
  by_cases h : a = 8 ∧ j = n
  · rw [if_pos h, h.1, h.2]
    unfold pbM
    rw [if_neg (by omega), if_pos (by omega)]
  · rw [if_neg h]
    unfold pbM
    have e : (a = 8 ∧ j < n) ↔ (a = 8 ∧ j < n + 1) := by omega
    simp only [e]
theorem pbM_m (V : Vt) (n m : Nat) : up2 (up2 (pbM V n m) 9 m (pbM V n m 14 m)) 10 m (up2 (pbM V n m) 9 m (pbM V n m 14 m) 15 m) = pbM V n (m + 1) := by
  funext a j
  have e0 : pbM V n m 14 m = V 14 m := by unfold pbM; rw [if_neg (by omega), if_neg (by omega), if_neg (by omega), if_neg (by omega)]
  have e1 : up2 (pbM V n m) 9 m (pbM V n m 14 m) 15 m = V 15 m := by rw [up2_k _ _ (by decide)]; unfold pbM; rw [if_neg (by omega), if_neg (by omega), if_neg (by omega), if_neg (by omega)]
  rw [e1, e0]
  unfold up2
  by_cases h : a = 10 ∧ j = m
  · rw [if_pos h, h.1, h.2]
    unfold pbM
    rw [if_neg (by omega), if_neg (by omega), if_neg (by omega), if_pos (by omega)]
  · rw [if_neg h]
    by_cases h_2_ : a = 9 ∧ j = m
    · rw [if_pos h_2_, h_2_.1, h_2_.2]
      unfold pbM
      rw [if_neg (by omega), if_neg (by omega), if_pos (by omega)]
    · rw [if_neg h_2_]
      unfold pbM
      have e : (a = 9 ∧ j < m) ↔ (a = 9 ∧ j < m + 1) := by omega
      have e2 : (a = 10 ∧ j < m) ↔ (a = 10 ∧ j < m + 1) := by omega
      simp only [e, e2]
abbrev rm_X12_putBack : Room := { frames := 0, cells := 0, slots := 0, locals := 0 }
set_option maxHeartbeats 4000000 in
set_option maxRecDepth 100000 in
theorem k_X12_putBack (l : Launch) (ad : Nat → Nat) (V : Vt) (ng : Nat) (hG : V 0 6 = nI ng) (ng4 : ng ≤ 4)  : Ct l yX12_putBack cX12_putBack 2 none rm_X12_putBack (mS ad) V [.ref (ad (0))] (rU fun V2 => V2 = pbM V ng 32) := by
  refine Ct_of (by decide) (Nat.le_of_ble_eq_true rfl) ?_
  intro p e s m below meth c A D cy ls C hl
  have hl : lv_has ls 2 [(0, .ref (ad (0)))] := hl
  refine j_aload_n C dX12_putBack_0 rfl (lv_at hl 0 rfl) ?_
  refine j_aload_n C dX12_putBack_1 rfl (lv_at hl 0 rfl) ?_
  refine j_getI (k := 0) C (f_RX12_186_12) (ml (by decide)) (rfl) dX12_putBack_2 ?_
  refine j_putI (k := 0) C (f_RX12_126_12) p_12_5 (ml (by decide)) (rfl) dX12_putBack_5 (fun V1 eV1 => ?_)
  refine j_iconst (v := 0) C dX12_putBack_8 (by decide) ?_
  refine j_istore_n (lv2 := [(1, .int (0)), (0, .ref (ad (0)))]) C dX12_putBack_9 rfl hl (by decide) rfl (fun ls hl => ?_)
  have loop : ∀ (n_9_ : Nat) (n : Nat) (Vi : Vt), n ≤ ng → Vi = pbM V n 0 → ng - n < n_9_ → ∀ (ls : Array Slot), lv_has ls 2 [(0, .ref (ad (0))), (1, .int (nI n))] → J p l e rm_X12_putBack s m [.ref (ad (0))].toArray below meth c A D cy 0 0 (MQ below (gPost D cy A (fun o9 σ2 V2 => σ2 = mS ad ∧ (rU fun V2 => V2 = pbM V ng 32) o9 V2)) [.ref (ad (0))].toArray s 0 0 A) (mS ad) Vi (F0 m 10 ls []) := by
    intro n_9_
    induction n_9_ with
    | zero =>
      intro n Vi hi hV hm
      exact absurd hm (by omega)
    | succ n_9_ ih_loop =>
      intro n Vi hi hV hm ls hl
      refine j_iload_n C dX12_putBack_10 rfl (lv_at hl 1 rfl) ?_
      refine j_aload_n C dX12_putBack_11 rfl (lv_at hl 0 rfl) ?_
      refine j_getI (k := 0) C (f_RX12_89_12) (ml (by decide)) (rfl) dX12_putBack_12 ?_
      refine j_icmp_ge (tgt := 36) C dX12_putBack_15 (by decide) (fun c_1_ => ?_) (fun c_1_ => ?_)
      · have n_1_ := Int32.not_lt.mpr c_1_
        have q1 := cLe ((by rw [hV]; exact hG : Vi 0 6 = nI ng)) (rfl) (by omega) (by omega) c_1_
        have e9 : n = ng := by omega
        refine j_iconst (v := 0) C dX12_putBack_36 (by decide) ?_
        refine j_istore_n (lv2 := [(1, .int (0)), (0, .ref (ad (0)))]) C dX12_putBack_37 rfl hl (by decide) rfl (fun ls hl => ?_)
        have loop2 : ∀ (n_9_ : Nat) (m9 : Nat) (Vj : Vt), m9 ≤ 32 → Vj = pbM V ng m9 → 32 - m9 < n_9_ → ∀ (ls : Array Slot), lv_has ls 2 [(0, .ref (ad (0))), (1, .int (nI m9))] → J p l e rm_X12_putBack s m [.ref (ad (0))].toArray below meth c A D cy 0 0 (MQ below (gPost D cy A (fun o9 σ2 V2 => σ2 = mS ad ∧ (rU fun V2 => V2 = pbM V ng 32) o9 V2)) [.ref (ad (0))].toArray s 0 0 A) (mS ad) Vj (F0 m 38 ls []) := by
          intro n_9_
          induction n_9_ with
          | zero =>
            intro m9 Vj hi2 hV2 hm
            exact absurd hm (by omega)
          | succ n_9_ ih_loop2 =>
            intro m9 Vj hi2 hV2 hm ls hl
            refine j_iload_n C dX12_putBack_38 rfl (lv_at hl 1 rfl) ?_
            refine j_bipush (v := 32) C dX12_putBack_39 (by decide) ?_
            refine j_icmp_ge (tgt := 74) C dX12_putBack_41 (by decide) (fun c_2_ => ?_) (fun c_2_ => ?_)
            · have n_2_ := Int32.not_lt.mpr c_2_
              have q2 := cLe (show (32 : Int32) = nI 32 from rfl) (rfl) (by omega) (by omega) c_2_
              refine j_vret C ⟨rfl, rfl, ?_⟩ dX12_putBack_74
              obtain rfl : m9 = 32 := by omega
              exact hV2
            · have n_2_ := Int32.not_le.mp c_2_
              have q2 := cNe (show (32 : Int32) = nI 32 from rfl) (rfl) (by omega) (by omega) c_2_
              refine j_aload_n C dX12_putBack_44 rfl (lv_at hl 0 rfl) ?_
              refine j_getR (k := 0) (k2 := 9) C (f_RX12_34_12) (ml (by decide)) (rfl) (rfl) dX12_putBack_45 ?_
              refine j_iload_n C dX12_putBack_48 rfl (lv_at hl 1 rfl) ?_
              refine j_aload_n C dX12_putBack_49 rfl (lv_at hl 0 rfl) ?_
              refine j_getR (k := 0) (k2 := 14) C (f_RX12_49_12) (ml (by decide)) (rfl) (rfl) dX12_putBack_50 ?_
              refine j_iload_n C dX12_putBack_53 rfl (lv_at hl 1 rfl) ?_
              refine j_ialdE (k := 14) (n := 32) (t := m9) C (ml (by decide)) (rfl) (rfl) (rfl) (by omega) (by decide) dX12_putBack_54 ?_
              refine j_iastE (k := 9) (n := 32) (t := m9) C (ml (by decide)) (rfl) (rfl) (rfl) (by omega) (by decide) dX12_putBack_55 (fun V2 eV2 => ?_)
              refine j_aload_n C dX12_putBack_56 rfl (lv_at hl 0 rfl) ?_
              refine j_getR (k := 0) (k2 := 10) C (f_RX12_37_12) (ml (by decide)) (rfl) (rfl) dX12_putBack_57 ?_
              refine j_iload_n C dX12_putBack_60 rfl (lv_at hl 1 rfl) ?_
              refine j_aload_n C dX12_putBack_61 rfl (lv_at hl 0 rfl) ?_
              refine j_getR (k := 0) (k2 := 15) C (f_RX12_52_12) (ml (by decide)) (rfl) (rfl) dX12_putBack_62 ?_
              refine j_iload_n C dX12_putBack_65 rfl (lv_at hl 1 rfl) ?_
              refine j_ialdE (k := 15) (n := 32) (t := m9) C (ml (by decide)) (rfl) (rfl) (rfl) (by omega) (by decide) dX12_putBack_66 ?_
              refine j_iastE (k := 10) (n := 32) (t := m9) C (ml (by decide)) (rfl) (rfl) (rfl) (by omega) (by decide) dX12_putBack_67 (fun V3 eV3 => ?_)
              refine j_iinc (v := nI (m9 + 1)) (lv2 := [(1, .int (nI (m9 + 1))), (0, .ref (ad (0)))]) C dX12_putBack_68 hl (k0 := 1) rfl (nI_1 _) (by decide) rfl (fun ls hl => ?_)
              refine j_goto (tgt := 38) C dX12_putBack_71 (by decide) ?_
              exact ih_loop2 (m9 + 1) V3 (by omega) (by rw [eV3, eV2, hV2, pbM_m]) (by omega) ls (lv_sub hl [1, 0] rfl)
        exact loop2 33 0 Vi (by omega) (by rw [hV, e9]) (by omega) ls (lv_sub hl [1, 0] rfl)
      · have n_1_ := Int32.not_le.mp c_1_
        have q1 := cNe ((by rw [hV]; exact hG : Vi 0 6 = nI ng)) (rfl) (by omega) (by omega) c_1_
        refine j_aload_n C dX12_putBack_18 rfl (lv_at hl 0 rfl) ?_
        refine j_getR (k := 0) (k2 := 8) C (f_RX12_31_12) (ml (by decide)) (rfl) (rfl) dX12_putBack_19 ?_
        refine j_iload_n C dX12_putBack_22 rfl (lv_at hl 1 rfl) ?_
        refine j_aload_n C dX12_putBack_23 rfl (lv_at hl 0 rfl) ?_
        refine j_getR (k := 0) (k2 := 13) C (f_RX12_46_12) (ml (by decide)) (rfl) (rfl) dX12_putBack_24 ?_
        refine j_iload_n C dX12_putBack_27 rfl (lv_at hl 1 rfl) ?_
        refine j_ialdE (k := 13) (n := 4) (t := n) C (ml (by decide)) (rfl) (rfl) (rfl) (by omega) (by decide) dX12_putBack_28 ?_
        refine j_iastE (k := 8) (n := 4) (t := n) C (ml (by decide)) (rfl) (rfl) (rfl) (by omega) (by decide) dX12_putBack_29 (fun V4 eV4 => ?_)
        refine j_iinc (v := nI (n + 1)) (lv2 := [(1, .int (nI (n + 1))), (0, .ref (ad (0)))]) C dX12_putBack_30 hl (k0 := 1) rfl (nI_1 _) (by decide) rfl (fun ls hl => ?_)
        refine j_goto (tgt := 10) C dX12_putBack_33 (by decide) ?_
        exact ih_loop (n + 1) V4 (by omega) (by rw [eV4, hV, pbM_n]) (by omega) ls (lv_sub hl [1, 0] rfl)
  exact loop (ng + 1) 0 V1 (by omega) (by rw [eV1, pbM_0]) (by omega) ls (lv_sub hl [1, 0] rfl)
theorem w1011 {b : Int32} : (10 ≤ b ∧ b ≤ 11) ↔ (b = 10 ∨ b = 11) := by
  have t10 : (10 : Int32).toInt = 10 := by decide
  have t11 : (11 : Int32).toInt = 11 := by decide
  rw [Int32.le_iff_toInt_le, Int32.le_iff_toInt_le, ← Int32.toInt_inj, ← Int32.toInt_inj, t10, t11]
  omega
abbrev rm_X12_refusesPair : Room := { frames := 1, cells := 0, slots := 0, locals := 22 }
set_option maxHeartbeats 4000000 in
set_option maxRecDepth 100000 in
theorem k_X12_refusesPair (l : Launch) (ad : Nat → Nat) (V : Vt) (z0 z1 : Int32) (nt : Nat) (hT : V 0 7 = nI nt) (nt5 : nt ≤ 5)  : Ct l yX12_refusesPair cX12_refusesPair 4 (some .int) rm_X12_refusesPair (mS ad) V [.ref (ad (0)), .int (z0), .int (z1)] (rI fun x V2 => V2 = V ∧ x = rfI nt z0 z1) := by
  refine Ct_of (by decide) (Nat.le_of_ble_eq_true rfl) ?_
  intro p e s m below meth c A D cy ls C hl
  have hl : lv_has ls 4 [(0, .ref (ad (0))), (1, .int (z0)), (2, .int (z1))] := hl
  refine j_iload_n C dX12_refusesPair_0 rfl (lv_at hl 2 rfl) ?_
  refine j_bipush (v := 10) C dX12_refusesPair_1 (by decide) ?_
  refine j_bipush (v := 11) C dX12_refusesPair_3 (by decide) ?_
  refine j_callS C [.int (z1), .int (10), .int (11)] [] (k_X12_within l (mS ad) V (z1) (10) (11)  ) v_RX12_85 ⟨rfl, rfl, Nat.le_of_ble_eq_true rfl, Nat.le_of_ble_eq_true rfl⟩ rfl hl.1 rfl (Nat.le_of_ble_eq_true rfl) ⟨Nat.le_of_ble_eq_true rfl, Nat.le_of_ble_eq_true rfl⟩ dX12_refusesPair_5 (kI fun x_1_ U1 h_1_ => ?_)
  obtain ⟨eU1, h_1_⟩ := h_1_
  have eU1 := eU1.symm
  subst eU1
  refine j_istore_n (lv2 := [(3, .int (x_1_)), (0, .ref (ad (0))), (1, .int (z0)), (2, .int (z1))]) C dX12_refusesPair_8 rfl hl (by decide) rfl (fun ls hl => ?_)
  refine j_iload_n C dX12_refusesPair_9 rfl (lv_at hl 3 rfl) ?_
  refine j_iconst (v := 0) C dX12_refusesPair_10 (by decide) ?_
  refine j_iconst (v := 3) C dX12_refusesPair_11 (by decide) ?_
  refine j_callS C [.int (z1), .int (0), .int (3)] [] (k_X12_within l (mS ad) V (z1) (0) (3)  ) v_RX12_85 ⟨rfl, rfl, Nat.le_of_ble_eq_true rfl, Nat.le_of_ble_eq_true rfl⟩ rfl hl.1 rfl (Nat.le_of_ble_eq_true rfl) ⟨Nat.le_of_ble_eq_true rfl, Nat.le_of_ble_eq_true rfl⟩ dX12_refusesPair_12 (kI fun x_2_ U2 h_2_ => ?_)
  obtain ⟨eU2, h_2_⟩ := h_2_
  have eU2 := eU2.symm
  subst eU2
  refine j_if_ne (tgt := 22) C dX12_refusesPair_15 (by decide) (fun c_3_ => ?_) (fun c_3_ => ?_)
  · skip
    have b3 := Decidable.not_not.mp (mt bI_0.mpr (h_2_ ▸ c_3_))
    refine j_iload_n C dX12_refusesPair_22 rfl (lv_at hl 0 rfl) ?_
    refine j_if_eq (tgt := 38) C dX12_refusesPair_23 (by decide) (fun c_4_ => ?_) (fun c_4_ => ?_)
    · skip
      have b4 := bI_0.mp (h_1_ ▸ c_4_)
      refine j_iload_n C dX12_refusesPair_38 rfl (lv_at hl 0 rfl) ?_
      refine j_if_ne (tgt := 54) C dX12_refusesPair_39 (by decide) (fun c_5_ => ?_) (fun c_5_ => ?_)
      · skip
        have b5 := Decidable.not_not.mp (mt bI_0.mpr (h_1_ ▸ c_5_))
        refine j_iconst (v := 0) C dX12_refusesPair_54 (by decide) ?_
        refine j_iret C ⟨rfl, _, rfl, ?_⟩ dX12_refusesPair_55
        exact absurd b5 b4
      · skip
        have b5 := bI_0.mp (h_1_ ▸ c_5_)
        refine j_aload_n C dX12_refusesPair_42 rfl (lv_at hl 1 rfl) ?_
        refine j_iload_n C dX12_refusesPair_43 rfl (lv_at hl 2 rfl) ?_
        refine j_callV (k := 0) C [.int (z0)] [] (k_X12_isThrower l ad V (z0)  nt hT nt5) v_RX12_170 (ml (by decide)) (rfl) rfl ⟨rfl, rfl, Nat.le_of_ble_eq_true rfl, Nat.le_of_ble_eq_true rfl⟩ rfl hl.1 rfl (Nat.le_of_ble_eq_true rfl) ⟨Nat.le_of_ble_eq_true rfl, Nat.le_of_ble_eq_true rfl⟩ dX12_refusesPair_44 (kI fun x_6_ U6 h_6_ => ?_)
        obtain ⟨eU6, h_6_⟩ := h_6_
        have eU6 := eU6.symm
        subst eU6
        rcases h_6_ with ⟨j_6_, hj6, ej6, ex6⟩ | ⟨ho6, ex6⟩
        · subst ex6
          refine j_if_ne (tgt := 54) C dX12_refusesPair_47 (by decide) (fun c_7_ => ?_) (fun c_7_ => ?_)
          · skip
            refine j_iconst (v := 0) C dX12_refusesPair_54 (by decide) ?_
            refine j_iret C ⟨rfl, _, rfl, ?_⟩ dX12_refusesPair_55
            refine ⟨rfl, ?_⟩
            unfold rfI
            rw [if_neg (fun q => b4 (w1011.mpr q)), if_pos b3, if_pos (inz ej6 hj6 (by omega)).1]
          · exact absurd c_7_ (by decide)
        · subst ex6
          refine j_if_ne (tgt := 54) C dX12_refusesPair_47 (by decide) (fun c_8_ => ?_) (fun c_8_ => ?_)
          · exact absurd rfl c_8_
          · skip
            refine j_iconst (v := (-1)) C dX12_refusesPair_50 (by decide) ?_
            refine j_goto (tgt := 55) C dX12_refusesPair_51 (by decide) ?_
            refine j_iret C ⟨rfl, _, rfl, ?_⟩ dX12_refusesPair_55
            refine ⟨rfl, ?_⟩
            unfold rfI
            rw [if_neg (fun q => b4 (w1011.mpr q)), if_pos b3, if_neg (outR ho6)]
    · skip
      have b4 := Decidable.not_not.mp (mt bI_0.mpr (h_1_ ▸ c_4_))
      refine j_iload_n C dX12_refusesPair_26 rfl (lv_at hl 2 rfl) ?_
      refine j_iconst (v := 0) C dX12_refusesPair_27 (by decide) ?_
      refine j_iconst (v := 3) C dX12_refusesPair_28 (by decide) ?_
      refine j_callS C [.int (z0), .int (0), .int (3)] [] (k_X12_within l (mS ad) V (z0) (0) (3)  ) v_RX12_85 ⟨rfl, rfl, Nat.le_of_ble_eq_true rfl, Nat.le_of_ble_eq_true rfl⟩ rfl hl.1 rfl (Nat.le_of_ble_eq_true rfl) ⟨Nat.le_of_ble_eq_true rfl, Nat.le_of_ble_eq_true rfl⟩ dX12_refusesPair_29 (kI fun x_9_ U9 h_9_ => ?_)
      obtain ⟨eU9, h_9_⟩ := h_9_
      have eU9 := eU9.symm
      subst eU9
      refine j_if_ne (tgt := 38) C dX12_refusesPair_32 (by decide) (fun c_10_ => ?_) (fun c_10_ => ?_)
      · skip
        have b10 := Decidable.not_not.mp (mt bI_0.mpr (h_9_ ▸ c_10_))
        refine j_iload_n C dX12_refusesPair_38 rfl (lv_at hl 0 rfl) ?_
        refine j_if_ne (tgt := 54) C dX12_refusesPair_39 (by decide) (fun c_11_ => ?_) (fun c_11_ => ?_)
        · skip
          have b11 := Decidable.not_not.mp (mt bI_0.mpr (h_1_ ▸ c_11_))
          refine j_iconst (v := 0) C dX12_refusesPair_54 (by decide) ?_
          refine j_iret C ⟨rfl, _, rfl, ?_⟩ dX12_refusesPair_55
          refine ⟨rfl, ?_⟩
          unfold rfI
          rw [if_pos (w1011.mp b4), if_pos b10]
        · skip
          have b11 := bI_0.mp (h_1_ ▸ c_11_)
          refine j_aload_n C dX12_refusesPair_42 rfl (lv_at hl 1 rfl) ?_
          refine j_iload_n C dX12_refusesPair_43 rfl (lv_at hl 2 rfl) ?_
          refine j_callV (k := 0) C [.int (z0)] [] (k_X12_isThrower l ad V (z0)  nt hT nt5) v_RX12_170 (ml (by decide)) (rfl) rfl ⟨rfl, rfl, Nat.le_of_ble_eq_true rfl, Nat.le_of_ble_eq_true rfl⟩ rfl hl.1 rfl (Nat.le_of_ble_eq_true rfl) ⟨Nat.le_of_ble_eq_true rfl, Nat.le_of_ble_eq_true rfl⟩ dX12_refusesPair_44 (kI fun x_12_ U12 h_12_ => ?_)
          obtain ⟨eU12, h_12_⟩ := h_12_
          have eU12 := eU12.symm
          subst eU12
          rcases h_12_ with ⟨j_12_, hj12, ej12, ex12⟩ | ⟨ho12, ex12⟩
          · subst ex12
            refine j_if_ne (tgt := 54) C dX12_refusesPair_47 (by decide) (fun c_13_ => ?_) (fun c_13_ => ?_)
            · skip
              refine j_iconst (v := 0) C dX12_refusesPair_54 (by decide) ?_
              refine j_iret C ⟨rfl, _, rfl, ?_⟩ dX12_refusesPair_55
              exact absurd b4 b11
            · exact absurd c_13_ (by decide)
          · subst ex12
            refine j_if_ne (tgt := 54) C dX12_refusesPair_47 (by decide) (fun c_14_ => ?_) (fun c_14_ => ?_)
            · exact absurd rfl c_14_
            · skip
              refine j_iconst (v := (-1)) C dX12_refusesPair_50 (by decide) ?_
              refine j_goto (tgt := 55) C dX12_refusesPair_51 (by decide) ?_
              refine j_iret C ⟨rfl, _, rfl, ?_⟩ dX12_refusesPair_55
              exact absurd b4 b11
      · skip
        have b10 := bI_0.mp (h_9_ ▸ c_10_)
        refine j_bipush (v := (-2)) C dX12_refusesPair_35 (by decide) ?_
        refine j_iret C ⟨rfl, _, rfl, ?_⟩ dX12_refusesPair_37
        refine ⟨rfl, ?_⟩
        unfold rfI
        rw [if_pos (w1011.mp b4), if_neg b10]
  · skip
    have b3 := bI_0.mp (h_2_ ▸ c_3_)
    refine j_iload_n C dX12_refusesPair_18 rfl (lv_at hl 0 rfl) ?_
    refine j_if_eq (tgt := 35) C dX12_refusesPair_19 (by decide) (fun c_15_ => ?_) (fun c_15_ => ?_)
    · skip
      have b15 := bI_0.mp (h_1_ ▸ c_15_)
      refine j_bipush (v := (-2)) C dX12_refusesPair_35 (by decide) ?_
      refine j_iret C ⟨rfl, _, rfl, ?_⟩ dX12_refusesPair_37
      refine ⟨rfl, ?_⟩
      unfold rfI
      rw [if_neg (fun q => b15 (w1011.mpr q)), if_neg b3]
    · skip
      have b15 := Decidable.not_not.mp (mt bI_0.mpr (h_1_ ▸ c_15_))
      refine j_iload_n C dX12_refusesPair_22 rfl (lv_at hl 0 rfl) ?_
      refine j_if_eq (tgt := 38) C dX12_refusesPair_23 (by decide) (fun c_16_ => ?_) (fun c_16_ => ?_)
      · skip
        have b16 := bI_0.mp (h_1_ ▸ c_16_)
        refine j_iload_n C dX12_refusesPair_38 rfl (lv_at hl 0 rfl) ?_
        refine j_if_ne (tgt := 54) C dX12_refusesPair_39 (by decide) (fun c_17_ => ?_) (fun c_17_ => ?_)
        · skip
          have b17 := Decidable.not_not.mp (mt bI_0.mpr (h_1_ ▸ c_17_))
          refine j_iconst (v := 0) C dX12_refusesPair_54 (by decide) ?_
          refine j_iret C ⟨rfl, _, rfl, ?_⟩ dX12_refusesPair_55
          exact absurd b15 b16
        · skip
          have b17 := bI_0.mp (h_1_ ▸ c_17_)
          refine j_aload_n C dX12_refusesPair_42 rfl (lv_at hl 1 rfl) ?_
          refine j_iload_n C dX12_refusesPair_43 rfl (lv_at hl 2 rfl) ?_
          refine j_callV (k := 0) C [.int (z0)] [] (k_X12_isThrower l ad V (z0)  nt hT nt5) v_RX12_170 (ml (by decide)) (rfl) rfl ⟨rfl, rfl, Nat.le_of_ble_eq_true rfl, Nat.le_of_ble_eq_true rfl⟩ rfl hl.1 rfl (Nat.le_of_ble_eq_true rfl) ⟨Nat.le_of_ble_eq_true rfl, Nat.le_of_ble_eq_true rfl⟩ dX12_refusesPair_44 (kI fun x_18_ U18 h_18_ => ?_)
          obtain ⟨eU18, h_18_⟩ := h_18_
          have eU18 := eU18.symm
          subst eU18
          rcases h_18_ with ⟨j_18_, hj18, ej18, ex18⟩ | ⟨ho18, ex18⟩
          · subst ex18
            refine j_if_ne (tgt := 54) C dX12_refusesPair_47 (by decide) (fun c_19_ => ?_) (fun c_19_ => ?_)
            · skip
              refine j_iconst (v := 0) C dX12_refusesPair_54 (by decide) ?_
              refine j_iret C ⟨rfl, _, rfl, ?_⟩ dX12_refusesPair_55
              exact absurd b15 b16
            · exact absurd c_19_ (by decide)
          · subst ex18
            refine j_if_ne (tgt := 54) C dX12_refusesPair_47 (by decide) (fun c_20_ => ?_) (fun c_20_ => ?_)
            · exact absurd rfl c_20_
            · skip
              refine j_iconst (v := (-1)) C dX12_refusesPair_50 (by decide) ?_
              refine j_goto (tgt := 55) C dX12_refusesPair_51 (by decide) ?_
              refine j_iret C ⟨rfl, _, rfl, ?_⟩ dX12_refusesPair_55
              exact absurd b15 b16
      · skip
        have b16 := Decidable.not_not.mp (mt bI_0.mpr (h_1_ ▸ c_16_))
        refine j_iload_n C dX12_refusesPair_26 rfl (lv_at hl 2 rfl) ?_
        refine j_iconst (v := 0) C dX12_refusesPair_27 (by decide) ?_
        refine j_iconst (v := 3) C dX12_refusesPair_28 (by decide) ?_
        refine j_callS C [.int (z0), .int (0), .int (3)] [] (k_X12_within l (mS ad) V (z0) (0) (3)  ) v_RX12_85 ⟨rfl, rfl, Nat.le_of_ble_eq_true rfl, Nat.le_of_ble_eq_true rfl⟩ rfl hl.1 rfl (Nat.le_of_ble_eq_true rfl) ⟨Nat.le_of_ble_eq_true rfl, Nat.le_of_ble_eq_true rfl⟩ dX12_refusesPair_29 (kI fun x_21_ U21 h_21_ => ?_)
        obtain ⟨eU21, h_21_⟩ := h_21_
        have eU21 := eU21.symm
        subst eU21
        refine j_if_ne (tgt := 38) C dX12_refusesPair_32 (by decide) (fun c_22_ => ?_) (fun c_22_ => ?_)
        · skip
          have b22 := Decidable.not_not.mp (mt bI_0.mpr (h_21_ ▸ c_22_))
          refine j_iload_n C dX12_refusesPair_38 rfl (lv_at hl 0 rfl) ?_
          refine j_if_ne (tgt := 54) C dX12_refusesPair_39 (by decide) (fun c_23_ => ?_) (fun c_23_ => ?_)
          · skip
            have b23 := Decidable.not_not.mp (mt bI_0.mpr (h_1_ ▸ c_23_))
            refine j_iconst (v := 0) C dX12_refusesPair_54 (by decide) ?_
            refine j_iret C ⟨rfl, _, rfl, ?_⟩ dX12_refusesPair_55
            refine ⟨rfl, ?_⟩
            unfold rfI
            rw [if_pos (w1011.mp b15), if_pos b22]
          · skip
            have b23 := bI_0.mp (h_1_ ▸ c_23_)
            refine j_aload_n C dX12_refusesPair_42 rfl (lv_at hl 1 rfl) ?_
            refine j_iload_n C dX12_refusesPair_43 rfl (lv_at hl 2 rfl) ?_
            refine j_callV (k := 0) C [.int (z0)] [] (k_X12_isThrower l ad V (z0)  nt hT nt5) v_RX12_170 (ml (by decide)) (rfl) rfl ⟨rfl, rfl, Nat.le_of_ble_eq_true rfl, Nat.le_of_ble_eq_true rfl⟩ rfl hl.1 rfl (Nat.le_of_ble_eq_true rfl) ⟨Nat.le_of_ble_eq_true rfl, Nat.le_of_ble_eq_true rfl⟩ dX12_refusesPair_44 (kI fun x_24_ U24 h_24_ => ?_)
            obtain ⟨eU24, h_24_⟩ := h_24_
            have eU24 := eU24.symm
            subst eU24
            rcases h_24_ with ⟨j_24_, hj24, ej24, ex24⟩ | ⟨ho24, ex24⟩
            · subst ex24
              refine j_if_ne (tgt := 54) C dX12_refusesPair_47 (by decide) (fun c_25_ => ?_) (fun c_25_ => ?_)
              · skip
                refine j_iconst (v := 0) C dX12_refusesPair_54 (by decide) ?_
                refine j_iret C ⟨rfl, _, rfl, ?_⟩ dX12_refusesPair_55
                exact absurd b15 b23
              · exact absurd c_25_ (by decide)
            · subst ex24
              refine j_if_ne (tgt := 54) C dX12_refusesPair_47 (by decide) (fun c_26_ => ?_) (fun c_26_ => ?_)
              · exact absurd rfl c_26_
              · skip
                refine j_iconst (v := (-1)) C dX12_refusesPair_50 (by decide) ?_
                refine j_goto (tgt := 55) C dX12_refusesPair_51 (by decide) ?_
                refine j_iret C ⟨rfl, _, rfl, ?_⟩ dX12_refusesPair_55
                exact absurd b15 b23
        · skip
          have b22 := bI_0.mp (h_21_ ▸ c_22_)
          refine j_bipush (v := (-2)) C dX12_refusesPair_35 (by decide) ?_
          refine j_iret C ⟨rfl, _, rfl, ?_⟩ dX12_refusesPair_37
          refine ⟨rfl, ?_⟩
          unfold rfI
          rw [if_pos (w1011.mp b15), if_neg b22]
/-- the reference's feast is F, but for the ringers -/
def feM0 (V : Vt) (ng nt : Nat) (rc ys ls : Nat → Int32) (F : Fs) : Prop := V 0 5 = F.1 ∧ V 0 6 = nI ng ∧ ng ≤ 4 ∧ (∀ g, g < ng → V 4 g = ys g ∧ V 5 g = ls g ∧ V 8 g = nI (F.2.1 g) ∧ F.2.1 g ≤ 8 ∧ ∀ j, j < F.2.1 g → mW V g j = F.2.2.1 g j ∧ mM V g j = F.2.2.2.1 g j) ∧ V 0 7 = nI nt ∧ nt ≤ 5 ∧ ∀ t, t < nt → rchM (V 6 t) (V 7 t) = rc t
def feM (V : Vt) (ng nt : Nat) (rc ys ls : Nat → Int32) (F : Fs) : Prop := feM0 V ng nt rc ys ls F ∧ V 0 25 = F.2.2.2.2.1 ∧ V 0 26 = F.2.2.2.2.2
def frM (ng : Nat) (V V2 : Vt) : Prop := ∀ a j, (a = 8 → ng ≤ j) → a ≠ 9 → a ≠ 10 → ¬ (a = 0 ∧ (j = 5 ∨ j = 25 ∨ j = 26)) → V2 a j = V a j
theorem frM.rf {ng : Nat} {V : Vt} : frM ng V V := fun _ _ _ _ _ _ => rfl
theorem frM.tr {ng : Nat} {V V2 V3 : Vt} (h : frM ng V V2) (h_2_ : frM ng V2 V3) : frM ng V V3 := fun a j p q r s => (h_2_ a j p q r s).trans (h a j p q r s)
theorem frM.up {ng a i : Nat} {V : Vt} {x : Int32} (h : (a = 8 ∧ i < ng) ∨ a = 9 ∨ a = 10 ∨ (a = 0 ∧ (i = 5 ∨ i = 25 ∨ i = 26))) : frM ng V (up2 V a i x) := fun b j p q r s => by
  unfold up2
  rw [if_neg (fun z => by
    obtain ⟨rfl, rfl⟩ := z
    rcases h with h | h | h | h
    · have := p h.1; omega
    · exact q h
    · exact r h
    · exact s h)]
theorem rfI_t {nt : Nat} {a b : Int32} (h_5_ : nt ≤ 5) (h : rfI nt a b = 0) (h_10_ : ¬ b = 10) (h_11_ : ¬ b = 11) : ∃ t, t < nt ∧ a = nI t := by
  unfold rfI at h
  rw [if_neg (fun q => q.elim h_10_ h_11_)] at h
  split at h
  · split at h
    · rename_i q
      rcases pk_ix a (n := nt) (by omega) with z | z | z
      · exact absurd z q.1
      · exact absurd q.2 (Int32.not_lt.mpr z)
      · exact z
    · exact absurd h (by decide)
  · exact absurd h (by decide)
theorem feM_frost {V : Vt} {ng nt : Nat} {rc ys ls : Nat → Int32} {F : Fs} {a : Int32} (h : feM V ng nt rc ys ls F) : feM (up2 V 0 5 a) ng nt rc ys ls (a, F.2) := by
  obtain ⟨⟨h_1_, h_2_, h_3_, h_4_, h_5_, h_6_, h_7_⟩, h_8_, h_9_⟩ := h
  refine ⟨⟨up2_s .., by rw [up2_i _ _ (by decide)]; exact h_2_, h_3_, fun g hg => ?_, by rw [up2_i _ _ (by decide)]; exact h_5_, h_6_, fun t ht => by rw [up2_k _ _ (by decide), up2_k _ _ (by decide)]; exact h_7_ t ht⟩, by rw [up2_i _ _ (by decide)]; exact h_8_, by rw [up2_i _ _ (by decide)]; exact h_9_⟩
  unfold mW mM
  rw [up2_k _ _ (by decide), up2_k _ _ (by decide), up2_k _ _ (by decide), up2_k _ _ (by decide), up2_k _ _ (by decide)]
  exact h_4_ g hg
theorem feM_clear {V : Vt} {ng nt j : Nat} {rc ys ls : Nat → Int32} {F : Fs} (h : feM V ng nt rc ys ls F) : feM (up2 V 8 j 0) ng nt rc ys ls (F.1, uN F.2.1 j 0, F.2.2) := by
  obtain ⟨⟨h_1_, h_2_, h_3_, h_4_, h_5_, h_6_, h_7_⟩, h_8_, h_9_⟩ := h
  refine ⟨⟨by rw [up2_k _ _ (by decide)]; exact h_1_, by rw [up2_k _ _ (by decide)]; exact h_2_, h_3_, fun g hg => ?_, by rw [up2_k _ _ (by decide)]; exact h_5_, h_6_, fun t ht => by rw [up2_k _ _ (by decide), up2_k _ _ (by decide)]; exact h_7_ t ht⟩, by rw [up2_k _ _ (by decide)]; exact h_8_, by rw [up2_k _ _ (by decide)]; exact h_9_⟩
  obtain ⟨q1, q2, q3, q4, q5⟩ := h_4_ g hg
  unfold mW mM
  rw [up2_k V _ (show 4 ≠ 8 by decide), up2_k V _ (show 5 ≠ 8 by decide), up2_k V _ (show 9 ≠ 8 by decide), up2_k V _ (show 10 ≠ 8 by decide)]
  refine ⟨q1, q2, ?_⟩
  dsimp only
  by_cases e : g = j
  · subst e
    rw [uN_s, up2_s]
    exact ⟨rfl, by omega, fun i hi => absurd hi (by omega)⟩
  · rw [uN_o _ _ e, up2_i _ _ e]
    exact ⟨q3, q4, q5⟩
/-- a throw -/
def thM (V : Vt) (t g r : Nat) (d : Int32) : Vt := up2 (up2 (up2 (up2 (up2 V 0 25 (V 0 25 + (if d = 0 then 1 else 0))) 0 26 (V 0 26 + (if d = 0 ∧ 0 < cntI (fun j => mM V g j = 0) r then 1 else 0))) 9 (8 * g + r) (nI t)) 10 (8 * g + r) d) 8 g (nI (r + 1))
theorem feM_throw {V : Vt} {ng nt j t : Nat} {rc ys ls : Nat → Int32} {F : Fs} {d : Int32} (hj : j < ng) (h_8_' : F.2.1 j < 8) (hd : d = near (rc t) (ys j) (ls j) F.1) (h : feM V ng nt rc ys ls F) : feM (thM V t j (F.2.1 j) d) ng nt rc ys ls (feT rc ys ls F t j) := by
  obtain ⟨⟨h_1_, h_2_, h_3_, h_4_, h_5_, h_6_, h_7_⟩, h_8_, h_9_⟩ := h
  have hc : cntI (fun q => mM V j q = 0) (F.2.1 j) = cntI (fun q => F.2.2.2.1 j q = 0) (F.2.1 j) := cntI_cong _ (fun k hk => by rw [((h_4_ j hj).2.2.2.2 k hk).2])
  unfold thM feT
  rw [hc, ← hd]
  refine ⟨⟨?_, ?_, h_3_, fun g hg => ?_, ?_, h_6_, fun t2 ht => ?_⟩, ?_, ?_⟩
  · rw [up2_k _ _ (by decide), up2_k _ _ (by decide), up2_k _ _ (by decide), up2_i _ _ (by decide), up2_i _ _ (by decide)]; exact h_1_
  · rw [up2_k _ _ (by decide), up2_k _ _ (by decide), up2_k _ _ (by decide), up2_i _ _ (by decide), up2_i _ _ (by decide)]; exact h_2_
  · obtain ⟨q1, q2, q3, q4, q5⟩ := h_4_ g hg
    refine ⟨?_, ?_, ?_⟩
    · rw [up2_k _ _ (by decide), up2_k _ _ (by decide), up2_k _ _ (by decide), up2_k _ _ (by decide), up2_k _ _ (by decide)]; exact q1
    · rw [up2_k _ _ (by decide), up2_k _ _ (by decide), up2_k _ _ (by decide), up2_k _ _ (by decide), up2_k _ _ (by decide)]; exact q2
    · by_cases e : g = j
      · subst e
        dsimp only
        rw [uN_s, uN_s, uN_s, up2_s]
        refine ⟨rfl, by omega, fun i hi => ?_⟩
        unfold mW mM
        by_cases ei : i = F.2.1 g
        · subst ei
          rw [uN_s, uN_s]
          exact ⟨by rw [up2_k _ _ (by decide), up2_k _ _ (by decide), up2_s], by rw [up2_k _ _ (by decide), up2_s]⟩
        · rw [uN_o _ _ ei, uN_o _ _ ei]
          have q6 := q5 i (by omega)
          exact ⟨by rw [up2_k _ _ (by decide), up2_k _ _ (by decide), up2_i _ _ (by omega), up2_k _ _ (by decide), up2_k _ _ (by decide)]; exact q6.1, by rw [up2_k _ _ (by decide), up2_i _ _ (by omega), up2_k _ _ (by decide), up2_k _ _ (by decide), up2_k _ _ (by decide)]; exact q6.2⟩
      · dsimp only
        rw [uN_o _ _ e, uN_o _ _ e, uN_o _ _ e]
        refine ⟨by rw [up2_i _ _ e, up2_k _ _ (by decide), up2_k _ _ (by decide), up2_k _ _ (by decide), up2_k _ _ (by decide)]; exact q3, q4, fun i hi => ?_⟩
        have q6 := q5 i hi
        unfold mW mM
        exact ⟨by rw [up2_k _ _ (by decide), up2_k _ _ (by decide), up2_i _ _ (by omega), up2_k _ _ (by decide), up2_k _ _ (by decide)]; exact q6.1, by rw [up2_k _ _ (by decide), up2_i _ _ (by omega), up2_k _ _ (by decide), up2_k _ _ (by decide), up2_k _ _ (by decide)]; exact q6.2⟩
  · rw [up2_k _ _ (by decide), up2_k _ _ (by decide), up2_k _ _ (by decide), up2_i _ _ (by decide), up2_i _ _ (by decide)]; exact h_5_
  · rw [up2_k _ _ (by decide), up2_k _ _ (by decide), up2_k _ _ (by decide), up2_k _ _ (by decide), up2_k _ _ (by decide), up2_k _ _ (by decide), up2_k _ _ (by decide), up2_k _ _ (by decide), up2_k _ _ (by decide), up2_k _ _ (by decide)]; exact h_7_ t2 ht
  · rw [up2_k _ _ (by decide), up2_k _ _ (by decide), up2_k _ _ (by decide), up2_i _ _ (by decide), up2_s, h_8_]
  · rw [up2_k _ _ (by decide), up2_k _ _ (by decide), up2_k _ _ (by decide), up2_s, h_9_]
theorem thM_fr {V : Vt} {ng t g r : Nat} {d : Int32} (hg : g < ng) : frM ng V (thM V t g r d) := by
  unfold thM
  exact ((((frM.up (by omega)).tr (frM.up (by omega))).tr (frM.up (by omega))).tr (frM.up (by omega))).tr (frM.up (Or.inl ⟨rfl, hg⟩))
