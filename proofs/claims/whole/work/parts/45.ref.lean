section JE
variable {p : Program} {l : Launch} {e : Env} {R : Room} {s : State} {m : MethodId} {args : Array Value} {below : List Frame} {meth : Method} {c : Code} {A : Nat → Prop} {D : va_G} {cy : Nat → ClassId} {cells slots : Nat} {Q : State → Prop} {σ : Sh} {V : Vt} {own : String} {cc : ByteArray} {nL : Nat} {ret : Option FieldType} {pc : Nat} {ls : Array Slot} {rest st0 : List Value} {post : Option Value → Sh → Vt → Prop}
theorem j_ialdE (C : Cx p s m args meth c A D cy own cc nL ret) {k t : Nat} {i : Int32} (hk : k < σ.1) (hK : σ.2.1 k = 13) {n : Nat} (hn : σ.2.2.2.1 k = n) (hi : i = nI t) (ht : t < n) (hb : n < 2 ^ 31) (d : decode cc pc = .ok (.iaload, 1)) (kk : J p l e R s m args below meth c A D cy cells slots Q σ V (F0 m (pc + 1) ls (.int (V k t) :: rest))) : J p l e R s m args below meth c A D cy cells slots Q σ V (F0 m pc ls (.int i :: .ref (σ.2.2.2.2 k) :: rest)) := by
  subst hi
  refine j_iald (k := k) (n := n) C hk hK hn (vp_in_nI ht hb) d ?_
  rw [nI_clamp (by omega)]
  exact kk
theorem j_iastE (C : Cx p s m args meth c A D cy own cc nL ret) {k t : Nat} {i x : Int32} (hk : k < σ.1) (hK : σ.2.1 k = 13) {n : Nat} (hn : σ.2.2.2.1 k = n) (hi : i = nI t) (ht : t < n) (hb : n < 2 ^ 31) (d : decode cc pc = .ok (.iastore, 1)) (kk : ∀ V2 : Vt, V2 = up2 V k t x → J p l e R s m args below meth c A D cy cells slots Q σ V2 (F0 m (pc + 1) ls rest)) : J p l e R s m args below meth c A D cy cells slots Q σ V (F0 m pc ls (.int x :: .int i :: .ref (σ.2.2.2.2 k) :: rest)) := by
  subst hi
  refine j_iast (k := k) (n := n) C hk hK hn (vp_in_nI ht hb) d (fun V2 e => ?_)
  rw [nI_clamp (by omega)] at e
  exact kk V2 e
end JE
theorem nA {x y : Int32} {a b : Nat} (hx : x = nI a) (hy : y = nI b) : x + y = nI (a + b) := by rw [hx, hy, nI_add]
theorem nM {x y : Int32} {a b : Nat} (hx : x = nI a) (hy : y = nI b) : x * y = nI (a * b) := by rw [hx, hy, pk_mul]
theorem nS1 {x : Int32} {a : Nat} (hx : x = nI (a + 1)) : x - 1 = nI a := by rw [hx, nI_pred]
theorem cLt {x y : Int32} {a b : Nat} (hx : x = nI a) (hy : y = nI b) (ha : a < 2 ^ 31) (hb : b < 2 ^ 31) (h : x < y) : a < b := by rw [hx, hy] at h; exact (nI_ltI ha hb).mp h
theorem cLe {x y : Int32} {a b : Nat} (hx : x = nI a) (hy : y = nI b) (ha : a < 2 ^ 31) (hb : b < 2 ^ 31) (h : x ≤ y) : a ≤ b := by rw [hx, hy] at h; exact (nI_leI ha hb).mp h
theorem cNl {x y : Int32} {a b : Nat} (hx : x = nI a) (hy : y = nI b) (ha : a < 2 ^ 31) (hb : b < 2 ^ 31) (h : ¬ x < y) : b ≤ a := by rw [hx, hy] at h; exact Nat.le_of_not_lt (fun q => h ((nI_ltI ha hb).mpr q))
theorem cNe {x y : Int32} {a b : Nat} (hx : x = nI a) (hy : y = nI b) (ha : a < 2 ^ 31) (hb : b < 2 ^ 31) (h : ¬ x ≤ y) : b < a := by rw [hx, hy] at h; exact Nat.lt_of_not_le (fun q => h ((nI_leI ha hb).mpr q))
theorem cEq {x y : Int32} {a b : Nat} (hx : x = nI a) (hy : y = nI b) (ha : a < 2 ^ 31) (hb : b < 2 ^ 31) (h : x = y) : a = b := by rw [hx, hy] at h; exact nI_inj ha hb h
theorem cNq {x y : Int32} {a b : Nat} (hx : x = nI a) (hy : y = nI b) (_ : a < 2 ^ 31) (_ : b < 2 ^ 31) (h : ¬ x = y) : a ≠ b := by rw [hx, hy] at h; exact fun q => h (by rw [q])
theorem ml {ad : Nat → Nat} {k : Nat} (h : k < 24) : k < (mS ad).1 := h
abbrev rm_X12_fails : Room := { frames := 0, cells := 0, slots := 0, locals := 0 }
set_option maxHeartbeats 4000000 in
set_option maxRecDepth 100000 in
theorem k_X12_fails (l : Launch) (ad : Nat → Nat) (V : Vt) (z0 : Int32)  : Ct l yX12_fails cX12_fails 2 (some .int) rm_X12_fails (mS ad) V [.ref (ad (0)), .int (z0)] (rI fun x V2 => V2 = up2 V 0 0 z0 ∧ x = -10 - z0) := by
  refine Ct_of (by decide) (Nat.le_of_ble_eq_true rfl) ?_
  intro p e s m below meth c A D cy ls C hl
  have hl : lv_has ls 2 [(0, .ref (ad (0))), (1, .int (z0))] := hl
  refine j_aload_n C dX12_fails_0 rfl (lv_at hl 0 rfl) ?_
  refine j_iload_n C dX12_fails_1 rfl (lv_at hl 1 rfl) ?_
  refine j_putI (k := 0) C (f_RX12_79_12) p_12_0 (ml (by decide)) (rfl) dX12_fails_2 (fun V1 eV1 => ?_)
  refine j_bipush (v := (-10)) C dX12_fails_5 (by decide) ?_
  refine j_iload_n C dX12_fails_7 rfl (lv_at hl 1 rfl) ?_
  refine j_isub C dX12_fails_8 ?_
  refine j_iret C ⟨rfl, _, rfl, ?_⟩ dX12_fails_9
  exact ⟨eV1, rfl⟩
abbrev rm_X12_lost : Room := { frames := 0, cells := 0, slots := 0, locals := 0 }
set_option maxHeartbeats 4000000 in
set_option maxRecDepth 100000 in
theorem k_X12_lost (l : Launch) (ad : Nat → Nat) (V : Vt) (z0 : Int32)  : Ct l yX12_lost cX12_lost 2 (some .long) rm_X12_lost (mS ad) V [.ref (ad (0)), .int (z0)] (rL fun x V2 => V2 = up2 V 0 0 z0 ∧ x = -9223372036854775808) := by
  refine Ct_of (by decide) (Nat.le_of_ble_eq_true rfl) ?_
  intro p e s m below meth c A D cy ls C hl
  have hl : lv_has ls 2 [(0, .ref (ad (0))), (1, .int (z0))] := hl
  refine j_aload_n C dX12_lost_0 rfl (lv_at hl 0 rfl) ?_
  refine j_iload_n C dX12_lost_1 rfl (lv_at hl 1 rfl) ?_
  refine j_putI (k := 0) C (f_RX12_79_12) p_12_0 (ml (by decide)) (rfl) dX12_lost_2 (fun V1 eV1 => ?_)
  refine j_ldc2 C wj_RX12_83 dX12_lost_5 ?_
  refine j_lret C ⟨rfl, _, rfl, ?_⟩ dX12_lost_8
  exact ⟨eV1, rfl⟩
abbrev rm_X12_within : Room := { frames := 0, cells := 0, slots := 0, locals := 0 }
set_option maxHeartbeats 4000000 in
set_option maxRecDepth 100000 in
theorem k_X12_within (l : Launch) (σ : Sh) (V : Vt) (z0 z1 z2 : Int32)  : Ct l yX12_within cX12_within 3 (some .boolean) rm_X12_within σ V [.int (z0), .int (z1), .int (z2)] (rI fun x V2 => V2 = V ∧ x = bI (z1 ≤ z0 ∧ z0 ≤ z2)) := by
  refine Ct_of (by decide) (Nat.le_of_ble_eq_true rfl) ?_
  intro p e s m below meth c A D cy ls C hl
  have hl : lv_has ls 3 [(0, .int (z0)), (1, .int (z1)), (2, .int (z2))] := hl
  refine j_iload_n C dX12_within_0 rfl (lv_at hl 0 rfl) ?_
  refine j_iload_n C dX12_within_1 rfl (lv_at hl 1 rfl) ?_
  refine j_icmp_lt (tgt := 14) C dX12_within_2 (by decide) (fun c_1_ => ?_) (fun c_1_ => ?_)
  · have n_1_ := Int32.not_le.mpr c_1_
    refine j_iconst (v := 0) C dX12_within_14 (by decide) ?_
    refine j_zret C rfl ⟨rfl, _, rfl, ?_⟩ dX12_within_15
    refine ⟨rfl, ?_⟩
    simp [bI, c_1_, n_1_]
  · have n_1_ := Int32.not_lt.mp c_1_
    refine j_iload_n C dX12_within_5 rfl (lv_at hl 0 rfl) ?_
    refine j_iload_n C dX12_within_6 rfl (lv_at hl 2 rfl) ?_
    refine j_icmp_gt (tgt := 14) C dX12_within_7 (by decide) (fun c_2_ => ?_) (fun c_2_ => ?_)
    · have n_2_ := Int32.not_le.mpr c_2_
      refine j_iconst (v := 0) C dX12_within_14 (by decide) ?_
      refine j_zret C rfl ⟨rfl, _, rfl, ?_⟩ dX12_within_15
      refine ⟨rfl, ?_⟩
      simp [bI, c_1_, n_1_, c_2_, n_2_]
    · have n_2_ := Int32.not_lt.mp c_2_
      refine j_iconst (v := 1) C dX12_within_10 (by decide) ?_
      refine j_goto (tgt := 15) C dX12_within_11 (by decide) ?_
      refine j_zret C rfl ⟨rfl, _, rfl, ?_⟩ dX12_within_15
      refine ⟨rfl, ?_⟩
      simp [bI, c_1_, n_1_, c_2_, n_2_]
abbrev rm_X12_isSort : Room := { frames := 1, cells := 0, slots := 0, locals := 22 }
set_option maxHeartbeats 4000000 in
set_option maxRecDepth 100000 in
theorem k_X12_isSort (l : Launch) (σ : Sh) (V : Vt) (z0 : Int32)  : Ct l yX12_isSort cX12_isSort 1 (some .boolean) rm_X12_isSort σ V [.int (z0)] (rI fun x V2 => V2 = V ∧ x = bI (0 ≤ z0 ∧ z0 ≤ 2)) := by
  refine Ct_of (by decide) (Nat.le_of_ble_eq_true rfl) ?_
  intro p e s m below meth c A D cy ls C hl
  have hl : lv_has ls 1 [(0, .int (z0))] := hl
  refine j_iload_n C dX12_isSort_0 rfl (lv_at hl 0 rfl) ?_
  refine j_iconst (v := 0) C dX12_isSort_1 (by decide) ?_
  refine j_iconst (v := 2) C dX12_isSort_2 (by decide) ?_
  refine j_callS C [.int (z0), .int (0), .int (2)] [] (k_X12_within l (σ) V (z0) (0) (2)  ) v_RX12_85 ⟨rfl, rfl, Nat.le_of_ble_eq_true rfl, Nat.le_of_ble_eq_true rfl⟩ rfl hl.1 rfl (Nat.le_of_ble_eq_true rfl) ⟨Nat.le_of_ble_eq_true rfl, Nat.le_of_ble_eq_true rfl⟩ dX12_isSort_3 (kI fun x_1_ U1 h_1_ => ?_)
  obtain ⟨eU1, h_1_⟩ := h_1_
  have eU1 := eU1.symm
  subst eU1
  refine j_zret C (by first | (rw [h_1_]; exact bI_n) | (rw [h_1_]; rfl)) ⟨rfl, _, rfl, ?_⟩ dX12_isSort_6
  exact ⟨rfl, h_1_⟩
abbrev rm_X12_isGirl : Room := { frames := 0, cells := 0, slots := 0, locals := 0 }
set_option maxHeartbeats 4000000 in
set_option maxRecDepth 100000 in
theorem k_X12_isGirl (l : Launch) (ad : Nat → Nat) (V : Vt) (z0 : Int32) (nn : Nat) (hN : V 0 6 = nI nn) (h_5_ : nn ≤ 5)  : Ct l yX12_isGirl cX12_isGirl 2 (some .boolean) rm_X12_isGirl (mS ad) V [.ref (ad (0)), .int (z0)] (rI fun x V2 => V2 = V ∧ ((∃ j : Nat, j < nn ∧ z0 = nI j ∧ x = 1) ∨ ((z0 < 0 ∨ nI nn ≤ z0) ∧ x = 0))) := by
  refine Ct_of (by decide) (Nat.le_of_ble_eq_true rfl) ?_
  intro p e s m below meth c A D cy ls C hl
  have hl : lv_has ls 2 [(0, .ref (ad (0))), (1, .int (z0))] := hl
  refine j_iload_n C dX12_isGirl_0 rfl (lv_at hl 1 rfl) ?_
  refine j_if_lt (tgt := 16) C dX12_isGirl_1 (by decide) (fun c_1_ => ?_) (fun c_1_ => ?_)
  · have n_1_ := Int32.not_le.mpr c_1_
    refine j_iconst (v := 0) C dX12_isGirl_16 (by decide) ?_
    refine j_zret C rfl ⟨rfl, _, rfl, ?_⟩ dX12_isGirl_17
    exact ⟨rfl, Or.inr ⟨Or.inl c_1_, rfl⟩⟩
  · have n_1_ := Int32.not_lt.mp c_1_
    refine j_iload_n C dX12_isGirl_4 rfl (lv_at hl 1 rfl) ?_
    refine j_aload_n C dX12_isGirl_5 rfl (lv_at hl 0 rfl) ?_
    refine j_getI (k := 0) C (f_RX12_89_12) (ml (by decide)) (rfl) dX12_isGirl_6 ?_
    refine j_icmp_ge (tgt := 16) C dX12_isGirl_9 (by decide) (fun c_2_ => ?_) (fun c_2_ => ?_)
    · have n_2_ := Int32.not_lt.mpr c_2_
      refine j_iconst (v := 0) C dX12_isGirl_16 (by decide) ?_
      refine j_zret C rfl ⟨rfl, _, rfl, ?_⟩ dX12_isGirl_17
      exact ⟨rfl, Or.inr ⟨Or.inr (by rw [← hN]; exact c_2_), rfl⟩⟩
    · have n_2_ := Int32.not_le.mp c_2_
      refine j_iconst (v := 1) C dX12_isGirl_12 (by decide) ?_
      refine j_goto (tgt := 17) C dX12_isGirl_13 (by decide) ?_
      refine j_zret C rfl ⟨rfl, _, rfl, ?_⟩ dX12_isGirl_17
      refine ⟨rfl, Or.inl ?_⟩
      rw [hN] at c_2_
      rcases pk_ix z0 (n := nn) (by omega) with h | h | ⟨j, h, e⟩
      · exact absurd h c_1_
      · exact absurd h c_2_
      · exact ⟨j, h, e, rfl⟩
abbrev rm_X12_isThrower : Room := { frames := 0, cells := 0, slots := 0, locals := 0 }
set_option maxHeartbeats 4000000 in
set_option maxRecDepth 100000 in
theorem k_X12_isThrower (l : Launch) (ad : Nat → Nat) (V : Vt) (z0 : Int32) (nn : Nat) (hN : V 0 7 = nI nn) (h_5_ : nn ≤ 5)  : Ct l yX12_isThrower cX12_isThrower 2 (some .boolean) rm_X12_isThrower (mS ad) V [.ref (ad (0)), .int (z0)] (rI fun x V2 => V2 = V ∧ ((∃ j : Nat, j < nn ∧ z0 = nI j ∧ x = 1) ∨ ((z0 < 0 ∨ nI nn ≤ z0) ∧ x = 0))) := by
  refine Ct_of (by decide) (Nat.le_of_ble_eq_true rfl) ?_
  intro p e s m below meth c A D cy ls C hl
  have hl : lv_has ls 2 [(0, .ref (ad (0))), (1, .int (z0))] := hl
  refine j_iload_n C dX12_isThrower_0 rfl (lv_at hl 1 rfl) ?_
  refine j_if_lt (tgt := 16) C dX12_isThrower_1 (by decide) (fun c_1_ => ?_) (fun c_1_ => ?_)
  · have n_1_ := Int32.not_le.mpr c_1_
    refine j_iconst (v := 0) C dX12_isThrower_16 (by decide) ?_
    refine j_zret C rfl ⟨rfl, _, rfl, ?_⟩ dX12_isThrower_17
    exact ⟨rfl, Or.inr ⟨Or.inl c_1_, rfl⟩⟩
  · have n_1_ := Int32.not_lt.mp c_1_
    refine j_iload_n C dX12_isThrower_4 rfl (lv_at hl 1 rfl) ?_
    refine j_aload_n C dX12_isThrower_5 rfl (lv_at hl 0 rfl) ?_
    refine j_getI (k := 0) C (f_RX12_92_12) (ml (by decide)) (rfl) dX12_isThrower_6 ?_
    refine j_icmp_ge (tgt := 16) C dX12_isThrower_9 (by decide) (fun c_2_ => ?_) (fun c_2_ => ?_)
    · have n_2_ := Int32.not_lt.mpr c_2_
      refine j_iconst (v := 0) C dX12_isThrower_16 (by decide) ?_
      refine j_zret C rfl ⟨rfl, _, rfl, ?_⟩ dX12_isThrower_17
      exact ⟨rfl, Or.inr ⟨Or.inr (by rw [← hN]; exact c_2_), rfl⟩⟩
    · have n_2_ := Int32.not_le.mp c_2_
      refine j_iconst (v := 1) C dX12_isThrower_12 (by decide) ?_
      refine j_goto (tgt := 17) C dX12_isThrower_13 (by decide) ?_
      refine j_zret C rfl ⟨rfl, _, rfl, ?_⟩ dX12_isThrower_17
      refine ⟨rfl, Or.inl ?_⟩
      rw [hN] at c_2_
      rcases pk_ix z0 (n := nn) (by omega) with h | h | ⟨j, h, e⟩
      · exact absurd h c_1_
      · exact absurd h c_2_
      · exact ⟨j, h, e, rfl⟩
abbrev rm_X12_isSheet : Room := { frames := 1, cells := 0, slots := 0, locals := 22 }
set_option maxHeartbeats 4000000 in
set_option maxRecDepth 100000 in
theorem k_X12_isSheet (l : Launch) (σ : Sh) (V : Vt) (z0 : Int32)  : Ct l yX12_isSheet cX12_isSheet 1 (some .boolean) rm_X12_isSheet σ V [.int (z0)] (rI fun x V2 => V2 = V ∧ ((∃ j : Nat, j < 4 ∧ z0 = nI j ∧ x = 1) ∨ ((z0 < 0 ∨ nI 4 ≤ z0) ∧ x = 0))) := by
  refine Ct_of (by decide) (Nat.le_of_ble_eq_true rfl) ?_
  intro p e s m below meth c A D cy ls C hl
  have hl : lv_has ls 1 [(0, .int (z0))] := hl
  refine j_iload_n C dX12_isSheet_0 rfl (lv_at hl 0 rfl) ?_
  refine j_iconst (v := 0) C dX12_isSheet_1 (by decide) ?_
  refine j_iconst (v := 3) C dX12_isSheet_2 (by decide) ?_
  refine j_callS C [.int (z0), .int (0), .int (3)] [] (k_X12_within l (σ) V (z0) (0) (3)  ) v_RX12_85 ⟨rfl, rfl, Nat.le_of_ble_eq_true rfl, Nat.le_of_ble_eq_true rfl⟩ rfl hl.1 rfl (Nat.le_of_ble_eq_true rfl) ⟨Nat.le_of_ble_eq_true rfl, Nat.le_of_ble_eq_true rfl⟩ dX12_isSheet_3 (kI fun x_1_ U1 h_1_ => ?_)
  obtain ⟨eU1, h_1_⟩ := h_1_
  have eU1 := eU1.symm
  subst eU1
  refine j_zret C (by first | (rw [h_1_]; exact bI_n) | (rw [h_1_]; rfl)) ⟨rfl, _, rfl, ?_⟩ dX12_isSheet_6
  refine ⟨rfl, ?_⟩
  rw [h_1_]
  rcases pk_ix z0 (n := 4) (by decide) with h | h | ⟨j, h, e⟩
  · exact Or.inr ⟨Or.inl h, bI_f (fun q => absurd h (Int32.not_lt.mpr q.1))⟩
  · exact Or.inr ⟨Or.inr h, bI_f (fun q => absurd (Int32.le_trans h q.2) (by decide))⟩
  · exact Or.inl ⟨j, h, e, bI_t (by rw [e]; exact ⟨nI_pos' (by omega), nI_le (b := 3) (by omega) (by decide)⟩)⟩
def agI (s len z1 z2 z3 : Int32) : Int32 := if ¬ s = -9 ∧ ¬ s = z1 then 2 else if s = -9 then 1 else if z3 < 0 then 4 else if z2 < 0 ∨ len < z2 ∨ len - z2 < z3 then 3 else 0
abbrev rm_X12_against : Room := { frames := 0, cells := 0, slots := 0, locals := 0 }
set_option maxHeartbeats 4000000 in
set_option maxRecDepth 100000 in
theorem k_X12_against (l : Launch) (ad : Nat → Nat) (V : Vt) (z0 z1 z2 z3 : Int32) (k : Nat) (e0 : z0 = nI k) (hk : k < 4)  : Ct l yX12_against cX12_against 5 (some .int) rm_X12_against (mS ad) V [.ref (ad (0)), .int (z0), .int (z1), .int (z2), .int (z3)] (rI fun x V2 => V2 = V ∧ x = agI (V 1 k) (V 2 k) z1 z2 z3) := by
  subst e0
  refine Ct_of (by decide) (Nat.le_of_ble_eq_true rfl) ?_
  intro p e s m below meth c A D cy ls C hl
  have hl : lv_has ls 5 [(0, .ref (ad (0))), (1, .int (nI k)), (2, .int (z1)), (3, .int (z2)), (4, .int (z3))] := hl
  refine j_aload_n C dX12_against_0 rfl (lv_at hl 0 rfl) ?_
  refine j_getR (k := 0) (k2 := 1) C (f_RX12_9_12) (ml (by decide)) (rfl) (rfl) dX12_against_1 ?_
  refine j_iload_n C dX12_against_4 rfl (lv_at hl 1 rfl) ?_
  refine j_ialdE (k := 1) (n := 4) (t := k) C (ml (by decide)) (rfl) (rfl) (rfl) (by omega) (by decide) dX12_against_5 ?_
  refine j_bipush (v := (-9)) C dX12_against_6 (by decide) ?_
  refine j_icmp_eq (tgt := 23) C dX12_against_8 (by decide) (fun c_1_ => ?_) (fun c_1_ => ?_)
  · skip
    refine j_aload_n C dX12_against_23 rfl (lv_at hl 0 rfl) ?_
    refine j_getR (k := 0) (k2 := 1) C (f_RX12_9_12) (ml (by decide)) (rfl) (rfl) dX12_against_24 ?_
    refine j_iload_n C dX12_against_27 rfl (lv_at hl 1 rfl) ?_
    refine j_ialdE (k := 1) (n := 4) (t := k) C (ml (by decide)) (rfl) (rfl) (rfl) (by omega) (by decide) dX12_against_28 ?_
    refine j_bipush (v := (-9)) C dX12_against_29 (by decide) ?_
    refine j_icmp_ne (tgt := 36) C dX12_against_31 (by decide) (fun c_2_ => ?_) (fun c_2_ => ?_)
    · skip
      refine j_iload C dX12_against_36 (lv_at hl 4 rfl) ?_
      refine j_if_ge (tgt := 43) C dX12_against_38 (by decide) (fun c_3_ => ?_) (fun c_3_ => ?_)
      · have n_3_ := Int32.not_lt.mpr c_3_
        refine j_iload_n C dX12_against_43 rfl (lv_at hl 3 rfl) ?_
        refine j_if_lt (tgt := 70) C dX12_against_44 (by decide) (fun c_4_ => ?_) (fun c_4_ => ?_)
        · have n_4_ := Int32.not_le.mpr c_4_
          refine j_iconst (v := 3) C dX12_against_70 (by decide) ?_
          refine j_goto (tgt := 75) C dX12_against_71 (by decide) ?_
          refine j_iret C ⟨rfl, _, rfl, ?_⟩ dX12_against_75
          refine ⟨rfl, ?_⟩
          unfold agI
          rw [if_neg (fun q => q.1 c_1_), if_neg c_2_, if_neg (Int32.not_lt.mpr c_3_), if_pos (Or.inl c_4_)]
        · have n_4_ := Int32.not_lt.mp c_4_
          refine j_iload_n C dX12_against_47 rfl (lv_at hl 3 rfl) ?_
          refine j_aload_n C dX12_against_48 rfl (lv_at hl 0 rfl) ?_
          refine j_getR (k := 0) (k2 := 2) C (f_RX12_13_12) (ml (by decide)) (rfl) (rfl) dX12_against_49 ?_
          refine j_iload_n C dX12_against_52 rfl (lv_at hl 1 rfl) ?_
          refine j_ialdE (k := 2) (n := 4) (t := k) C (ml (by decide)) (rfl) (rfl) (rfl) (by omega) (by decide) dX12_against_53 ?_
          refine j_icmp_gt (tgt := 70) C dX12_against_54 (by decide) (fun c_5_ => ?_) (fun c_5_ => ?_)
          · have n_5_ := Int32.not_le.mpr c_5_
            refine j_iconst (v := 3) C dX12_against_70 (by decide) ?_
            refine j_goto (tgt := 75) C dX12_against_71 (by decide) ?_
            refine j_iret C ⟨rfl, _, rfl, ?_⟩ dX12_against_75
            refine ⟨rfl, ?_⟩
            unfold agI
            rw [if_neg (fun q => q.1 c_1_), if_neg c_2_, if_neg (Int32.not_lt.mpr c_3_), if_pos (Or.inr (Or.inl c_5_))]
          · have n_5_ := Int32.not_lt.mp c_5_
            refine j_iload C dX12_against_57 (lv_at hl 4 rfl) ?_
            refine j_aload_n C dX12_against_59 rfl (lv_at hl 0 rfl) ?_
            refine j_getR (k := 0) (k2 := 2) C (f_RX12_13_12) (ml (by decide)) (rfl) (rfl) dX12_against_60 ?_
            refine j_iload_n C dX12_against_63 rfl (lv_at hl 1 rfl) ?_
            refine j_ialdE (k := 2) (n := 4) (t := k) C (ml (by decide)) (rfl) (rfl) (rfl) (by omega) (by decide) dX12_against_64 ?_
            refine j_iload_n C dX12_against_65 rfl (lv_at hl 3 rfl) ?_
            refine j_isub C dX12_against_66 ?_
            refine j_icmp_le (tgt := 74) C dX12_against_67 (by decide) (fun c_6_ => ?_) (fun c_6_ => ?_)
            · have n_6_ := Int32.not_lt.mpr c_6_
              refine j_iconst (v := 0) C dX12_against_74 (by decide) ?_
              refine j_iret C ⟨rfl, _, rfl, ?_⟩ dX12_against_75
              refine ⟨rfl, ?_⟩
              unfold agI
              rw [if_neg (fun q => q.1 c_1_), if_neg c_2_, if_neg (Int32.not_lt.mpr c_3_), if_neg (fun q => q.elim c_4_ (fun q => q.elim c_5_ (fun q => absurd q (Int32.not_lt.mpr c_6_))))]
            · have n_6_ := Int32.not_le.mp c_6_
              refine j_iconst (v := 3) C dX12_against_70 (by decide) ?_
              refine j_goto (tgt := 75) C dX12_against_71 (by decide) ?_
              refine j_iret C ⟨rfl, _, rfl, ?_⟩ dX12_against_75
              refine ⟨rfl, ?_⟩
              unfold agI
              rw [if_neg (fun q => q.1 c_1_), if_neg c_2_, if_neg (Int32.not_lt.mpr c_3_), if_pos (Or.inr (Or.inr (Int32.not_le.mp c_6_)))]
      · have n_3_ := Int32.not_le.mp c_3_
        refine j_iconst (v := 4) C dX12_against_41 (by decide) ?_
        refine j_iret C ⟨rfl, _, rfl, ?_⟩ dX12_against_42
        refine ⟨rfl, ?_⟩
        unfold agI
        rw [if_neg (fun q => q.1 c_1_), if_neg c_2_, if_pos (Int32.not_le.mp c_3_)]
    · skip
      refine j_iconst (v := 1) C dX12_against_34 (by decide) ?_
      refine j_iret C ⟨rfl, _, rfl, ?_⟩ dX12_against_35
      refine ⟨rfl, ?_⟩
      unfold agI
      rw [if_neg (fun q => q.1 c_1_), if_pos c_2_]
  · skip
    refine j_aload_n C dX12_against_11 rfl (lv_at hl 0 rfl) ?_
    refine j_getR (k := 0) (k2 := 1) C (f_RX12_9_12) (ml (by decide)) (rfl) (rfl) dX12_against_12 ?_
    refine j_iload_n C dX12_against_15 rfl (lv_at hl 1 rfl) ?_
    refine j_ialdE (k := 1) (n := 4) (t := k) C (ml (by decide)) (rfl) (rfl) (rfl) (by omega) (by decide) dX12_against_16 ?_
    refine j_iload_n C dX12_against_17 rfl (lv_at hl 2 rfl) ?_
    refine j_icmp_eq (tgt := 23) C dX12_against_18 (by decide) (fun c_7_ => ?_) (fun c_7_ => ?_)
    · skip
      refine j_aload_n C dX12_against_23 rfl (lv_at hl 0 rfl) ?_
      refine j_getR (k := 0) (k2 := 1) C (f_RX12_9_12) (ml (by decide)) (rfl) (rfl) dX12_against_24 ?_
      refine j_iload_n C dX12_against_27 rfl (lv_at hl 1 rfl) ?_
      refine j_ialdE (k := 1) (n := 4) (t := k) C (ml (by decide)) (rfl) (rfl) (rfl) (by omega) (by decide) dX12_against_28 ?_
      refine j_bipush (v := (-9)) C dX12_against_29 (by decide) ?_
      refine j_icmp_ne (tgt := 36) C dX12_against_31 (by decide) (fun c_8_ => ?_) (fun c_8_ => ?_)
      · skip
        refine j_iload C dX12_against_36 (lv_at hl 4 rfl) ?_
        refine j_if_ge (tgt := 43) C dX12_against_38 (by decide) (fun c_9_ => ?_) (fun c_9_ => ?_)
        · have n_9_ := Int32.not_lt.mpr c_9_
          refine j_iload_n C dX12_against_43 rfl (lv_at hl 3 rfl) ?_
          refine j_if_lt (tgt := 70) C dX12_against_44 (by decide) (fun c_10_ => ?_) (fun c_10_ => ?_)
          · have n_10_ := Int32.not_le.mpr c_10_
            refine j_iconst (v := 3) C dX12_against_70 (by decide) ?_
            refine j_goto (tgt := 75) C dX12_against_71 (by decide) ?_
            refine j_iret C ⟨rfl, _, rfl, ?_⟩ dX12_against_75
            refine ⟨rfl, ?_⟩
            unfold agI
            rw [if_neg (fun q => q.2 c_7_), if_neg c_8_, if_neg (Int32.not_lt.mpr c_9_), if_pos (Or.inl c_10_)]
          · have n_10_ := Int32.not_lt.mp c_10_
            refine j_iload_n C dX12_against_47 rfl (lv_at hl 3 rfl) ?_
            refine j_aload_n C dX12_against_48 rfl (lv_at hl 0 rfl) ?_
            refine j_getR (k := 0) (k2 := 2) C (f_RX12_13_12) (ml (by decide)) (rfl) (rfl) dX12_against_49 ?_
            refine j_iload_n C dX12_against_52 rfl (lv_at hl 1 rfl) ?_
            refine j_ialdE (k := 2) (n := 4) (t := k) C (ml (by decide)) (rfl) (rfl) (rfl) (by omega) (by decide) dX12_against_53 ?_
            refine j_icmp_gt (tgt := 70) C dX12_against_54 (by decide) (fun c_11_ => ?_) (fun c_11_ => ?_)
            · have n_11_ := Int32.not_le.mpr c_11_
              refine j_iconst (v := 3) C dX12_against_70 (by decide) ?_
              refine j_goto (tgt := 75) C dX12_against_71 (by decide) ?_
              refine j_iret C ⟨rfl, _, rfl, ?_⟩ dX12_against_75
              refine ⟨rfl, ?_⟩
              unfold agI
              rw [if_neg (fun q => q.2 c_7_), if_neg c_8_, if_neg (Int32.not_lt.mpr c_9_), if_pos (Or.inr (Or.inl c_11_))]
            · have n_11_ := Int32.not_lt.mp c_11_
              refine j_iload C dX12_against_57 (lv_at hl 4 rfl) ?_
              refine j_aload_n C dX12_against_59 rfl (lv_at hl 0 rfl) ?_
              refine j_getR (k := 0) (k2 := 2) C (f_RX12_13_12) (ml (by decide)) (rfl) (rfl) dX12_against_60 ?_
              refine j_iload_n C dX12_against_63 rfl (lv_at hl 1 rfl) ?_
              refine j_ialdE (k := 2) (n := 4) (t := k) C (ml (by decide)) (rfl) (rfl) (rfl) (by omega) (by decide) dX12_against_64 ?_
              refine j_iload_n C dX12_against_65 rfl (lv_at hl 3 rfl) ?_
              refine j_isub C dX12_against_66 ?_
              refine j_icmp_le (tgt := 74) C dX12_against_67 (by decide) (fun c_12_ => ?_) (fun c_12_ => ?_)
              · have n_12_ := Int32.not_lt.mpr c_12_
                refine j_iconst (v := 0) C dX12_against_74 (by decide) ?_
                refine j_iret C ⟨rfl, _, rfl, ?_⟩ dX12_against_75
                refine ⟨rfl, ?_⟩
                unfold agI
                rw [if_neg (fun q => q.2 c_7_), if_neg c_8_, if_neg (Int32.not_lt.mpr c_9_), if_neg (fun q => q.elim c_10_ (fun q => q.elim c_11_ (fun q => absurd q (Int32.not_lt.mpr c_12_))))]
              · have n_12_ := Int32.not_le.mp c_12_
                refine j_iconst (v := 3) C dX12_against_70 (by decide) ?_
                refine j_goto (tgt := 75) C dX12_against_71 (by decide) ?_
                refine j_iret C ⟨rfl, _, rfl, ?_⟩ dX12_against_75
                refine ⟨rfl, ?_⟩
                unfold agI
                rw [if_neg (fun q => q.2 c_7_), if_neg c_8_, if_neg (Int32.not_lt.mpr c_9_), if_pos (Or.inr (Or.inr (Int32.not_le.mp c_12_)))]
        · have n_9_ := Int32.not_le.mp c_9_
          refine j_iconst (v := 4) C dX12_against_41 (by decide) ?_
          refine j_iret C ⟨rfl, _, rfl, ?_⟩ dX12_against_42
          refine ⟨rfl, ?_⟩
          unfold agI
          rw [if_neg (fun q => q.2 c_7_), if_neg c_8_, if_pos (Int32.not_le.mp c_9_)]
      · skip
        refine j_iconst (v := 1) C dX12_against_34 (by decide) ?_
        refine j_iret C ⟨rfl, _, rfl, ?_⟩ dX12_against_35
        refine ⟨rfl, ?_⟩
        unfold agI
        rw [if_neg (fun q => q.2 c_7_), if_pos c_8_]
    · skip
      refine j_iconst (v := 2) C dX12_against_21 (by decide) ?_
      refine j_iret C ⟨rfl, _, rfl, ?_⟩ dX12_against_22
      refine ⟨rfl, ?_⟩
      unfold agI
      rw [if_pos ⟨c_1_, c_7_⟩]
def rchM (kind arm : Int32) : Int32 := if kind = 0 then arm else if kind = 1 then arm + 1 else 2 * arm
def nrM (V : Vt) (t g : Nat) : Int32 := near (rchM (V 6 t) (V 7 t)) (V 4 g) (V 5 g) (V 0 5)
def mW (V : Vt) (g : Nat) : Nat → Int32 := fun j => V 9 (8 * g + j)
def mM (V : Vt) (g : Nat) : Nat → Int32 := fun j => V 10 (8 * g + j)
def bsM (f : Nat → Int32) (g i : Nat) : Int32 := if hldI f i = -9 then -9 else nI (8 * g + (hldI f i).toNatClampNeg)
theorem bsM_0 (f : Nat → Int32) (g i : Nat) (hi : i < 100) (hg : g < 100) : bsM f g i = -9 ↔ hldI f i = -9 := by
  unfold bsM
  split
  · simp_all
  · rename_i h
    rcases hldI_rng f i with e | ⟨q, hq, e⟩
    · exact absurd e h
    · rw [e, nI_clamp (by omega)]
      exact ⟨fun z => absurd z (m9_nI (by omega)), fun z => absurd z (m9_nI (by omega))⟩
theorem bsM_y {f : Nat → Int32} {g i : Nat} (h : hldI f i = -9 ∨ f i = 0 ∨ f i < f (hldI f i).toNatClampNeg) (hi : i < 100) : bsM f g (i + 1) = nI (8 * g + i) := by
  unfold bsM
  rw [hldI, if_pos h, if_neg (m9_nI (by omega)), nI_clamp (by omega)]
theorem bsM_n {f : Nat → Int32} {g i : Nat} (h : ¬ (hldI f i = -9 ∨ f i = 0 ∨ f i < f (hldI f i).toNatClampNeg)) : bsM f g (i + 1) = bsM f g i := by
  unfold bsM
  rw [hldI, if_neg h]
abbrev rm_X12_reachOf : Room := { frames := 0, cells := 0, slots := 0, locals := 0 }
set_option maxHeartbeats 4000000 in
set_option maxRecDepth 100000 in
theorem k_X12_reachOf (l : Launch) (ad : Nat → Nat) (V : Vt) (z0 : Int32) (t : Nat) (e0 : z0 = nI t) (ht : t < 5)  : Ct l yX12_reachOf cX12_reachOf 2 (some .int) rm_X12_reachOf (mS ad) V [.ref (ad (0)), .int (z0)] (rI fun x V2 => V2 = V ∧ x = rchM (V 6 t) (V 7 t)) := by
  subst e0
  refine Ct_of (by decide) (Nat.le_of_ble_eq_true rfl) ?_
  intro p e s m below meth c A D cy ls C hl
  have hl : lv_has ls 2 [(0, .ref (ad (0))), (1, .int (nI t))] := hl
  refine j_aload_n C dX12_reachOf_0 rfl (lv_at hl 0 rfl) ?_
  refine j_getR (k := 0) (k2 := 6) C (f_RX12_25_12) (ml (by decide)) (rfl) (rfl) dX12_reachOf_1 ?_
  refine j_iload_n C dX12_reachOf_4 rfl (lv_at hl 1 rfl) ?_
  refine j_ialdE (k := 6) (n := 5) (t := t) C (ml (by decide)) (rfl) (rfl) (rfl) (by omega) (by decide) dX12_reachOf_5 ?_
  refine j_if_ne (tgt := 18) C dX12_reachOf_6 (by decide) (fun c_1_ => ?_) (fun c_1_ => ?_)
  · skip
    refine j_aload_n C dX12_reachOf_18 rfl (lv_at hl 0 rfl) ?_
    refine j_getR (k := 0) (k2 := 6) C (f_RX12_25_12) (ml (by decide)) (rfl) (rfl) dX12_reachOf_19 ?_
    refine j_iload_n C dX12_reachOf_22 rfl (lv_at hl 1 rfl) ?_
    refine j_ialdE (k := 6) (n := 5) (t := t) C (ml (by decide)) (rfl) (rfl) (rfl) (by omega) (by decide) dX12_reachOf_23 ?_
    refine j_iconst (v := 1) C dX12_reachOf_24 (by decide) ?_
    refine j_icmp_ne (tgt := 39) C dX12_reachOf_25 (by decide) (fun c_2_ => ?_) (fun c_2_ => ?_)
    · skip
      refine j_iconst (v := 2) C dX12_reachOf_39 (by decide) ?_
      refine j_aload_n C dX12_reachOf_40 rfl (lv_at hl 0 rfl) ?_
      refine j_getR (k := 0) (k2 := 7) C (f_RX12_28_12) (ml (by decide)) (rfl) (rfl) dX12_reachOf_41 ?_
      refine j_iload_n C dX12_reachOf_44 rfl (lv_at hl 1 rfl) ?_
      refine j_ialdE (k := 7) (n := 5) (t := t) C (ml (by decide)) (rfl) (rfl) (rfl) (by omega) (by decide) dX12_reachOf_45 ?_
      refine j_imul C dX12_reachOf_46 ?_
      refine j_iret C ⟨rfl, _, rfl, ?_⟩ dX12_reachOf_47
      refine ⟨rfl, ?_⟩
      simp [rchM, c_1_, c_2_]
    · skip
      refine j_aload_n C dX12_reachOf_28 rfl (lv_at hl 0 rfl) ?_
      refine j_getR (k := 0) (k2 := 7) C (f_RX12_28_12) (ml (by decide)) (rfl) (rfl) dX12_reachOf_29 ?_
      refine j_iload_n C dX12_reachOf_32 rfl (lv_at hl 1 rfl) ?_
      refine j_ialdE (k := 7) (n := 5) (t := t) C (ml (by decide)) (rfl) (rfl) (rfl) (by omega) (by decide) dX12_reachOf_33 ?_
      refine j_iconst (v := 1) C dX12_reachOf_34 (by decide) ?_
      refine j_iadd C dX12_reachOf_35 ?_
      refine j_goto (tgt := 47) C dX12_reachOf_36 (by decide) ?_
      refine j_iret C ⟨rfl, _, rfl, ?_⟩ dX12_reachOf_47
      refine ⟨rfl, ?_⟩
      simp [rchM, c_1_, c_2_]
  · skip
    refine j_aload_n C dX12_reachOf_9 rfl (lv_at hl 0 rfl) ?_
    refine j_getR (k := 0) (k2 := 7) C (f_RX12_28_12) (ml (by decide)) (rfl) (rfl) dX12_reachOf_10 ?_
    refine j_iload_n C dX12_reachOf_13 rfl (lv_at hl 1 rfl) ?_
    refine j_ialdE (k := 7) (n := 5) (t := t) C (ml (by decide)) (rfl) (rfl) (rfl) (by omega) (by decide) dX12_reachOf_14 ?_
    refine j_goto (tgt := 47) C dX12_reachOf_15 (by decide) ?_
    refine j_iret C ⟨rfl, _, rfl, ?_⟩ dX12_reachOf_47
    refine ⟨rfl, ?_⟩
    simp [rchM, c_1_]
abbrev rm_X12_measureBy : Room := { frames := 0, cells := 0, slots := 0, locals := 0 }
set_option maxHeartbeats 4000000 in
set_option maxRecDepth 100000 in
theorem k_X12_measureBy (l : Launch) (ad : Nat → Nat) (V : Vt) (z0 z1 : Int32) (g : Nat) (e1 : z1 = nI g) (hg : g < 4)  : Ct l yX12_measureBy cX12_measureBy 4 (some .int) rm_X12_measureBy (mS ad) V [.ref (ad (0)), .int (z0), .int (z1)] (rI fun x V2 => V2 = V ∧ x = near z0 (V 4 g) (V 5 g) (V 0 5)) := by
  subst e1
  refine Ct_of (by decide) (Nat.le_of_ble_eq_true rfl) ?_
  intro p e s m below meth c A D cy ls C hl
  have hl : lv_has ls 4 [(0, .ref (ad (0))), (1, .int (z0)), (2, .int (nI g))] := hl
  refine j_iload_n C dX12_measureBy_0 rfl (lv_at hl 1 rfl) ?_
  refine j_aload_n C dX12_measureBy_1 rfl (lv_at hl 0 rfl) ?_
  refine j_getR (k := 0) (k2 := 4) C (f_RX12_19_12) (ml (by decide)) (rfl) (rfl) dX12_measureBy_2 ?_
  refine j_iload_n C dX12_measureBy_5 rfl (lv_at hl 2 rfl) ?_
  refine j_ialdE (k := 4) (n := 4) (t := g) C (ml (by decide)) (rfl) (rfl) (rfl) (by omega) (by decide) dX12_measureBy_6 ?_
  refine j_icmp_ge (tgt := 21) C dX12_measureBy_7 (by decide) (fun c_1_ => ?_) (fun c_1_ => ?_)
  · have n_1_ := Int32.not_lt.mpr c_1_
    refine j_iload_n C dX12_measureBy_21 rfl (lv_at hl 1 rfl) ?_
    refine j_aload_n C dX12_measureBy_22 rfl (lv_at hl 0 rfl) ?_
    refine j_getR (k := 0) (k2 := 4) C (f_RX12_19_12) (ml (by decide)) (rfl) (rfl) dX12_measureBy_23 ?_
    refine j_iload_n C dX12_measureBy_26 rfl (lv_at hl 2 rfl) ?_
    refine j_ialdE (k := 4) (n := 4) (t := g) C (ml (by decide)) (rfl) (rfl) (rfl) (by omega) (by decide) dX12_measureBy_27 ?_
    refine j_isub C dX12_measureBy_28 ?_
    refine j_istore_n (lv2 := [(3, .int (z0 - (V 4 g))), (0, .ref (ad (0))), (1, .int (z0)), (2, .int (nI g))]) C dX12_measureBy_29 rfl hl (by decide) rfl (fun ls hl => ?_)
    refine j_iload_n C dX12_measureBy_30 rfl (lv_at hl 0 rfl) ?_
    refine j_aload_n C dX12_measureBy_31 rfl (lv_at hl 1 rfl) ?_
    refine j_getR (k := 0) (k2 := 5) C (f_RX12_22_12) (ml (by decide)) (rfl) (rfl) dX12_measureBy_32 ?_
    refine j_iload_n C dX12_measureBy_35 rfl (lv_at hl 3 rfl) ?_
    refine j_ialdE (k := 5) (n := 4) (t := g) C (ml (by decide)) (rfl) (rfl) (rfl) (by omega) (by decide) dX12_measureBy_36 ?_
    refine j_icmp_gt (tgt := 44) C dX12_measureBy_37 (by decide) (fun c_2_ => ?_) (fun c_2_ => ?_)
    · have n_2_ := Int32.not_le.mpr c_2_
      refine j_iload_n C dX12_measureBy_44 rfl (lv_at hl 0 rfl) ?_
      refine j_aload_n C dX12_measureBy_45 rfl (lv_at hl 1 rfl) ?_
      refine j_getI (k := 0) C (f_RX12_126_12) (ml (by decide)) (rfl) dX12_measureBy_46 ?_
      refine j_iadd C dX12_measureBy_49 ?_
      refine j_iret C ⟨rfl, _, rfl, ?_⟩ dX12_measureBy_50
      refine ⟨rfl, ?_⟩
      have ea : aprt z0 (V 4 g) = z0 - V 4 g := if_neg (Int32.not_lt.mpr c_1_)
      unfold near
      rw [ea, if_neg (Int32.not_le.mpr c_2_)]
    · have n_2_ := Int32.not_lt.mp c_2_
      refine j_iconst (v := 0) C dX12_measureBy_40 (by decide) ?_
      refine j_goto (tgt := 50) C dX12_measureBy_41 (by decide) ?_
      refine j_iret C ⟨rfl, _, rfl, ?_⟩ dX12_measureBy_50
      refine ⟨rfl, ?_⟩
      have ea : aprt z0 (V 4 g) = z0 - V 4 g := if_neg (Int32.not_lt.mpr c_1_)
      unfold near
      rw [ea, if_pos (Int32.not_lt.mp c_2_)]
  · have n_1_ := Int32.not_le.mp c_1_
    refine j_aload_n C dX12_measureBy_10 rfl (lv_at hl 0 rfl) ?_
    refine j_getR (k := 0) (k2 := 4) C (f_RX12_19_12) (ml (by decide)) (rfl) (rfl) dX12_measureBy_11 ?_
    refine j_iload_n C dX12_measureBy_14 rfl (lv_at hl 2 rfl) ?_
    refine j_ialdE (k := 4) (n := 4) (t := g) C (ml (by decide)) (rfl) (rfl) (rfl) (by omega) (by decide) dX12_measureBy_15 ?_
    refine j_iload_n C dX12_measureBy_16 rfl (lv_at hl 1 rfl) ?_
    refine j_isub C dX12_measureBy_17 ?_
    refine j_goto (tgt := 29) C dX12_measureBy_18 (by decide) ?_
    refine j_istore_n (lv2 := [(3, .int ((V 4 g) - z0)), (0, .ref (ad (0))), (1, .int (z0)), (2, .int (nI g))]) C dX12_measureBy_29 rfl hl (by decide) rfl (fun ls hl => ?_)
    refine j_iload_n C dX12_measureBy_30 rfl (lv_at hl 0 rfl) ?_
    refine j_aload_n C dX12_measureBy_31 rfl (lv_at hl 1 rfl) ?_
    refine j_getR (k := 0) (k2 := 5) C (f_RX12_22_12) (ml (by decide)) (rfl) (rfl) dX12_measureBy_32 ?_
    refine j_iload_n C dX12_measureBy_35 rfl (lv_at hl 3 rfl) ?_
    refine j_ialdE (k := 5) (n := 4) (t := g) C (ml (by decide)) (rfl) (rfl) (rfl) (by omega) (by decide) dX12_measureBy_36 ?_
    refine j_icmp_gt (tgt := 44) C dX12_measureBy_37 (by decide) (fun c_3_ => ?_) (fun c_3_ => ?_)
    · have n_3_ := Int32.not_le.mpr c_3_
      refine j_iload_n C dX12_measureBy_44 rfl (lv_at hl 0 rfl) ?_
      refine j_aload_n C dX12_measureBy_45 rfl (lv_at hl 1 rfl) ?_
      refine j_getI (k := 0) C (f_RX12_126_12) (ml (by decide)) (rfl) dX12_measureBy_46 ?_
      refine j_iadd C dX12_measureBy_49 ?_
      refine j_iret C ⟨rfl, _, rfl, ?_⟩ dX12_measureBy_50
      refine ⟨rfl, ?_⟩
      have ea : aprt z0 (V 4 g) = V 4 g - z0 := if_pos (Int32.not_le.mp c_1_)
      unfold near
      rw [ea, if_neg (Int32.not_le.mpr c_3_)]
    · have n_3_ := Int32.not_lt.mp c_3_
      refine j_iconst (v := 0) C dX12_measureBy_40 (by decide) ?_
      refine j_goto (tgt := 50) C dX12_measureBy_41 (by decide) ?_
      refine j_iret C ⟨rfl, _, rfl, ?_⟩ dX12_measureBy_50
      refine ⟨rfl, ?_⟩
      have ea : aprt z0 (V 4 g) = V 4 g - z0 := if_pos (Int32.not_le.mp c_1_)
      unfold near
      rw [ea, if_pos (Int32.not_lt.mp c_3_)]
abbrev rm_X12_measureOf : Room := { frames := 1, cells := 0, slots := 0, locals := 23 }
set_option maxHeartbeats 4000000 in
set_option maxRecDepth 100000 in
theorem k_X12_measureOf (l : Launch) (ad : Nat → Nat) (V : Vt) (z0 z1 : Int32) (t : Nat) (e0 : z0 = nI t) (ht : t < 5) (g : Nat) (e1 : z1 = nI g) (hg : g < 4)  : Ct l yX12_measureOf cX12_measureOf 3 (some .int) rm_X12_measureOf (mS ad) V [.ref (ad (0)), .int (z0), .int (z1)] (rI fun x V2 => V2 = V ∧ x = nrM V t g) := by
  subst e0
  subst e1
  refine Ct_of (by decide) (Nat.le_of_ble_eq_true rfl) ?_
  intro p e s m below meth c A D cy ls C hl
  have hl : lv_has ls 3 [(0, .ref (ad (0))), (1, .int (nI t)), (2, .int (nI g))] := hl
  refine j_aload_n C dX12_measureOf_0 rfl (lv_at hl 0 rfl) ?_
  refine j_aload_n C dX12_measureOf_1 rfl (lv_at hl 0 rfl) ?_
  refine j_iload_n C dX12_measureOf_2 rfl (lv_at hl 1 rfl) ?_
  refine j_callV (k := 0) C [.int (nI t)] [.ref (ad (0))] (k_X12_reachOf l ad V (nI t) t (rfl) (by omega) ) v_RX12_151 (ml (by decide)) (rfl) rfl ⟨rfl, rfl, Nat.le_of_ble_eq_true rfl, Nat.le_of_ble_eq_true rfl⟩ rfl hl.1 rfl (Nat.le_of_ble_eq_true rfl) ⟨Nat.le_of_ble_eq_true rfl, Nat.le_of_ble_eq_true rfl⟩ dX12_measureOf_3 (kI fun x_1_ U1 h_1_ => ?_)
  obtain ⟨eU1, h_1_⟩ := h_1_
  have eU1 := eU1.symm
  subst eU1
  refine j_iload_n C dX12_measureOf_6 rfl (lv_at hl 2 rfl) ?_
  refine j_callV (k := 0) C [.int (x_1_), .int (nI g)] [] (k_X12_measureBy l ad V (x_1_) (nI g) g (rfl) (by omega) ) v_RX12_154 (ml (by decide)) (rfl) rfl ⟨rfl, rfl, Nat.le_of_ble_eq_true rfl, Nat.le_of_ble_eq_true rfl⟩ rfl hl.1 rfl (Nat.le_of_ble_eq_true rfl) ⟨Nat.le_of_ble_eq_true rfl, Nat.le_of_ble_eq_true rfl⟩ dX12_measureOf_7 (kI fun x_2_ U2 h_2_ => ?_)
  obtain ⟨eU2, h_2_⟩ := h_2_
  have eU2 := eU2.symm
  subst eU2
  refine j_iret C ⟨rfl, _, rfl, ?_⟩ dX12_measureOf_10
  refine ⟨rfl, ?_⟩
  rw [h_2_, h_1_]
  rfl
