abbrev rm_X11_weds : Room := { frames := 6, cells := 0, slots := 0, locals := 135 }
set_option maxHeartbeats 4000000 in
set_option maxRecDepth 100000 in
theorem k_X11_weds (l : Launch) (ad tk : Nat → Nat) (nt : Nat) (V : Vt) (ng : Nat) (rr : Nat → Nat) (c_0_ : Nat) (hX : XI tk nt V ng rr c_0_) (Φ : Nat → Vt → (Nat → Nat) → Prop) (hΦ : wKp nt ng Φ) (hΦ0 : ∀ U, pP tk V nt ng rr nt U → Φ 0 U (fun _ => 0)) (z0 : Int32) : Ct l yX11_weds cX11_weds 2 (some .int) rm_X11_weds (xS ad tk nt) V [.ref (ad (55)), .int (z0)] (rI fun x V2 => (∃ (j : Nat) (U : Vt) (n_8_ : Nat) (rf2 : Nat → Nat), j < nt ∧ z0 = nI j ∧ pP tk V nt ng rr nt U ∧ n_8_ ≤ 24 ∧ frW U V2 ∧ rfO V2 nt rf2 ∧ Φ n_8_ V2 rf2 ∧ (n_8_ = 24 ∨ ∀ q, q < nt → V2 51 q = -9 → deI V2 q (rf2 q) ng = -9) ∧ x = V2 51 j) ∨ ((z0 < 0 ∨ nI nt ≤ z0) ∧ x = -1 ∧ V2 = V)) := by
  refine Ct_of (by decide) (Nat.le_of_ble_eq_true rfl) ?_
  intro p e s m below meth c A D cy ls C hl
  have hl : lv_has ls 2 [(0, .ref (ad (55))), (1, .int (z0))] := hl
  have ng4 := hX.1.2.1
  have nt5 := hX.2.2.1
  refine j_aload_n C dX11_weds_0 rfl (lv_at hl 0 rfl) ?_
  refine j_iload_n C dX11_weds_1 rfl (lv_at hl 1 rfl) ?_
  refine j_callV (k := 55) C [.int (z0)] [] (k_X11_throwerOf l ad tk nt V hX.2.1 hX.2.2.1 (z0)) v_RX11_124 (xl (by decide)) (rfl) rfl ⟨rfl, rfl, Nat.le_of_ble_eq_true rfl, Nat.le_of_ble_eq_true rfl⟩ rfl hl.1 rfl (Nat.le_of_ble_eq_true rfl) ⟨Nat.le_of_ble_eq_true rfl, Nat.le_of_ble_eq_true rfl⟩ dX11_weds_2 (kA fun x_1_ U1 h_1_ => ?_)
  obtain ⟨eU1, h_1_⟩ := h_1_
  have eU1 := eU1.symm
  subst eU1
  rcases h_1_ with ⟨j_1_, hj1, ej1, ev1⟩ | ⟨ho1, ev1⟩
  · subst ev1
    refine j_ifnonnull (tgt := 10) C dX11_weds_5 (by decide) ?_
    refine j_aload_n C dX11_weds_10 rfl (lv_at hl 0 rfl) ?_
    refine j_callV (k := 55) C [] [] (k_X11_preparePairing l ad tk nt V ng rr c_0_ hX) v_RX11_182 (xl (by decide)) (rfl) rfl ⟨rfl, rfl, Nat.le_of_ble_eq_true rfl, Nat.le_of_ble_eq_true rfl⟩ rfl hl.1 rfl (Nat.le_of_ble_eq_true rfl) ⟨Nat.le_of_ble_eq_true rfl, Nat.le_of_ble_eq_true rfl⟩ dX11_weds_11 (kU fun U2 h_2_ => ?_)
    obtain ⟨U9, eU9⟩ : ∃ U9, U9 = U2 := ⟨_, rfl⟩
    have hP8 : pP tk V nt ng rr nt U9 := by rw [eU9]; exact h_2_
    refine j_aload_n C dX11_weds_14 rfl (lv_at hl 0 rfl) ?_
    refine j_getR (k := 55) (k2 := 48) C (f_RX11_61_11) (xl (by decide)) (rfl) (rfl) dX11_weds_15 ?_
    refine j_callV (k := 48) C [] [] (k_X4_wedAll l ad tk nt U2  nt (eU9 ▸ hP8.2.1) nt5 ng (eU9 ▸ hP8.2.2.1) ng4 Φ hΦ (fun _ => 0) (fun t ht => ⟨eU9 ▸ (hP8.2.2.2.2 t (by omega)).2, Nat.zero_lt_succ 15⟩) (eU9 ▸ hΦ0 U9 hP8)) v_RX11_197 (xl (by decide)) (rfl) rfl ⟨rfl, rfl, Nat.le_of_ble_eq_true rfl, Nat.le_of_ble_eq_true rfl⟩ rfl hl.1 rfl (Nat.le_of_ble_eq_true rfl) ⟨Nat.le_of_ble_eq_true rfl, Nat.le_of_ble_eq_true rfl⟩ dX11_weds_18 (kU fun U3 h_3_ => ?_)
    obtain ⟨n_8_, rf8, hn8, hf8, hr8, hp8, hd8⟩ := h_3_
    rw [← eU9] at hf8
    refine j_aload_n C dX11_weds_21 rfl (lv_at hl 0 rfl) ?_
    refine j_getR (k := 55) (k2 := 48) C (f_RX11_61_11) (xl (by decide)) (rfl) (rfl) dX11_weds_22 ?_
    refine j_iload_n C dX11_weds_25 rfl (lv_at hl 1 rfl) ?_
    refine j_callV (k := 48) C [.int (z0)] [] (k_X4_girlOf l ad tk nt U3 (z0) nt (by rw [hf8 48 (by decide) (by decide)]; exact hP8.2.1) nt5) v_RX11_194 (xl (by decide)) (rfl) rfl ⟨rfl, rfl, Nat.le_of_ble_eq_true rfl, Nat.le_of_ble_eq_true rfl⟩ rfl hl.1 rfl (Nat.le_of_ble_eq_true rfl) ⟨Nat.le_of_ble_eq_true rfl, Nat.le_of_ble_eq_true rfl⟩ dX11_weds_26 (kI fun x_4_ U4 h_4_ => ?_)
    obtain ⟨eU4, h_4_⟩ := h_4_
    have eU4 := eU4.symm
    subst eU4
    refine j_iret C ⟨rfl, _, rfl, ?_⟩ dX11_weds_29
    exact Or.inl ⟨j_1_, U9, n_8_, rf8, hj1, ej1, hP8, hn8, hf8, hr8, hp8, hd8, by rw [h_4_, ej1, atR_in hj1 (by omega)]⟩
  · subst ev1
    refine j_ifnonnullN C dX11_weds_5 ?_
    refine j_iconst (v := (-1)) C dX11_weds_8 (by decide) ?_
    refine j_iret C ⟨rfl, _, rfl, ?_⟩ dX11_weds_9
    exact Or.inr ⟨ho1, rfl, rfl⟩
