abbrev rm_X11_canAct : Room := { frames := 4, cells := 0, slots := 0, locals := 91 }
set_option maxHeartbeats 4000000 in
set_option maxRecDepth 100000 in
theorem k_X11_canAct (l : Launch) (ad tk : Nat → Nat) (nt : Nat) (V : Vt) (ng : Nat) (rr : Nat → Nat) (c_0_ : Nat) (hX : XI tk nt V ng rr c_0_) (rc ys ls9 : Nat → Int32) (F : Fs) (hrc : ∀ t, t < nt → rch (kdI (tk t)) (V (56 + t) 1) = rc t) (hF : feR V ng ys ls9 F) (z0 z1 : Int32) : Ct l yX11_canAct cX11_canAct 4 (some .boolean) rm_X11_canAct (xS ad tk nt) V [.ref (ad (55)), .int (z0), .int (z1)] (rI fun x V2 => frF V V2 ∧ V2 14 1 = V 14 1 ∧ ((∃ G, feS nt ng rc ys ls9 F z0 z1 = some G ∧ x = 1 ∧ feR V2 ng ys ls9 G) ∨ (feS nt ng rc ys ls9 F z0 z1 = none ∧ x = 0 ∧ V2 = V))) := by
  refine Ct_of (by decide) (Nat.le_of_ble_eq_true rfl) ?_
  intro p e s m below meth c A D cy ls C hl
  have hl : lv_has ls 4 [(0, .ref (ad (55))), (1, .int (z0)), (2, .int (z1))] := hl
  have ng4 := hX.1.2.1
  have nt5 := hX.2.2.1
  refine j_iload_n C dX11_canAct_0 rfl (lv_at hl 2 rfl) ?_
  refine j_bipush (v := 10) C dX11_canAct_1 (by decide) ?_
  refine j_icmp_ne (tgt := 19) C dX11_canAct_3 (by decide) (fun c_1_ => ?_) (fun c_1_ => ?_)
  · skip
    refine j_iload_n C dX11_canAct_19 rfl (lv_at hl 2 rfl) ?_
    refine j_bipush (v := 11) C dX11_canAct_20 (by decide) ?_
    refine j_icmp_ne (tgt := 34) C dX11_canAct_22 (by decide) (fun c_2_ => ?_) (fun c_2_ => ?_)
    · skip
      refine j_aload_n C dX11_canAct_34 rfl (lv_at hl 0 rfl) ?_
      refine j_iload_n C dX11_canAct_35 rfl (lv_at hl 1 rfl) ?_
      refine j_callV (k := 55) C [.int (z0)] [] (k_X11_throwerOf l ad tk nt V hX.2.1 hX.2.2.1 (z0)) v_RX11_124 (xl (by decide)) (rfl) rfl ⟨rfl, rfl, Nat.le_of_ble_eq_true rfl, Nat.le_of_ble_eq_true rfl⟩ rfl hl.1 rfl (Nat.le_of_ble_eq_true rfl) ⟨Nat.le_of_ble_eq_true rfl, Nat.le_of_ble_eq_true rfl⟩ dX11_canAct_36 (kA fun x_3_ U3 h_3_ => ?_)
      obtain ⟨eU3, h_3_⟩ := h_3_
      have eU3 := eU3.symm
      subst eU3
      rcases h_3_ with ⟨j_3_, hj3, ej3, ev3⟩ | ⟨ho3, ev3⟩
      · subst ev3
        refine j_astore_n (lv2 := [(3, .ref (ad (56 + j_3_))), (0, .ref (ad (55))), (1, .int (z0)), (2, .int (z1))]) C dX11_canAct_39 rfl hl (by decide) rfl (fun ls hl => ?_)
        refine j_aload_n C dX11_canAct_40 rfl (lv_at hl 0 rfl) ?_
        refine j_ifnull C dX11_canAct_41 ?_
        refine j_aload_n C dX11_canAct_44 rfl (lv_at hl 1 rfl) ?_
        refine j_getR (k := 55) (k2 := 14) C (f_RX11_54_11) (xl (by decide)) (rfl) (rfl) dX11_canAct_45 ?_
        refine j_aload_n C dX11_canAct_48 rfl (lv_at hl 0 rfl) ?_
        refine j_iload_n C dX11_canAct_49 rfl (lv_at hl 3 rfl) ?_
        refine j_callV (k := 14) C [.ref (ad (56 + j_3_)), .int (z1)] [] (k_X1_throwsAt l ad tk nt V j_3_ hj3 (XI_T hX hj3) ng F.2.1 (feR_cl hF) (z1)) v_RX11_313 (xl (by decide)) (rfl) rfl ⟨rfl, rfl, Nat.le_of_ble_eq_true rfl, Nat.le_of_ble_eq_true rfl⟩ rfl hl.1 rfl (Nat.le_of_ble_eq_true rfl) ⟨Nat.le_of_ble_eq_true rfl, Nat.le_of_ble_eq_true rfl⟩ dX11_canAct_50 (kI fun x_4_ U4 h_4_ => ?_)
        rcases h_4_ with ⟨j_4_, hj4, ej4, hr4, ex4, eU4⟩ | ⟨ho4, ex4, eU4⟩
        · skip
          subst ex4
          refine j_if_eq (tgt := 60) C dX11_canAct_53 (by decide) (fun c_5_ => ?_) (fun c_5_ => ?_)
          · skip
            exact absurd c_5_ (by decide)
          · skip
            refine j_iconst (v := 1) C dX11_canAct_56 (by decide) ?_
            refine j_goto (tgt := 61) C dX11_canAct_57 (by decide) ?_
            refine j_zret C rfl ⟨rfl, _, rfl, ?_⟩ dX11_canAct_61
            obtain ⟨hin3, hcl3⟩ := inz ej3 hj3 (by omega)
            obtain ⟨hin4, hcl4⟩ := inz ej4 hj4 (by omega)
            have hfr := thV_fr (V := V) (t := j_3_) (j := j_4_) (r := F.2.1 j_4_) (d := near (rch (kdI (tk j_3_)) (V (56 + j_3_) 1)) (V (15 + 2 + 3 * j_4_) 0) (V (15 + 2 + 3 * j_4_) 1) (V 15 0)) (by omega)
            rw [← eU4] at hfr
            refine ⟨hfr.1, hfr.2, Or.inl ⟨_, ?_, rfl, by rw [eU4]; exact feR_throw hj4 hr4 (by omega) (hX.2.2.2.1 _ hj3).2 (by rw [hrc _ hj3, (hF.2.2.2.1 _ hj4).1, (hF.2.2.2.1 _ hj4).2.1, hF.1]) hF⟩⟩
            unfold feS
            rw [if_neg c_1_, if_neg c_2_, if_pos hin3, if_pos hin4, hcl4, if_pos hr4, hcl3]
        · skip
          have eU4 := eU4.symm
          subst eU4
          subst ex4
          refine j_if_eq (tgt := 60) C dX11_canAct_53 (by decide) (fun c_6_ => ?_) (fun c_6_ => ?_)
          · skip
            refine j_iconst (v := 0) C dX11_canAct_60 (by decide) ?_
            refine j_zret C rfl ⟨rfl, _, rfl, ?_⟩ dX11_canAct_61
            obtain ⟨hin3, hcl3⟩ := inz ej3 hj3 (by omega)
            refine ⟨frF.rf, rfl, Or.inr ⟨?_, rfl, rfl⟩⟩
            unfold feS
            rw [if_neg c_1_, if_neg c_2_, if_pos hin3]
            rcases ho4 with h | h | ⟨j_8_, hj8, ej8, h⟩
            · rw [if_neg (outR (Or.inl h))]
            · rw [if_neg (outR (Or.inr h))]
            · obtain ⟨hin8, hcl8⟩ := inz ej8 hj8 (by omega)
              rw [if_pos hin8, hcl8, if_neg (by omega)]
          · skip
            exact absurd rfl c_6_
      · subst ev3
        refine j_astore_nN (lv2 := [(3, .null), (0, .ref (ad (55))), (1, .int (z0)), (2, .int (z1))]) C dX11_canAct_39 rfl hl (by decide) rfl (fun ls hl => ?_)
        refine j_aload_nN C dX11_canAct_40 rfl (lv_at hl 0 rfl) ?_
        refine j_ifnullN (tgt := 60) C dX11_canAct_41 (by decide) ?_
        refine j_iconst (v := 0) C dX11_canAct_60 (by decide) ?_
        refine j_zret C rfl ⟨rfl, _, rfl, ?_⟩ dX11_canAct_61
        refine ⟨frF.rf, rfl, Or.inr ⟨?_, rfl, rfl⟩⟩
        unfold feS
        rw [if_neg c_1_, if_neg c_2_, if_neg (outR ho3)]
    · skip
      refine j_aload_n C dX11_canAct_25 rfl (lv_at hl 0 rfl) ?_
      refine j_getR (k := 55) (k2 := 14) C (f_RX11_54_11) (xl (by decide)) (rfl) (rfl) dX11_canAct_26 ?_
      refine j_iload_n C dX11_canAct_29 rfl (lv_at hl 1 rfl) ?_
      refine j_callV (k := 14) C [.int (z0)] [] (k_X1_clears l ad tk nt V ng F.2.1 (feR_cl hF) (z0)) v_RX11_310 (xl (by decide)) (rfl) rfl ⟨rfl, rfl, Nat.le_of_ble_eq_true rfl, Nat.le_of_ble_eq_true rfl⟩ rfl hl.1 rfl (Nat.le_of_ble_eq_true rfl) ⟨Nat.le_of_ble_eq_true rfl, Nat.le_of_ble_eq_true rfl⟩ dX11_canAct_30 (kI fun x_7_ U7 h_7_ => ?_)
      rcases h_7_ with ⟨j_7_, hj7, ej7, ex7, eU7⟩ | ⟨ho7, ex7, eU7⟩
      · skip
        subst ex7
        refine j_zret C rfl ⟨rfl, _, rfl, ?_⟩ dX11_canAct_33
        obtain ⟨hin7, hcl7⟩ := inz ej7 hj7 (by omega)
        refine ⟨by rw [eU7]; exact frF.up (by omega), by rw [eU7, up2_k _ _ (by omega)], Or.inl ⟨_, ?_, rfl, by rw [eU7]; exact feR_clear hj7 hF⟩⟩
        unfold feS
        rw [if_neg c_1_, if_pos c_2_, if_pos hin7, hcl7]
      · skip
        have eU7 := eU7.symm
        subst eU7
        subst ex7
        refine j_zret C rfl ⟨rfl, _, rfl, ?_⟩ dX11_canAct_33
        refine ⟨frF.rf, rfl, Or.inr ⟨?_, rfl, rfl⟩⟩
        unfold feS
        rw [if_neg c_1_, if_pos c_2_, if_neg (outR ho7)]
  · skip
    refine j_aload_n C dX11_canAct_6 rfl (lv_at hl 0 rfl) ?_
    refine j_getR (k := 55) (k2 := 14) C (f_RX11_54_11) (xl (by decide)) (rfl) (rfl) dX11_canAct_7 ?_
    refine j_getR (k := 14) (k2 := 15) C (f_RX11_309_1) (xl (by decide)) (rfl) (rfl) dX11_canAct_10 ?_
    refine j_iload_n C dX11_canAct_13 rfl (lv_at hl 1 rfl) ?_
    refine j_putI (k := 15) C (f_RX11_147_0) p_0_0 (xl (xC (tk := tk) (nt := nt) (k := 15) (Or.inr rfl)).1.1) ((xC (tk := tk) (nt := nt) (k := 15) (Or.inr rfl)).2.1) dX11_canAct_14 (fun V1 eV1 => ?_)
    refine j_iconst (v := 1) C dX11_canAct_17 (by decide) ?_
    refine j_zret C rfl ⟨rfl, _, rfl, ?_⟩ dX11_canAct_18
    refine ⟨by rw [eV1]; exact frF.up (by decide), by rw [eV1, up2_k _ _ (by decide)], Or.inl ⟨_, if_pos c_1_, rfl, by rw [eV1]; exact feR_frost hF⟩⟩
