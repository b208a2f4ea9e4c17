abbrev rm_X12_winsHer : Room := { frames := 3, cells := 0, slots := 0, locals := 70 }
set_option maxHeartbeats 4000000 in
set_option maxRecDepth 100000 in
theorem k_X12_winsHer (l : Launch) (ad : Nat → Nat) (V : Vt) (z0 z1 : Int32) (t : Nat) (e0 : z0 = nI t) (ht : t < 5) (g : Nat) (e1 : z1 = nI g) (hg : g < 4) (r : Nat) (hr : V 8 g = nI r) (r8 : r ≤ 8)  : Ct l yX12_winsHer cX12_winsHer 3 (some .boolean) rm_X12_winsHer (mS ad) V [.ref (ad (0)), .int (z0), .int (z1)] (rI fun x V2 => (V2 = if r < 8 then up2 (up2 V 9 (8 * g + r) (nI t)) 10 (8 * g + r) (nrM V t g) else V) ∧ x = bI (r < 8 ∧ holI (upd (mW V g) r (nI t)) (upd (mM V g) r (nrM V t g)) (r + 1) = nI t)) := by
  subst e0
  subst e1
  refine Ct_of (by decide) (Nat.le_of_ble_eq_true rfl) ?_
  intro p e s m below meth c A D cy ls C hl
  have hl : lv_has ls 3 [(0, .ref (ad (0))), (1, .int (nI t)), (2, .int (nI g))] := hl
  refine j_aload_n C dX12_winsHer_0 rfl (lv_at hl 0 rfl) ?_
  refine j_iload_n C dX12_winsHer_1 rfl (lv_at hl 1 rfl) ?_
  refine j_iload_n C dX12_winsHer_2 rfl (lv_at hl 2 rfl) ?_
  refine j_aload_n C dX12_winsHer_3 rfl (lv_at hl 0 rfl) ?_
  refine j_iload_n C dX12_winsHer_4 rfl (lv_at hl 1 rfl) ?_
  refine j_iload_n C dX12_winsHer_5 rfl (lv_at hl 2 rfl) ?_
  refine j_callV (k := 0) C [.int (nI t), .int (nI g)] [.int (nI g), .int (nI t), .ref (ad (0))] (k_X12_measureOf l ad V (nI t) (nI g) t (rfl) (by omega) g (rfl) (by omega) ) v_RX12_179 (ml (by decide)) (rfl) rfl ⟨rfl, rfl, Nat.le_of_ble_eq_true rfl, Nat.le_of_ble_eq_true rfl⟩ rfl hl.1 rfl (Nat.le_of_ble_eq_true rfl) ⟨Nat.le_of_ble_eq_true rfl, Nat.le_of_ble_eq_true rfl⟩ dX12_winsHer_6 (kI fun x_1_ U1 h_1_ => ?_)
  obtain ⟨eU1, h_1_⟩ := h_1_
  have eU1 := eU1.symm
  subst eU1
  refine j_callV (k := 0) C [.int (nI t), .int (nI g), .int (x_1_)] [] (k_X12_hasBy l ad V (nI t) (nI g) (x_1_) g (rfl) (by omega) r hr r8) v_RX12_213 (ml (by decide)) (rfl) rfl ⟨rfl, rfl, Nat.le_of_ble_eq_true rfl, Nat.le_of_ble_eq_true rfl⟩ rfl hl.1 rfl (Nat.le_of_ble_eq_true rfl) ⟨Nat.le_of_ble_eq_true rfl, Nat.le_of_ble_eq_true rfl⟩ dX12_winsHer_9 (kI fun x_2_ U2 h_2_ => ?_)
  obtain ⟨eU2, h_2_⟩ := h_2_
  refine j_zret C (by first | (rw [h_2_]; exact bI_n) | (rw [h_2_]; rfl) | (rw [h_2_, h_1_]; exact bI_n)) ⟨rfl, _, rfl, ?_⟩ dX12_winsHer_12
  rw [h_1_] at h_2_ eU2
  exact ⟨eU2, h_2_⟩
abbrev rm_X12_wins : Room := { frames := 4, cells := 0, slots := 0, locals := 92 }
set_option maxHeartbeats 4000000 in
set_option maxRecDepth 100000 in
theorem k_X12_wins (l : Launch) (ad : Nat → Nat) (V : Vt) (z0 : Int32) (ng : Nat) (rr : Nat → Nat) (nt c_0_ : Nat) (hM : MI V ng rr nt c_0_)  : Ct l yX12_wins cX12_wins 4 (some .int) rm_X12_wins (mS ad) V [.ref (ad (0)), .int (z0)] (rI fun x V2 => scE ng rr V V2 ∧ x = if ¬ z0 < 0 ∧ z0 < nI nt then setP (fun g => hdM V rr z0.toNatClampNeg g (rchM (V 6 z0.toNatClampNeg) (V 7 z0.toNatClampNeg))) ng else -1) := by
  refine Ct_of (by decide) (Nat.le_of_ble_eq_true rfl) ?_
  intro p e s m below meth c A D cy ls C hl
  have hl : lv_has ls 4 [(0, .ref (ad (0))), (1, .int (z0))] := hl
  have ng4 := hM.2.1
  have nt5 := hM.2.2.2.1
  refine j_aload_n C dX12_wins_0 rfl (lv_at hl 0 rfl) ?_
  refine j_iload_n C dX12_wins_1 rfl (lv_at hl 1 rfl) ?_
  refine j_callV (k := 0) C [.int (z0)] [] (k_X12_isThrower l ad V (z0)  nt hM.2.2.1 hM.2.2.2.1) v_RX12_170 (ml (by decide)) (rfl) rfl ⟨rfl, rfl, Nat.le_of_ble_eq_true rfl, Nat.le_of_ble_eq_true rfl⟩ rfl hl.1 rfl (Nat.le_of_ble_eq_true rfl) ⟨Nat.le_of_ble_eq_true rfl, Nat.le_of_ble_eq_true rfl⟩ dX12_wins_2 (kI fun x_1_ U1 h_1_ => ?_)
  obtain ⟨eU1, h_1_⟩ := h_1_
  have eU1 := eU1.symm
  subst eU1
  rcases h_1_ with ⟨j_1_, hj1, ej1, ex1⟩ | ⟨ho1, ex1⟩
  · subst ex1
    refine j_if_ne (tgt := 10) C dX12_wins_5 (by decide) (fun c_2_ => ?_) (fun c_2_ => ?_)
    · skip
      refine j_iconst (v := 0) C dX12_wins_10 (by decide) ?_
      refine j_istore_n (lv2 := [(2, .int (0)), (0, .ref (ad (0))), (1, .int (z0))]) C dX12_wins_11 rfl hl (by decide) rfl (fun ls hl => ?_)
      refine j_iconst (v := 0) C dX12_wins_12 (by decide) ?_
      refine j_istore_n (lv2 := [(3, .int (0)), (2, .int (0)), (0, .ref (ad (0))), (1, .int (z0))]) C dX12_wins_13 rfl hl (by decide) rfl (fun ls hl => ?_)
      have loop : ∀ (n_9_ : Nat) (g : Nat) (b : Int32) (Vi : Vt), g ≤ ng → scE ng rr V Vi → b = setP (fun g => hdM V rr j_1_ g (rchM (V 6 j_1_) (V 7 j_1_))) g → ng - g < n_9_ → ∀ (ls : Array Slot), lv_has ls 4 [(0, .ref (ad (0))), (1, .int (z0)), (2, .int (b)), (3, .int (nI g))] → J p l e rm_X12_wins s m [.ref (ad (0)), .int (z0)].toArray below meth c A D cy 0 0 (MQ below (gPost D cy A (fun o9 σ2 V2 => σ2 = mS ad ∧ (rI fun x V2 => scE ng rr V V2 ∧ x = if ¬ z0 < 0 ∧ z0 < nI nt then setP (fun g => hdM V rr z0.toNatClampNeg g (rchM (V 6 z0.toNatClampNeg) (V 7 z0.toNatClampNeg))) ng else -1) o9 V2)) [.ref (ad (0)), .int (z0)].toArray s 0 0 A) (mS ad) Vi (F0 m 14 ls []) := by
        intro n_9_
        induction n_9_ with
        | zero =>
          intro g b Vi hi hE hb hm
          exact absurd hm (by omega)
        | succ n_9_ ih_loop =>
          intro g b Vi hi hE hb hm ls hl
          refine j_iload_n C dX12_wins_14 rfl (lv_at hl 3 rfl) ?_
          refine j_aload_n C dX12_wins_15 rfl (lv_at hl 0 rfl) ?_
          refine j_getI (k := 0) C (f_RX12_89_12) (ml (by decide)) (rfl) dX12_wins_16 ?_
          refine j_icmp_ge (tgt := 47) C dX12_wins_19 (by decide) (fun c_3_ => ?_) (fun c_3_ => ?_)
          · have n_3_ := Int32.not_lt.mpr c_3_
            have q3 := cLe ((MI_sc hE hM).1) (rfl) (by omega) (by omega) c_3_
            refine j_iload_n C dX12_wins_47 rfl (lv_at hl 2 rfl) ?_
            refine j_iret C ⟨rfl, _, rfl, ?_⟩ dX12_wins_48
            obtain rfl : g = ng := by omega
            obtain ⟨hin1, hcl1⟩ := inz ej1 hj1 (by omega)
            refine ⟨hE, ?_⟩
            rw [if_pos hin1, hcl1]
            exact hb
          · have n_3_ := Int32.not_le.mp c_3_
            have q3 := cNe ((MI_sc hE hM).1) (rfl) (by omega) (by omega) c_3_
            have hlt : g < ng := by omega
            refine j_iload_n C dX12_wins_22 rfl (lv_at hl 2 rfl) ?_
            refine j_aload_n C dX12_wins_23 rfl (lv_at hl 0 rfl) ?_
            refine j_iload_n C dX12_wins_24 rfl (lv_at hl 1 rfl) ?_
            refine j_iload_n C dX12_wins_25 rfl (lv_at hl 3 rfl) ?_
            refine j_callV (k := 0) C [.int (z0), .int (nI g)] [.int (b)] (k_X12_winsHer l ad Vi (z0) (nI g) j_1_ (ej1) (by omega) g (rfl) (by omega) (rr g) ((MI_sc hE hM).2.2.2.2.1 g hlt).1 (hM.2.2.2.2.1 g hlt).2) v_RX12_216 (ml (by decide)) (rfl) rfl ⟨rfl, rfl, Nat.le_of_ble_eq_true rfl, Nat.le_of_ble_eq_true rfl⟩ rfl hl.1 rfl (Nat.le_of_ble_eq_true rfl) ⟨Nat.le_of_ble_eq_true rfl, Nat.le_of_ble_eq_true rfl⟩ dX12_wins_26 (kI fun x_4_ U4 h_4_ => ?_)
            obtain ⟨eU4, h_4_⟩ := h_4_
            have hd9 : x_4_ = 0 ↔ ¬ hdM V rr j_1_ g (rchM (V 6 j_1_) (V 7 j_1_)) := by
              rw [h_4_, bI_0, ← hdM_sc hE hlt]
              unfold hdM nrM
              rw [hE.row (a := 6) (by omega), hE.row (a := 7) (by omega)]
            have hE2 := hE.tr (sc_had (fun q hq => (hM.2.2.2.2.1 q hq).2) hlt eU4)
            refine j_if_eq (tgt := 38) C dX12_wins_29 (by decide) (fun c_5_ => ?_) (fun c_5_ => ?_)
            · skip
              refine j_iconst (v := 0) C dX12_wins_38 (by decide) ?_
              refine j_ior C dX12_wins_39 ?_
              refine j_istore_n (lv2 := [(2, .int (b ||| 0)), (0, .ref (ad (0))), (1, .int (z0)), (3, .int (nI g))]) C dX12_wins_40 rfl hl (by decide) rfl (fun ls hl => ?_)
              refine j_iinc (v := nI (g + 1)) (lv2 := [(3, .int (nI (g + 1))), (2, .int (b ||| 0)), (0, .ref (ad (0))), (1, .int (z0))]) C dX12_wins_41 hl (k0 := 3) rfl (nI_1 _) (by decide) rfl (fun ls hl => ?_)
              refine j_goto (tgt := 14) C dX12_wins_44 (by decide) ?_
              exact ih_loop (g + 1) (b ||| 0) U4 (by omega) hE2 (by rw [setP_n (hd9.mp c_5_), ← hb]; exact Int32.or_zero) (by omega) ls (lv_sub hl [2, 3, 1, 0] rfl)
            · skip
              refine j_iconst (v := 1) C dX12_wins_32 (by decide) ?_
              refine j_iload_n C dX12_wins_33 rfl (lv_at hl 3 rfl) ?_
              refine j_ishl C dX12_wins_34 ?_
              refine j_goto (tgt := 39) C dX12_wins_35 (by decide) ?_
              refine j_ior C dX12_wins_39 ?_
              refine j_istore_n (lv2 := [(2, .int (b ||| (1 <<< ((nI g) &&& 31)))), (0, .ref (ad (0))), (1, .int (z0)), (3, .int (nI g))]) C dX12_wins_40 rfl hl (by decide) rfl (fun ls hl => ?_)
              refine j_iinc (v := nI (g + 1)) (lv2 := [(3, .int (nI (g + 1))), (2, .int (b ||| (1 <<< ((nI g) &&& 31)))), (0, .ref (ad (0))), (1, .int (z0))]) C dX12_wins_41 hl (k0 := 3) rfl (nI_1 _) (by decide) rfl (fun ls hl => ?_)
              refine j_goto (tgt := 14) C dX12_wins_44 (by decide) ?_
              exact ih_loop (g + 1) (b ||| (1 <<< ((nI g) &&& 31))) U4 (by omega) hE2 (by rw [setP_y (Classical.not_not.mp (mt hd9.mpr c_5_)), ← hb]) (by omega) ls (lv_sub hl [2, 3, 1, 0] rfl)
      exact loop (ng + 1) 0 0 V (by omega) scE.rf rfl (by omega) ls (lv_sub hl [2, 3, 1, 0] rfl)
    · exact absurd c_2_ (by decide)
  · subst ex1
    refine j_if_ne (tgt := 10) C dX12_wins_5 (by decide) (fun c_6_ => ?_) (fun c_6_ => ?_)
    · exact absurd rfl c_6_
    · skip
      refine j_iconst (v := (-1)) C dX12_wins_8 (by decide) ?_
      refine j_iret C ⟨rfl, _, rfl, ?_⟩ dX12_wins_9
      have hot1 := outR ho1
      exact ⟨scE.rf, by rw [if_neg hot1]⟩
abbrev rm_X12_inLeastTerms : Room := { frames := 0, cells := 0, slots := 0, locals := 0 }
set_option maxHeartbeats 4000000 in
set_option maxRecDepth 100000 in
theorem k_ilt_0 (l : Launch) (σ : Sh) (V : Vt) (z2 : Int32) : Ct l yX12_inLeastTerms cX12_inLeastTerms 11 (some .long) rm_X12_inLeastTerms σ V [.long (0), .long (3), .int (z2)] (rL fun x V2 => V2 = V ∧ x = odX 0 z2) := by
  refine Ct_of (by decide) (Nat.le_of_ble_eq_true rfl) ?_
  intro p e s m below meth c A D cy ls C hl
  have hl : lv_has ls 11 [(0, .long (0)), (2, .long (3)), (4, .int (z2))] := hl
  refine j_lload_n C dX12_inLeastTerms_0 rfl (lv_at hl 0 rfl) ?_
  refine j_lstore (lv2 := [(5, .long (0)), (0, .long (0)), (2, .long (3)), (4, .int (z2))]) C dX12_inLeastTerms_1 hl (by decide) rfl (fun ls hl => ?_)
  refine j_lload_n C dX12_inLeastTerms_3 rfl (lv_at hl 2 rfl) ?_
  refine j_lstore (lv2 := [(7, .long (3)), (5, .long (0)), (0, .long (0)), (2, .long (3)), (4, .int (z2))]) C dX12_inLeastTerms_4 hl (by decide) rfl (fun ls hl => ?_)
  refine j_lload C dX12_inLeastTerms_6 (lv_at hl 0 rfl) ?_
  refine j_lconst (v := 0) C dX12_inLeastTerms_8 (by decide) ?_
  refine j_lcmp C dX12_inLeastTerms_9 ?_
  rw [show lg_cmp (3) (0) = 1 by decide]
  refine j_if_eq (tgt := 31) C dX12_inLeastTerms_10 (by decide) (fun c_1_ => ?_) (fun c_1_ => ?_)
  · exact absurd c_1_ (by decide)
  · skip
    refine j_lload C dX12_inLeastTerms_13 (lv_at hl 1 rfl) ?_
    refine j_lload C dX12_inLeastTerms_15 (lv_at hl 0 rfl) ?_
    refine j_lrem C dX12_inLeastTerms_17 (by decide) ?_
    rw [show ((0 : Int64) - 0 / 3 * 3) = 0 by decide]
    refine j_lstore (lv2 := [(9, .long (0)), (7, .long (3)), (5, .long (0)), (0, .long (0)), (2, .long (3)), (4, .int (z2))]) C dX12_inLeastTerms_18 hl (by decide) rfl (fun ls hl => ?_)
    refine j_lload C dX12_inLeastTerms_20 (lv_at hl 1 rfl) ?_
    refine j_lstore (lv2 := [(5, .long (3)), (9, .long (0)), (7, .long (3)), (0, .long (0)), (2, .long (3)), (4, .int (z2))]) C dX12_inLeastTerms_22 hl (by decide) rfl (fun ls hl => ?_)
    refine j_lload C dX12_inLeastTerms_24 (lv_at hl 1 rfl) ?_
    refine j_lstore (lv2 := [(7, .long (0)), (5, .long (3)), (9, .long (0)), (0, .long (0)), (2, .long (3)), (4, .int (z2))]) C dX12_inLeastTerms_26 hl (by decide) rfl (fun ls hl => ?_)
    refine j_goto (tgt := 6) C dX12_inLeastTerms_28 (by decide) ?_
    refine j_lload C dX12_inLeastTerms_6 (lv_at hl 0 rfl) ?_
    refine j_lconst (v := 0) C dX12_inLeastTerms_8 (by decide) ?_
    refine j_lcmp C dX12_inLeastTerms_9 ?_
    rw [show lg_cmp (0) (0) = 0 by decide]
    refine j_if_eq (tgt := 31) C dX12_inLeastTerms_10 (by decide) (fun c_2_ => ?_) (fun c_2_ => ?_)
    · skip
      refine j_iload C dX12_inLeastTerms_31 (lv_at hl 5 rfl) ?_
      refine j_if_ne (tgt := 43) C dX12_inLeastTerms_33 (by decide) (fun c_3_ => ?_) (fun c_3_ => ?_)
      · skip
        refine j_lload_n C dX12_inLeastTerms_43 rfl (lv_at hl 4 rfl) ?_
        refine j_lload C dX12_inLeastTerms_44 (lv_at hl 1 rfl) ?_
        refine j_ldiv C dX12_inLeastTerms_46 (by decide) ?_
        rw [show ((3 : Int64) / 3) = 1 by decide]
        refine j_lret C ⟨rfl, _, rfl, ?_⟩ dX12_inLeastTerms_47
        refine ⟨rfl, ?_⟩
        unfold odX
        first | (rw [if_pos (by assumption)]; decide) | (rw [if_neg (by assumption)]; decide)
      · skip
        refine j_lload_n C dX12_inLeastTerms_36 rfl (lv_at hl 3 rfl) ?_
        refine j_lload C dX12_inLeastTerms_37 (lv_at hl 1 rfl) ?_
        refine j_ldiv C dX12_inLeastTerms_39 (by decide) ?_
        rw [show ((0 : Int64) / 3) = 0 by decide]
        refine j_goto (tgt := 47) C dX12_inLeastTerms_40 (by decide) ?_
        refine j_lret C ⟨rfl, _, rfl, ?_⟩ dX12_inLeastTerms_47
        refine ⟨rfl, ?_⟩
        unfold odX
        first | (rw [if_pos (by assumption)]; decide) | (rw [if_neg (by assumption)]; decide)
    · exact absurd rfl c_2_
set_option maxHeartbeats 4000000 in
set_option maxRecDepth 100000 in
theorem k_ilt_1 (l : Launch) (σ : Sh) (V : Vt) (z2 : Int32) : Ct l yX12_inLeastTerms cX12_inLeastTerms 11 (some .long) rm_X12_inLeastTerms σ V [.long (1), .long (3), .int (z2)] (rL fun x V2 => V2 = V ∧ x = odX 1 z2) := by
  refine Ct_of (by decide) (Nat.le_of_ble_eq_true rfl) ?_
  intro p e s m below meth c A D cy ls C hl
  have hl : lv_has ls 11 [(0, .long (1)), (2, .long (3)), (4, .int (z2))] := hl
  refine j_lload_n C dX12_inLeastTerms_0 rfl (lv_at hl 0 rfl) ?_
  refine j_lstore (lv2 := [(5, .long (1)), (0, .long (1)), (2, .long (3)), (4, .int (z2))]) C dX12_inLeastTerms_1 hl (by decide) rfl (fun ls hl => ?_)
  refine j_lload_n C dX12_inLeastTerms_3 rfl (lv_at hl 2 rfl) ?_
  refine j_lstore (lv2 := [(7, .long (3)), (5, .long (1)), (0, .long (1)), (2, .long (3)), (4, .int (z2))]) C dX12_inLeastTerms_4 hl (by decide) rfl (fun ls hl => ?_)
  refine j_lload C dX12_inLeastTerms_6 (lv_at hl 0 rfl) ?_
  refine j_lconst (v := 0) C dX12_inLeastTerms_8 (by decide) ?_
  refine j_lcmp C dX12_inLeastTerms_9 ?_
  rw [show lg_cmp (3) (0) = 1 by decide]
  refine j_if_eq (tgt := 31) C dX12_inLeastTerms_10 (by decide) (fun c_1_ => ?_) (fun c_1_ => ?_)
  · exact absurd c_1_ (by decide)
  · skip
    refine j_lload C dX12_inLeastTerms_13 (lv_at hl 1 rfl) ?_
    refine j_lload C dX12_inLeastTerms_15 (lv_at hl 0 rfl) ?_
    refine j_lrem C dX12_inLeastTerms_17 (by decide) ?_
    rw [show ((1 : Int64) - 1 / 3 * 3) = 1 by decide]
    refine j_lstore (lv2 := [(9, .long (1)), (7, .long (3)), (5, .long (1)), (0, .long (1)), (2, .long (3)), (4, .int (z2))]) C dX12_inLeastTerms_18 hl (by decide) rfl (fun ls hl => ?_)
    refine j_lload C dX12_inLeastTerms_20 (lv_at hl 1 rfl) ?_
    refine j_lstore (lv2 := [(5, .long (3)), (9, .long (1)), (7, .long (3)), (0, .long (1)), (2, .long (3)), (4, .int (z2))]) C dX12_inLeastTerms_22 hl (by decide) rfl (fun ls hl => ?_)
    refine j_lload C dX12_inLeastTerms_24 (lv_at hl 1 rfl) ?_
    refine j_lstore (lv2 := [(7, .long (1)), (5, .long (3)), (9, .long (1)), (0, .long (1)), (2, .long (3)), (4, .int (z2))]) C dX12_inLeastTerms_26 hl (by decide) rfl (fun ls hl => ?_)
    refine j_goto (tgt := 6) C dX12_inLeastTerms_28 (by decide) ?_
    refine j_lload C dX12_inLeastTerms_6 (lv_at hl 0 rfl) ?_
    refine j_lconst (v := 0) C dX12_inLeastTerms_8 (by decide) ?_
    refine j_lcmp C dX12_inLeastTerms_9 ?_
    rw [show lg_cmp (1) (0) = 1 by decide]
    refine j_if_eq (tgt := 31) C dX12_inLeastTerms_10 (by decide) (fun c_2_ => ?_) (fun c_2_ => ?_)
    · exact absurd c_2_ (by decide)
    · skip
      refine j_lload C dX12_inLeastTerms_13 (lv_at hl 1 rfl) ?_
      refine j_lload C dX12_inLeastTerms_15 (lv_at hl 0 rfl) ?_
      refine j_lrem C dX12_inLeastTerms_17 (by decide) ?_
      rw [show ((3 : Int64) - 3 / 1 * 1) = 0 by decide]
      refine j_lstore (lv2 := [(9, .long (0)), (7, .long (1)), (5, .long (3)), (0, .long (1)), (2, .long (3)), (4, .int (z2))]) C dX12_inLeastTerms_18 hl (by decide) rfl (fun ls hl => ?_)
      refine j_lload C dX12_inLeastTerms_20 (lv_at hl 1 rfl) ?_
      refine j_lstore (lv2 := [(5, .long (1)), (9, .long (0)), (7, .long (1)), (0, .long (1)), (2, .long (3)), (4, .int (z2))]) C dX12_inLeastTerms_22 hl (by decide) rfl (fun ls hl => ?_)
      refine j_lload C dX12_inLeastTerms_24 (lv_at hl 1 rfl) ?_
      refine j_lstore (lv2 := [(7, .long (0)), (5, .long (1)), (9, .long (0)), (0, .long (1)), (2, .long (3)), (4, .int (z2))]) C dX12_inLeastTerms_26 hl (by decide) rfl (fun ls hl => ?_)
      refine j_goto (tgt := 6) C dX12_inLeastTerms_28 (by decide) ?_
      refine j_lload C dX12_inLeastTerms_6 (lv_at hl 0 rfl) ?_
      refine j_lconst (v := 0) C dX12_inLeastTerms_8 (by decide) ?_
      refine j_lcmp C dX12_inLeastTerms_9 ?_
      rw [show lg_cmp (0) (0) = 0 by decide]
      refine j_if_eq (tgt := 31) C dX12_inLeastTerms_10 (by decide) (fun c_3_ => ?_) (fun c_3_ => ?_)
      · skip
        refine j_iload C dX12_inLeastTerms_31 (lv_at hl 5 rfl) ?_
        refine j_if_ne (tgt := 43) C dX12_inLeastTerms_33 (by decide) (fun c_4_ => ?_) (fun c_4_ => ?_)
        · skip
          refine j_lload_n C dX12_inLeastTerms_43 rfl (lv_at hl 4 rfl) ?_
          refine j_lload C dX12_inLeastTerms_44 (lv_at hl 1 rfl) ?_
          refine j_ldiv C dX12_inLeastTerms_46 (by decide) ?_
          rw [show ((3 : Int64) / 1) = 3 by decide]
          refine j_lret C ⟨rfl, _, rfl, ?_⟩ dX12_inLeastTerms_47
          refine ⟨rfl, ?_⟩
          unfold odX
          first | (rw [if_pos (by assumption)]; decide) | (rw [if_neg (by assumption)]; decide)
        · skip
          refine j_lload_n C dX12_inLeastTerms_36 rfl (lv_at hl 3 rfl) ?_
          refine j_lload C dX12_inLeastTerms_37 (lv_at hl 1 rfl) ?_
          refine j_ldiv C dX12_inLeastTerms_39 (by decide) ?_
          rw [show ((1 : Int64) / 1) = 1 by decide]
          refine j_goto (tgt := 47) C dX12_inLeastTerms_40 (by decide) ?_
          refine j_lret C ⟨rfl, _, rfl, ?_⟩ dX12_inLeastTerms_47
          refine ⟨rfl, ?_⟩
          unfold odX
          first | (rw [if_pos (by assumption)]; decide) | (rw [if_neg (by assumption)]; decide)
      · exact absurd rfl c_3_
set_option maxHeartbeats 4000000 in
set_option maxRecDepth 100000 in
theorem k_ilt_2 (l : Launch) (σ : Sh) (V : Vt) (z2 : Int32) : Ct l yX12_inLeastTerms cX12_inLeastTerms 11 (some .long) rm_X12_inLeastTerms σ V [.long (2), .long (3), .int (z2)] (rL fun x V2 => V2 = V ∧ x = odX 2 z2) := by
  refine Ct_of (by decide) (Nat.le_of_ble_eq_true rfl) ?_
  intro p e s m below meth c A D cy ls C hl
  have hl : lv_has ls 11 [(0, .long (2)), (2, .long (3)), (4, .int (z2))] := hl
  refine j_lload_n C dX12_inLeastTerms_0 rfl (lv_at hl 0 rfl) ?_
  refine j_lstore (lv2 := [(5, .long (2)), (0, .long (2)), (2, .long (3)), (4, .int (z2))]) C dX12_inLeastTerms_1 hl (by decide) rfl (fun ls hl => ?_)
  refine j_lload_n C dX12_inLeastTerms_3 rfl (lv_at hl 2 rfl) ?_
  refine j_lstore (lv2 := [(7, .long (3)), (5, .long (2)), (0, .long (2)), (2, .long (3)), (4, .int (z2))]) C dX12_inLeastTerms_4 hl (by decide) rfl (fun ls hl => ?_)
  refine j_lload C dX12_inLeastTerms_6 (lv_at hl 0 rfl) ?_
  refine j_lconst (v := 0) C dX12_inLeastTerms_8 (by decide) ?_
  refine j_lcmp C dX12_inLeastTerms_9 ?_
  rw [show lg_cmp (3) (0) = 1 by decide]
  refine j_if_eq (tgt := 31) C dX12_inLeastTerms_10 (by decide) (fun c_1_ => ?_) (fun c_1_ => ?_)
  · exact absurd c_1_ (by decide)
  · skip
    refine j_lload C dX12_inLeastTerms_13 (lv_at hl 1 rfl) ?_
    refine j_lload C dX12_inLeastTerms_15 (lv_at hl 0 rfl) ?_
    refine j_lrem C dX12_inLeastTerms_17 (by decide) ?_
    rw [show ((2 : Int64) - 2 / 3 * 3) = 2 by decide]
    refine j_lstore (lv2 := [(9, .long (2)), (7, .long (3)), (5, .long (2)), (0, .long (2)), (2, .long (3)), (4, .int (z2))]) C dX12_inLeastTerms_18 hl (by decide) rfl (fun ls hl => ?_)
    refine j_lload C dX12_inLeastTerms_20 (lv_at hl 1 rfl) ?_
    refine j_lstore (lv2 := [(5, .long (3)), (9, .long (2)), (7, .long (3)), (0, .long (2)), (2, .long (3)), (4, .int (z2))]) C dX12_inLeastTerms_22 hl (by decide) rfl (fun ls hl => ?_)
    refine j_lload C dX12_inLeastTerms_24 (lv_at hl 1 rfl) ?_
    refine j_lstore (lv2 := [(7, .long (2)), (5, .long (3)), (9, .long (2)), (0, .long (2)), (2, .long (3)), (4, .int (z2))]) C dX12_inLeastTerms_26 hl (by decide) rfl (fun ls hl => ?_)
    refine j_goto (tgt := 6) C dX12_inLeastTerms_28 (by decide) ?_
    refine j_lload C dX12_inLeastTerms_6 (lv_at hl 0 rfl) ?_
    refine j_lconst (v := 0) C dX12_inLeastTerms_8 (by decide) ?_
    refine j_lcmp C dX12_inLeastTerms_9 ?_
    rw [show lg_cmp (2) (0) = 1 by decide]
    refine j_if_eq (tgt := 31) C dX12_inLeastTerms_10 (by decide) (fun c_2_ => ?_) (fun c_2_ => ?_)
    · exact absurd c_2_ (by decide)
    · skip
      refine j_lload C dX12_inLeastTerms_13 (lv_at hl 1 rfl) ?_
      refine j_lload C dX12_inLeastTerms_15 (lv_at hl 0 rfl) ?_
      refine j_lrem C dX12_inLeastTerms_17 (by decide) ?_
      rw [show ((3 : Int64) - 3 / 2 * 2) = 1 by decide]
      refine j_lstore (lv2 := [(9, .long (1)), (7, .long (2)), (5, .long (3)), (0, .long (2)), (2, .long (3)), (4, .int (z2))]) C dX12_inLeastTerms_18 hl (by decide) rfl (fun ls hl => ?_)
      refine j_lload C dX12_inLeastTerms_20 (lv_at hl 1 rfl) ?_
      refine j_lstore (lv2 := [(5, .long (2)), (9, .long (1)), (7, .long (2)), (0, .long (2)), (2, .long (3)), (4, .int (z2))]) C dX12_inLeastTerms_22 hl (by decide) rfl (fun ls hl => ?_)
      refine j_lload C dX12_inLeastTerms_24 (lv_at hl 1 rfl) ?_
      refine j_lstore (lv2 := [(7, .long (1)), (5, .long (2)), (9, .long (1)), (0, .long (2)), (2, .long (3)), (4, .int (z2))]) C dX12_inLeastTerms_26 hl (by decide) rfl (fun ls hl => ?_)
      refine j_goto (tgt := 6) C dX12_inLeastTerms_28 (by decide) ?_
      refine j_lload C dX12_inLeastTerms_6 (lv_at hl 0 rfl) ?_
      refine j_lconst (v := 0) C dX12_inLeastTerms_8 (by decide) ?_
      refine j_lcmp C dX12_inLeastTerms_9 ?_
      rw [show lg_cmp (1) (0) = 1 by decide]
      refine j_if_eq (tgt := 31) C dX12_inLeastTerms_10 (by decide) (fun c_3_ => ?_) (fun c_3_ => ?_)
      · exact absurd c_3_ (by decide)
      · skip
        refine j_lload C dX12_inLeastTerms_13 (lv_at hl 1 rfl) ?_
        refine j_lload C dX12_inLeastTerms_15 (lv_at hl 0 rfl) ?_
        refine j_lrem C dX12_inLeastTerms_17 (by decide) ?_
        rw [show ((2 : Int64) - 2 / 1 * 1) = 0 by decide]
        refine j_lstore (lv2 := [(9, .long (0)), (7, .long (1)), (5, .long (2)), (0, .long (2)), (2, .long (3)), (4, .int (z2))]) C dX12_inLeastTerms_18 hl (by decide) rfl (fun ls hl => ?_)
        refine j_lload C dX12_inLeastTerms_20 (lv_at hl 1 rfl) ?_
        refine j_lstore (lv2 := [(5, .long (1)), (9, .long (0)), (7, .long (1)), (0, .long (2)), (2, .long (3)), (4, .int (z2))]) C dX12_inLeastTerms_22 hl (by decide) rfl (fun ls hl => ?_)
        refine j_lload C dX12_inLeastTerms_24 (lv_at hl 1 rfl) ?_
        refine j_lstore (lv2 := [(7, .long (0)), (5, .long (1)), (9, .long (0)), (0, .long (2)), (2, .long (3)), (4, .int (z2))]) C dX12_inLeastTerms_26 hl (by decide) rfl (fun ls hl => ?_)
        refine j_goto (tgt := 6) C dX12_inLeastTerms_28 (by decide) ?_
        refine j_lload C dX12_inLeastTerms_6 (lv_at hl 0 rfl) ?_
        refine j_lconst (v := 0) C dX12_inLeastTerms_8 (by decide) ?_
        refine j_lcmp C dX12_inLeastTerms_9 ?_
        rw [show lg_cmp (0) (0) = 0 by decide]
        refine j_if_eq (tgt := 31) C dX12_inLeastTerms_10 (by decide) (fun c_4_ => ?_) (fun c_4_ => ?_)
        · skip
          refine j_iload C dX12_inLeastTerms_31 (lv_at hl 5 rfl) ?_
          refine j_if_ne (tgt := 43) C dX12_inLeastTerms_33 (by decide) (fun c_5_ => ?_) (fun c_5_ => ?_)
          · skip
            refine j_lload_n C dX12_inLeastTerms_43 rfl (lv_at hl 4 rfl) ?_
            refine j_lload C dX12_inLeastTerms_44 (lv_at hl 1 rfl) ?_
            refine j_ldiv C dX12_inLeastTerms_46 (by decide) ?_
            rw [show ((3 : Int64) / 1) = 3 by decide]
            refine j_lret C ⟨rfl, _, rfl, ?_⟩ dX12_inLeastTerms_47
            refine ⟨rfl, ?_⟩
            unfold odX
            first | (rw [if_pos (by assumption)]; decide) | (rw [if_neg (by assumption)]; decide)
          · skip
            refine j_lload_n C dX12_inLeastTerms_36 rfl (lv_at hl 3 rfl) ?_
            refine j_lload C dX12_inLeastTerms_37 (lv_at hl 1 rfl) ?_
            refine j_ldiv C dX12_inLeastTerms_39 (by decide) ?_
            rw [show ((2 : Int64) / 1) = 2 by decide]
            refine j_goto (tgt := 47) C dX12_inLeastTerms_40 (by decide) ?_
            refine j_lret C ⟨rfl, _, rfl, ?_⟩ dX12_inLeastTerms_47
            refine ⟨rfl, ?_⟩
            unfold odX
            first | (rw [if_pos (by assumption)]; decide) | (rw [if_neg (by assumption)]; decide)
        · exact absurd rfl c_4_
set_option maxHeartbeats 4000000 in
set_option maxRecDepth 100000 in
theorem k_ilt_3 (l : Launch) (σ : Sh) (V : Vt) (z2 : Int32) : Ct l yX12_inLeastTerms cX12_inLeastTerms 11 (some .long) rm_X12_inLeastTerms σ V [.long (3), .long (3), .int (z2)] (rL fun x V2 => V2 = V ∧ x = odX 3 z2) := by
  refine Ct_of (by decide) (Nat.le_of_ble_eq_true rfl) ?_
  intro p e s m below meth c A D cy ls C hl
  have hl : lv_has ls 11 [(0, .long (3)), (2, .long (3)), (4, .int (z2))] := hl
  refine j_lload_n C dX12_inLeastTerms_0 rfl (lv_at hl 0 rfl) ?_
  refine j_lstore (lv2 := [(5, .long (3)), (0, .long (3)), (2, .long (3)), (4, .int (z2))]) C dX12_inLeastTerms_1 hl (by decide) rfl (fun ls hl => ?_)
  refine j_lload_n C dX12_inLeastTerms_3 rfl (lv_at hl 2 rfl) ?_
  refine j_lstore (lv2 := [(7, .long (3)), (5, .long (3)), (0, .long (3)), (2, .long (3)), (4, .int (z2))]) C dX12_inLeastTerms_4 hl (by decide) rfl (fun ls hl => ?_)
  refine j_lload C dX12_inLeastTerms_6 (lv_at hl 0 rfl) ?_
  refine j_lconst (v := 0) C dX12_inLeastTerms_8 (by decide) ?_
  refine j_lcmp C dX12_inLeastTerms_9 ?_
  rw [show lg_cmp (3) (0) = 1 by decide]
  refine j_if_eq (tgt := 31) C dX12_inLeastTerms_10 (by decide) (fun c_1_ => ?_) (fun c_1_ => ?_)
  · exact absurd c_1_ (by decide)
  · skip
    refine j_lload C dX12_inLeastTerms_13 (lv_at hl 1 rfl) ?_
    refine j_lload C dX12_inLeastTerms_15 (lv_at hl 0 rfl) ?_
    refine j_lrem C dX12_inLeastTerms_17 (by decide) ?_
    rw [show ((3 : Int64) - 3 / 3 * 3) = 0 by decide]
    refine j_lstore (lv2 := [(9, .long (0)), (7, .long (3)), (5, .long (3)), (0, .long (3)), (2, .long (3)), (4, .int (z2))]) C dX12_inLeastTerms_18 hl (by decide) rfl (fun ls hl => ?_)
    refine j_lload C dX12_inLeastTerms_20 (lv_at hl 1 rfl) ?_
    refine j_lstore (lv2 := [(5, .long (3)), (9, .long (0)), (7, .long (3)), (0, .long (3)), (2, .long (3)), (4, .int (z2))]) C dX12_inLeastTerms_22 hl (by decide) rfl (fun ls hl => ?_)
    refine j_lload C dX12_inLeastTerms_24 (lv_at hl 1 rfl) ?_
    refine j_lstore (lv2 := [(7, .long (0)), (5, .long (3)), (9, .long (0)), (0, .long (3)), (2, .long (3)), (4, .int (z2))]) C dX12_inLeastTerms_26 hl (by decide) rfl (fun ls hl => ?_)
    refine j_goto (tgt := 6) C dX12_inLeastTerms_28 (by decide) ?_
    refine j_lload C dX12_inLeastTerms_6 (lv_at hl 0 rfl) ?_
    refine j_lconst (v := 0) C dX12_inLeastTerms_8 (by decide) ?_
    refine j_lcmp C dX12_inLeastTerms_9 ?_
    rw [show lg_cmp (0) (0) = 0 by decide]
    refine j_if_eq (tgt := 31) C dX12_inLeastTerms_10 (by decide) (fun c_2_ => ?_) (fun c_2_ => ?_)
    · skip
      refine j_iload C dX12_inLeastTerms_31 (lv_at hl 5 rfl) ?_
      refine j_if_ne (tgt := 43) C dX12_inLeastTerms_33 (by decide) (fun c_3_ => ?_) (fun c_3_ => ?_)
      · skip
        refine j_lload_n C dX12_inLeastTerms_43 rfl (lv_at hl 4 rfl) ?_
        refine j_lload C dX12_inLeastTerms_44 (lv_at hl 1 rfl) ?_
        refine j_ldiv C dX12_inLeastTerms_46 (by decide) ?_
        rw [show ((3 : Int64) / 3) = 1 by decide]
        refine j_lret C ⟨rfl, _, rfl, ?_⟩ dX12_inLeastTerms_47
        refine ⟨rfl, ?_⟩
        unfold odX
        first | (rw [if_pos (by assumption)]; decide) | (rw [if_neg (by assumption)]; decide)
      · skip
        refine j_lload_n C dX12_inLeastTerms_36 rfl (lv_at hl 3 rfl) ?_
        refine j_lload C dX12_inLeastTerms_37 (lv_at hl 1 rfl) ?_
        refine j_ldiv C dX12_inLeastTerms_39 (by decide) ?_
        rw [show ((3 : Int64) / 3) = 1 by decide]
        refine j_goto (tgt := 47) C dX12_inLeastTerms_40 (by decide) ?_
        refine j_lret C ⟨rfl, _, rfl, ?_⟩ dX12_inLeastTerms_47
        refine ⟨rfl, ?_⟩
        unfold odX
        first | (rw [if_pos (by assumption)]; decide) | (rw [if_neg (by assumption)]; decide)
    · exact absurd rfl c_2_
abbrev rm_X12_odds : Room := { frames := 3, cells := 0, slots := 0, locals := 70 }
set_option maxHeartbeats 4000000 in
set_option maxRecDepth 100000 in
theorem k_X12_odds (l : Launch) (ad : Nat → Nat) (V : Vt) (z0 z1 z2 : Int32) (ng : Nat) (rr : Nat → Nat) (nt c_0_ : Nat) (hM : MI V ng rr nt c_0_)  : Ct l yX12_odds cX12_odds 6 (some .long) rm_X12_odds (mS ad) V [.ref (ad (0)), .int (z0), .int (z1), .int (z2)] (rL fun x V2 => scE ng rr V V2 ∧ x = if ¬ z0 < 0 ∧ z0 < nI nt then (if ¬ z1 < 0 ∧ z1 < nI ng then (if 0 ≤ z2 ∧ z2 ≤ 1 then odX (cntP (fun s_8_ => hdM V rr z0.toNatClampNeg z1.toNatClampNeg (rchM (V 6 z0.toNatClampNeg) (V 7 z0.toNatClampNeg) + (nI s_8_ - 1))) 3) z2 else (-9223372036854775808)) else (-9223372036854775808)) else (-9223372036854775808)) := by
  refine Ct_of (by decide) (Nat.le_of_ble_eq_true rfl) ?_
  intro p e s m below meth c A D cy ls C hl
  have hl : lv_has ls 6 [(0, .ref (ad (0))), (1, .int (z0)), (2, .int (z1)), (3, .int (z2))] := hl
  have ng4 := hM.2.1
  have nt5 := hM.2.2.2.1
  refine j_aload_n C dX12_odds_0 rfl (lv_at hl 0 rfl) ?_
  refine j_iload_n C dX12_odds_1 rfl (lv_at hl 1 rfl) ?_
  refine j_callV (k := 0) C [.int (z0)] [] (k_X12_isThrower l ad V (z0)  nt hM.2.2.1 hM.2.2.2.1) v_RX12_170 (ml (by decide)) (rfl) rfl ⟨rfl, rfl, Nat.le_of_ble_eq_true rfl, Nat.le_of_ble_eq_true rfl⟩ rfl hl.1 rfl (Nat.le_of_ble_eq_true rfl) ⟨Nat.le_of_ble_eq_true rfl, Nat.le_of_ble_eq_true rfl⟩ dX12_odds_2 (kI fun x_1_ U1 h_1_ => ?_)
  obtain ⟨eU1, h_1_⟩ := h_1_
  have eU1 := eU1.symm
  subst eU1
  rcases h_1_ with ⟨j_1_, hj1, ej1, ex1⟩ | ⟨ho1, ex1⟩
  · subst ex1
    refine j_if_eq (tgt := 25) C dX12_odds_5 (by decide) (fun c_2_ => ?_) (fun c_2_ => ?_)
    · exact absurd c_2_ (by decide)
    · skip
      refine j_aload_n C dX12_odds_8 rfl (lv_at hl 0 rfl) ?_
      refine j_iload_n C dX12_odds_9 rfl (lv_at hl 2 rfl) ?_
      refine j_callV (k := 0) C [.int (z1)] [] (k_X12_isGirl l ad V (z1)  ng hM.1 (by omega)) v_RX12_161 (ml (by decide)) (rfl) rfl ⟨rfl, rfl, Nat.le_of_ble_eq_true rfl, Nat.le_of_ble_eq_true rfl⟩ rfl hl.1 rfl (Nat.le_of_ble_eq_true rfl) ⟨Nat.le_of_ble_eq_true rfl, Nat.le_of_ble_eq_true rfl⟩ dX12_odds_10 (kI fun x_3_ U3 h_3_ => ?_)
      obtain ⟨eU3, h_3_⟩ := h_3_
      have eU3 := eU3.symm
      subst eU3
      rcases h_3_ with ⟨j_3_, hj3, ej3, ex3⟩ | ⟨ho3, ex3⟩
      · subst ex3
        refine j_if_eq (tgt := 25) C dX12_odds_13 (by decide) (fun c_4_ => ?_) (fun c_4_ => ?_)
        · exact absurd c_4_ (by decide)
        · skip
          refine j_iload_n C dX12_odds_16 rfl (lv_at hl 3 rfl) ?_
          refine j_iconst (v := 0) C dX12_odds_17 (by decide) ?_
          refine j_iconst (v := 1) C dX12_odds_18 (by decide) ?_
          refine j_callS C [.int (z2), .int (0), .int (1)] [] (k_X12_within l (mS ad) V (z2) (0) (1)  ) v_RX12_85 ⟨rfl, rfl, Nat.le_of_ble_eq_true rfl, Nat.le_of_ble_eq_true rfl⟩ rfl hl.1 rfl (Nat.le_of_ble_eq_true rfl) ⟨Nat.le_of_ble_eq_true rfl, Nat.le_of_ble_eq_true rfl⟩ dX12_odds_19 (kI fun x_5_ U5 h_5_ => ?_)
          obtain ⟨eU5, h_5_⟩ := h_5_
          have eU5 := eU5.symm
          subst eU5
          refine j_if_ne (tgt := 29) C dX12_odds_22 (by decide) (fun c_6_ => ?_) (fun c_6_ => ?_)
          · skip
            have b6 := Decidable.not_not.mp (mt bI_0.mpr (h_5_ ▸ c_6_))
            have hw9 := b6
            refine j_iconst (v := 0) C dX12_odds_29 (by decide) ?_
            refine j_istore (lv2 := [(4, .int (0)), (0, .ref (ad (0))), (1, .int (z0)), (2, .int (z1)), (3, .int (z2))]) C dX12_odds_30 hl (by decide) rfl (fun ls hl => ?_)
            refine j_iconst (v := (-1)) C dX12_odds_32 (by decide) ?_
            refine j_istore (lv2 := [(5, .int ((-1))), (4, .int (0)), (0, .ref (ad (0))), (1, .int (z0)), (2, .int (z1)), (3, .int (z2))]) C dX12_odds_33 hl (by decide) rfl (fun ls hl => ?_)
            have loop : ∀ (n_9_ : Nat) (sn : Nat) (b : Int32) (z : Int32) (Vi : Vt), sn ≤ 3 → scE ng rr V Vi → z = nI sn - 1 → b = nI (cntP (fun s_8_ => hdM V rr j_1_ j_3_ (rchM (V 6 j_1_) (V 7 j_1_) + (nI s_8_ - 1))) sn) → 3 - sn < n_9_ → ∀ (ls : Array Slot), lv_has ls 6 [(0, .ref (ad (0))), (1, .int (z0)), (2, .int (z1)), (3, .int (z2)), (4, .int (b)), (5, .int (z))] → J p l e rm_X12_odds s m [.ref (ad (0)), .int (z0), .int (z1), .int (z2)].toArray below meth c A D cy 0 0 (MQ below (gPost D cy A (fun o9 σ2 V2 => σ2 = mS ad ∧ (rL fun x V2 => scE ng rr V V2 ∧ x = if ¬ z0 < 0 ∧ z0 < nI nt then (if ¬ z1 < 0 ∧ z1 < nI ng then (if 0 ≤ z2 ∧ z2 ≤ 1 then odX (cntP (fun s_8_ => hdM V rr z0.toNatClampNeg z1.toNatClampNeg (rchM (V 6 z0.toNatClampNeg) (V 7 z0.toNatClampNeg) + (nI s_8_ - 1))) 3) z2 else (-9223372036854775808)) else (-9223372036854775808)) else (-9223372036854775808)) o9 V2)) [.ref (ad (0)), .int (z0), .int (z1), .int (z2)].toArray s 0 0 A) (mS ad) Vi (F0 m 35 ls []) := by
              intro n_9_
              induction n_9_ with
              | zero =>
                intro sn b z Vi hi hE hz hb hm
                exact absurd hm (by omega)
              | succ n_9_ ih_loop =>
                intro sn b z Vi hi hE hz hb hm ls hl
                refine j_iload C dX12_odds_35 (lv_at hl 5 rfl) ?_
                refine j_iconst (v := 1) C dX12_odds_37 (by decide) ?_
                refine j_icmp_gt (tgt := 79) C dX12_odds_38 (by decide) (fun c_7_ => ?_) (fun c_7_ => ?_)
                · have n_7_ := Int32.not_le.mpr c_7_
                  obtain rfl : sn = 3 := by
                    rcases (show sn = 0 ∨ sn = 1 ∨ sn = 2 ∨ sn = 3 by omega) with e | e | e | e
                    · rw [hz, e] at c_7_; exact absurd c_7_ (by decide)
                    · rw [hz, e] at c_7_; exact absurd c_7_ (by decide)
                    · rw [hz, e] at c_7_; exact absurd c_7_ (by decide)
                    · exact e
                  refine j_iload C dX12_odds_79 (lv_at hl 4 rfl) ?_
                  refine j_i2l C dX12_odds_81 rfl ?_
                  refine j_ldc2 C wj_RX12_245 dX12_odds_82 ?_
                  refine j_iload_n C dX12_odds_85 rfl (lv_at hl 3 rfl) ?_
                  have hn8 := cntP_le (fun s_8_ => hdM V rr j_1_ j_3_ (rchM (V 6 j_1_) (V 7 j_1_) + (nI s_8_ - 1))) 3
                  obtain ⟨n_8_, en8⟩ : ∃ n_8_, n_8_ = cntP (fun s_8_ => hdM V rr j_1_ j_3_ (rchM (V 6 j_1_) (V 7 j_1_) + (nI s_8_ - 1))) 3 := ⟨_, rfl⟩
                  rw [← en8] at hb hn8
                  rcases (show n_8_ = 0 ∨ n_8_ = 1 ∨ n_8_ = 2 ∨ n_8_ = 3 by omega) with e8 | e8 | e8 | e8
                  · subst e8
                    subst hb
                    rw [show (nI 0).toInt64 = 0 by decide]
                    refine j_callS C [.long 0, .long 3, .int z2] [] (k_ilt_0 l (mS ad) Vi z2) v_RX12_247 ⟨rfl, rfl, Nat.le_of_ble_eq_true rfl, Nat.le_of_ble_eq_true rfl⟩ rfl hl.1 rfl (Nat.le_of_ble_eq_true rfl) ⟨Nat.le_of_ble_eq_true rfl, Nat.le_of_ble_eq_true rfl⟩ dX12_odds_86 (kL fun x_9_ U9 h_9_ => ?_)
                    obtain ⟨rfl, h_9_⟩ := h_9_
                    refine j_lret C ⟨rfl, _, rfl, ?_⟩ dX12_odds_89
                    obtain ⟨hin1, hcl1⟩ := inz ej1 hj1 (by omega)
                    obtain ⟨hin2, hcl2⟩ := inz ej3 hj3 (by omega)
                    refine ⟨hE, ?_⟩
                    rw [if_pos hin1, if_pos hin2, if_pos hw9, hcl1, hcl2, ← en8]
                    exact h_9_
                  · subst e8
                    subst hb
                    rw [show (nI 1).toInt64 = 1 by decide]
                    refine j_callS C [.long 1, .long 3, .int z2] [] (k_ilt_1 l (mS ad) Vi z2) v_RX12_247 ⟨rfl, rfl, Nat.le_of_ble_eq_true rfl, Nat.le_of_ble_eq_true rfl⟩ rfl hl.1 rfl (Nat.le_of_ble_eq_true rfl) ⟨Nat.le_of_ble_eq_true rfl, Nat.le_of_ble_eq_true rfl⟩ dX12_odds_86 (kL fun x_9_ U9 h_9_ => ?_)
                    obtain ⟨rfl, h_9_⟩ := h_9_
                    refine j_lret C ⟨rfl, _, rfl, ?_⟩ dX12_odds_89
                    obtain ⟨hin1, hcl1⟩ := inz ej1 hj1 (by omega)
                    obtain ⟨hin2, hcl2⟩ := inz ej3 hj3 (by omega)
                    refine ⟨hE, ?_⟩
                    rw [if_pos hin1, if_pos hin2, if_pos hw9, hcl1, hcl2, ← en8]
                    exact h_9_
                  · subst e8
                    subst hb
                    rw [show (nI 2).toInt64 = 2 by decide]
                    refine j_callS C [.long 2, .long 3, .int z2] [] (k_ilt_2 l (mS ad) Vi z2) v_RX12_247 ⟨rfl, rfl, Nat.le_of_ble_eq_true rfl, Nat.le_of_ble_eq_true rfl⟩ rfl hl.1 rfl (Nat.le_of_ble_eq_true rfl) ⟨Nat.le_of_ble_eq_true rfl, Nat.le_of_ble_eq_true rfl⟩ dX12_odds_86 (kL fun x_9_ U9 h_9_ => ?_)
                    obtain ⟨rfl, h_9_⟩ := h_9_
                    refine j_lret C ⟨rfl, _, rfl, ?_⟩ dX12_odds_89
                    obtain ⟨hin1, hcl1⟩ := inz ej1 hj1 (by omega)
                    obtain ⟨hin2, hcl2⟩ := inz ej3 hj3 (by omega)
                    refine ⟨hE, ?_⟩
                    rw [if_pos hin1, if_pos hin2, if_pos hw9, hcl1, hcl2, ← en8]
                    exact h_9_
                  · subst e8
                    subst hb
                    rw [show (nI 3).toInt64 = 3 by decide]
                    refine j_callS C [.long 3, .long 3, .int z2] [] (k_ilt_3 l (mS ad) Vi z2) v_RX12_247 ⟨rfl, rfl, Nat.le_of_ble_eq_true rfl, Nat.le_of_ble_eq_true rfl⟩ rfl hl.1 rfl (Nat.le_of_ble_eq_true rfl) ⟨Nat.le_of_ble_eq_true rfl, Nat.le_of_ble_eq_true rfl⟩ dX12_odds_86 (kL fun x_9_ U9 h_9_ => ?_)
                    obtain ⟨rfl, h_9_⟩ := h_9_
                    refine j_lret C ⟨rfl, _, rfl, ?_⟩ dX12_odds_89
                    obtain ⟨hin1, hcl1⟩ := inz ej1 hj1 (by omega)
                    obtain ⟨hin2, hcl2⟩ := inz ej3 hj3 (by omega)
                    refine ⟨hE, ?_⟩
                    rw [if_pos hin1, if_pos hin2, if_pos hw9, hcl1, hcl2, ← en8]
                    exact h_9_
                · have n_7_ := Int32.not_lt.mp c_7_
                  have hlt : sn < 3 := by
                    rcases (show sn < 3 ∨ sn = 3 by omega) with e | e
                    · exact e
                    · rw [hz, e] at c_7_; exact absurd (by decide) c_7_
                  refine j_iload C dX12_odds_41 (lv_at hl 4 rfl) ?_
                  refine j_aload_n C dX12_odds_43 rfl (lv_at hl 0 rfl) ?_
                  refine j_iload_n C dX12_odds_44 rfl (lv_at hl 1 rfl) ?_
                  refine j_iload_n C dX12_odds_45 rfl (lv_at hl 2 rfl) ?_
                  refine j_aload_n C dX12_odds_46 rfl (lv_at hl 0 rfl) ?_
                  refine j_aload_n C dX12_odds_47 rfl (lv_at hl 0 rfl) ?_
                  refine j_iload_n C dX12_odds_48 rfl (lv_at hl 1 rfl) ?_
                  refine j_callV (k := 0) C [.int (z0)] [.ref (ad (0)), .int (z1), .int (z0), .ref (ad (0)), .int (b)] (k_X12_reachOf l ad Vi (z0) j_1_ (ej1) (by omega) ) v_RX12_151 (ml (by decide)) (rfl) rfl ⟨rfl, rfl, Nat.le_of_ble_eq_true rfl, Nat.le_of_ble_eq_true rfl⟩ rfl hl.1 rfl (Nat.le_of_ble_eq_true rfl) ⟨Nat.le_of_ble_eq_true rfl, Nat.le_of_ble_eq_true rfl⟩ dX12_odds_49 (kI fun x_8_ U8 h_8_ => ?_)
                  obtain ⟨eU8, h_8_⟩ := h_8_
                  have eU8 := eU8.symm
                  subst eU8
                  refine j_iload C dX12_odds_52 (lv_at hl 5 rfl) ?_
                  refine j_iadd C dX12_odds_54 ?_
                  refine j_iload_n C dX12_odds_55 rfl (lv_at hl 2 rfl) ?_
                  refine j_callV (k := 0) C [.int (x_8_ + z), .int (z1)] [.int (z1), .int (z0), .ref (ad (0)), .int (b)] (k_X12_measureBy l ad Vi (x_8_ + z) (z1) j_3_ (ej3) (by omega) ) v_RX12_154 (ml (by decide)) (rfl) rfl ⟨rfl, rfl, Nat.le_of_ble_eq_true rfl, Nat.le_of_ble_eq_true rfl⟩ rfl hl.1 rfl (Nat.le_of_ble_eq_true rfl) ⟨Nat.le_of_ble_eq_true rfl, Nat.le_of_ble_eq_true rfl⟩ dX12_odds_56 (kI fun x_9_ U9 h_9_ => ?_)
                  obtain ⟨eU9, h_9_⟩ := h_9_
                  have eU9 := eU9.symm
                  subst eU9
                  refine j_callV (k := 0) C [.int (z0), .int (z1), .int (x_9_)] [.int (b)] (k_X12_hasBy l ad Vi (z0) (z1) (x_9_) j_3_ (ej3) (by omega) (rr j_3_) ((MI_sc hE hM).2.2.2.2.1 _ hj3).1 (hM.2.2.2.2.1 _ hj3).2) v_RX12_213 (ml (by decide)) (rfl) rfl ⟨rfl, rfl, Nat.le_of_ble_eq_true rfl, Nat.le_of_ble_eq_true rfl⟩ rfl hl.1 rfl (Nat.le_of_ble_eq_true rfl) ⟨Nat.le_of_ble_eq_true rfl, Nat.le_of_ble_eq_true rfl⟩ dX12_odds_59 (kI fun x_10_ U10 h_10_ => ?_)
                  obtain ⟨eU10, h_10_⟩ := h_10_
                  have hd9 : x_10_ = 0 ↔ ¬ hdM V rr j_1_ j_3_ (rchM (V 6 j_1_) (V 7 j_1_) + (nI sn - 1)) := by
                    rw [h_10_, bI_0, ← hdM_sc hE hj3]
                    unfold hdM
                    rw [h_9_, h_8_, ej1, hz, hE.row (a := 6) (by omega), hE.row (a := 7) (by omega)]
                  have hE2 := hE.tr (sc_had (fun q hq => (hM.2.2.2.2.1 q hq).2) hj3 eU10)
                  refine j_if_eq (tgt := 69) C dX12_odds_62 (by decide) (fun c_11_ => ?_) (fun c_11_ => ?_)
                  · skip
                    have b11 := bI_0.mp (h_10_ ▸ c_11_)
                    refine j_iconst (v := 0) C dX12_odds_69 (by decide) ?_
                    refine j_iadd C dX12_odds_70 ?_
                    refine j_istore (lv2 := [(4, .int (b + 0)), (0, .ref (ad (0))), (1, .int (z0)), (2, .int (z1)), (3, .int (z2)), (5, .int (z))]) C dX12_odds_71 hl (by decide) rfl (fun ls hl => ?_)
                    refine j_iinc (v := z + 1) (lv2 := [(5, .int (z + 1)), (4, .int (b + 0)), (0, .ref (ad (0))), (1, .int (z0)), (2, .int (z1)), (3, .int (z2))]) C dX12_odds_73 hl (k0 := 5) rfl rfl (by decide) rfl (fun ls hl => ?_)
                    refine j_goto (tgt := 35) C dX12_odds_76 (by decide) ?_
                    exact ih_loop (sn + 1) (b + 0) (z + 1) U10 (by omega) hE2 (by rw [hz, ← nI_1, Int32.sub_eq_add_neg, Int32.sub_eq_add_neg, Int32.add_assoc, Int32.add_assoc, Int32.add_comm (-1) 1]) (by rw [cntP_n (hd9.mp c_11_), hb]; exact Int32.add_zero _) (by omega) ls (lv_sub hl [2, 3, 4, 5, 1, 0] rfl)
                  · skip
                    have b11 := Decidable.not_not.mp (mt bI_0.mpr (h_10_ ▸ c_11_))
                    refine j_iconst (v := 1) C dX12_odds_65 (by decide) ?_
                    refine j_goto (tgt := 70) C dX12_odds_66 (by decide) ?_
                    refine j_iadd C dX12_odds_70 ?_
                    refine j_istore (lv2 := [(4, .int (b + 1)), (0, .ref (ad (0))), (1, .int (z0)), (2, .int (z1)), (3, .int (z2)), (5, .int (z))]) C dX12_odds_71 hl (by decide) rfl (fun ls hl => ?_)
                    refine j_iinc (v := z + 1) (lv2 := [(5, .int (z + 1)), (4, .int (b + 1)), (0, .ref (ad (0))), (1, .int (z0)), (2, .int (z1)), (3, .int (z2))]) C dX12_odds_73 hl (k0 := 5) rfl rfl (by decide) rfl (fun ls hl => ?_)
                    refine j_goto (tgt := 35) C dX12_odds_76 (by decide) ?_
                    exact ih_loop (sn + 1) (b + 1) (z + 1) U10 (by omega) hE2 (by rw [hz, ← nI_1, Int32.sub_eq_add_neg, Int32.sub_eq_add_neg, Int32.add_assoc, Int32.add_assoc, Int32.add_comm (-1) 1]) (by rw [cntP_y (Classical.not_not.mp (mt hd9.mpr c_11_)), hb]; exact nI_1 _) (by omega) ls (lv_sub hl [2, 3, 4, 5, 1, 0] rfl)
            exact loop 4 0 0 (-1) V (by omega) scE.rf (by decide) rfl (by omega) ls (lv_sub hl [2, 3, 4, 5, 1, 0] rfl)
          · skip
            have b6 := bI_0.mp (h_5_ ▸ c_6_)
            refine j_ldc2 C wj_RX12_83 dX12_odds_25 ?_
            refine j_lret C ⟨rfl, _, rfl, ?_⟩ dX12_odds_28
            obtain ⟨hin1, hcl1⟩ := inz ej1 hj1 (by omega)
            obtain ⟨hin3, hcl3⟩ := inz ej3 hj3 (by omega)
            refine ⟨scE.rf, ?_⟩
            simp only [if_pos hin1, if_pos hin3, if_neg b6]
      · subst ex3
        refine j_if_eq (tgt := 25) C dX12_odds_13 (by decide) (fun c_12_ => ?_) (fun c_12_ => ?_)
        · skip
          refine j_ldc2 C wj_RX12_83 dX12_odds_25 ?_
          refine j_lret C ⟨rfl, _, rfl, ?_⟩ dX12_odds_28
          obtain ⟨hin1, hcl1⟩ := inz ej1 hj1 (by omega)
          have hot3 := outR ho3
          refine ⟨scE.rf, ?_⟩
          simp only [if_pos hin1, if_neg hot3]
        · exact absurd rfl c_12_
  · subst ex1
    refine j_if_eq (tgt := 25) C dX12_odds_5 (by decide) (fun c_13_ => ?_) (fun c_13_ => ?_)
    · skip
      refine j_ldc2 C wj_RX12_83 dX12_odds_25 ?_
      refine j_lret C ⟨rfl, _, rfl, ?_⟩ dX12_odds_28
      have hot1 := outR ho1
      refine ⟨scE.rf, ?_⟩
      simp only [if_neg hot1]
    · exact absurd rfl c_13_
