abbrev rm_X11_winsOf : Room := { frames := 4, cells := 0, slots := 0, locals := 87 }
set_option maxHeartbeats 4000000 in
set_option maxRecDepth 100000 in
theorem k_X11_winsOf (l : Launch) (ad tk : Nat → Nat) (nt : Nat) (V : Vt) (ng : Nat) (rr : Nat → Nat) (c_0_ : Nat) (hX : XI tk nt V ng rr c_0_) (t : Nat) (ht : t < nt)  : Ct l yX11_winsOf cX11_winsOf 5 (some .int) rm_X11_winsOf (xS ad tk nt) V [.ref (ad (55)), .ref (ad (56 + t))] (rI fun x V2 => gbE ng rr V V2 ∧ x = setP (fun g => hdP V rr t g (rch (kdI (tk t)) (V (56 + t) 1))) ng) := by
  refine Ct_of (by decide) (Nat.le_of_ble_eq_true rfl) ?_
  intro p e s m below meth c A D cy ls C hl
  have hl : lv_has ls 5 [(0, .ref (ad (55))), (1, .ref (ad (56 + t)))] := hl
  have ng4 := hX.1.2.1
  have nt5 := hX.2.2.1
  refine j_iconst (v := 0) C dX11_winsOf_0 (by decide) ?_
  refine j_istore_n (lv2 := [(2, .int (0)), (0, .ref (ad (55))), (1, .ref (ad (56 + t)))]) C dX11_winsOf_1 rfl hl (by decide) rfl (fun ls hl => ?_)
  refine j_iconst (v := 0) C dX11_winsOf_2 (by decide) ?_
  refine j_istore_n (lv2 := [(3, .int (0)), (2, .int (0)), (0, .ref (ad (55))), (1, .ref (ad (56 + t)))]) C dX11_winsOf_3 rfl hl (by decide) rfl (fun ls hl => ?_)
  have loop : ∀ (n_9_ : Nat) (g : Nat) (Vi : Vt) (b : Int32), g ≤ ng → gbE ng rr V Vi → b = setP (fun g => hdP V rr t g (rch (kdI (tk t)) (V (56 + t) 1))) g → ng - g < n_9_ → ∀ (ls : Array Slot), lv_has ls 5 [(0, .ref (ad (55))), (1, .ref (ad (56 + t))), (2, .int (b)), (3, .int (nI g))] → J p l e rm_X11_winsOf s m [.ref (ad (55)), .ref (ad (56 + t))].toArray below meth c A D cy 0 0 (MQ below (gPost D cy A (fun o9 σ2 V2 => σ2 = xS ad tk nt ∧ (rI fun x V2 => gbE ng rr V V2 ∧ x = setP (fun g => hdP V rr t g (rch (kdI (tk t)) (V (56 + t) 1))) ng) o9 V2)) [.ref (ad (55)), .ref (ad (56 + t))].toArray s 0 0 A) (xS ad tk nt) Vi (F0 m 4 ls []) := by
    intro n_9_
    induction n_9_ with
    | zero =>
      intro g Vi b hi hE hb hm
      exact absurd hm (by omega)
    | succ n_9_ ih_loop =>
      intro g Vi b hi hE hb hm ls hl
      refine j_iload_n C dX11_winsOf_4 rfl (lv_at hl 3 rfl) ?_
      refine j_aload_n C dX11_winsOf_5 rfl (lv_at hl 0 rfl) ?_
      refine j_getR (k := 55) (k2 := 0) C (f_RX11_12_11) (xl (by decide)) (rfl) (rfl) dX11_winsOf_6 ?_
      refine j_getI (k := 0) C (f_RX11_266_0) (xl (xC (tk := tk) (nt := nt) (k := 0) (Or.inl rfl)).1.1) ((xC (tk := tk) (nt := nt) (k := 0) (Or.inl rfl)).2.1) dX11_winsOf_9 ?_
      refine j_icmp_ge (tgt := 70) C dX11_winsOf_12 (by decide) (fun c_1_ => ?_) (fun c_1_ => ?_)
      · have n_1_ := Int32.not_lt.mpr c_1_
        have hXi := XI_gb hE hX
        obtain rfl : g = ng := by rw [hXi.1.1] at c_1_; have q := leN (by omega) (by omega) c_1_; omega
        refine j_iload_n C dX11_winsOf_70 rfl (lv_at hl 2 rfl) ?_
        refine j_iret C ⟨rfl, _, rfl, ?_⟩ dX11_winsOf_71
        exact ⟨hE, hb⟩
      · have n_1_ := Int32.not_le.mp c_1_
        have hXi := XI_gb hE hX
        have hlt : g < ng := by rw [hXi.1.1] at c_1_; exact ltN (by omega) c_1_
        refine j_aload_n C dX11_winsOf_15 rfl (lv_at hl 0 rfl) ?_
        refine j_getR (k := 55) (k2 := 0) C (f_RX11_12_11) (xl (by decide)) (rfl) (rfl) dX11_winsOf_16 ?_
        refine j_iload_n C dX11_winsOf_19 rfl (lv_at hl 3 rfl) ?_
        refine j_callV (k := 0) C [.int (nI g)] [] (k_X0_girlAt l ad tk nt Vi 0 (Or.inl rfl) ng hXi.1.1 hXi.1.2.1 (nI g)) v_RX11_99 (xl (xC (tk := tk) (nt := nt) (k := 0) (Or.inl rfl)).1.1) ((xC (tk := tk) (nt := nt) (k := 0) (Or.inl rfl)).2.1) rfl ⟨rfl, rfl, Nat.le_of_ble_eq_true rfl, Nat.le_of_ble_eq_true rfl⟩ rfl hl.1 rfl (Nat.le_of_ble_eq_true rfl) ⟨Nat.le_of_ble_eq_true rfl, Nat.le_of_ble_eq_true rfl⟩ dX11_winsOf_20 (kA fun x_2_ U2 h_2_ => ?_)
        obtain ⟨eU2, h_2_⟩ := h_2_
        have eU2 := eU2.symm
        subst eU2
        rcases h_2_ with ⟨j_2_, hj2, ej2, ev2⟩ | ⟨ho2, ev2⟩
        · subst ev2
          obtain rfl : g = j_2_ := nI_inj (by omega) (by omega) ej2
          refine j_astore (lv2 := [(4, .ref (ad (0 + 2 + 3 * g))), (0, .ref (ad (55))), (1, .ref (ad (56 + t))), (2, .int (b)), (3, .int (nI g))]) C dX11_winsOf_23 hl (by decide) rfl (fun ls hl => ?_)
          refine j_aload C dX11_winsOf_25 (lv_at hl 0 rfl) ?_
          refine j_ifnull C dX11_winsOf_27 ?_
          refine j_aload C dX11_winsOf_30 (lv_at hl 0 rfl) ?_
          refine j_aload_n C dX11_winsOf_32 rfl (lv_at hl 2 rfl) ?_
          refine j_getT (k := 56 + t) C f_RX11_316_6 f_RX11_316_3 f_RX11_316_8 (xt ht) (xT (XI_T hX ht)) dX11_winsOf_33 ?_
          refine j_aload C dX11_winsOf_36 (lv_at hl 0 rfl) ?_
          refine j_aload_n C dX11_winsOf_38 rfl (lv_at hl 2 rfl) ?_
          refine j_callT (k := 56 + t) C [] [.ref (ad (0 + 2 + 3 * g)), .int (Vi (56 + t) 0), .ref (ad (0 + 2 + 3 * g))] (k_X6_reach l ad tk nt Vi t ht (XI_T hX ht) ) v_RX11_134 o_RX11_134_3 o_RX11_134_8 rfl (xt ht) (xT (XI_T hX ht)) ⟨rfl, rfl, Nat.le_of_ble_eq_true rfl, Nat.le_of_ble_eq_true rfl⟩ rfl hl.1 rfl (Nat.le_of_ble_eq_true rfl) ⟨Nat.le_of_ble_eq_true rfl, Nat.le_of_ble_eq_true rfl⟩ dX11_winsOf_39 (kI fun x_3_ U3 h_3_ => ?_)
          obtain ⟨eU3, h_3_⟩ := h_3_
          have eU3 := eU3.symm
          subst eU3
          refine j_aload_n C dX11_winsOf_42 rfl (lv_at hl 1 rfl) ?_
          refine j_getR (k := 55) (k2 := 0) C (f_RX11_12_11) (xl (by decide)) (rfl) (rfl) dX11_winsOf_43 ?_
          refine j_getI (k := 0) C (f_RX11_147_0) (xl (xC (tk := tk) (nt := nt) (k := 0) (Or.inl rfl)).1.1) ((xC (tk := tk) (nt := nt) (k := 0) (Or.inl rfl)).2.1) dX11_winsOf_46 ?_
          refine j_callV (k := 0 + 2 + 3 * g) C [.int (x_3_), .int (Vi 0 0)] [.int (Vi (56 + t) 0), .ref (ad (0 + 2 + 3 * g))] (k_X2_nearness l ad tk nt Vi (0 + 2 + 3 * g) (xCg (nt := nt) (Or.inl rfl) (by omega : g < 4)).1 (x_3_) (Vi 0 0) ) v_RX11_150 (xl (xG (tk := tk) (nt := nt) (xCg (nt := nt) (Or.inl rfl) (by omega : g < 4)).1).1.1) ((xG (tk := tk) (nt := nt) (xCg (nt := nt) (Or.inl rfl) (by omega : g < 4)).1).2.1) rfl ⟨rfl, rfl, Nat.le_of_ble_eq_true rfl, Nat.le_of_ble_eq_true rfl⟩ rfl hl.1 rfl (Nat.le_of_ble_eq_true rfl) ⟨Nat.le_of_ble_eq_true rfl, Nat.le_of_ble_eq_true rfl⟩ dX11_winsOf_49 (kI fun x_4_ U4 h_4_ => ?_)
          obtain ⟨eU4, h_4_⟩ := h_4_
          have eU4 := eU4.symm
          subst eU4
          refine j_callV (k := 0 + 2 + 3 * g) C [.int (Vi (56 + t) 0), .int (x_4_)] [] (k_X2_isHadBy l ad tk nt Vi (0 + 2 + 3 * g) (xCg (nt := nt) (Or.inl rfl) (by omega : g < 4)).1 (rr g) (hXi.1.2.2 g hlt).1 (hXi.1.2.2 g hlt).2 (Vi (56 + t) 0) (x_4_)) v_RX11_224 (xl (xG (tk := tk) (nt := nt) (xCg (nt := nt) (Or.inl rfl) (by omega : g < 4)).1).1.1) ((xG (tk := tk) (nt := nt) (xCg (nt := nt) (Or.inl rfl) (by omega : g < 4)).1).2.1) rfl ⟨rfl, rfl, Nat.le_of_ble_eq_true rfl, Nat.le_of_ble_eq_true rfl⟩ rfl hl.1 rfl (Nat.le_of_ble_eq_true rfl) ⟨Nat.le_of_ble_eq_true rfl, Nat.le_of_ble_eq_true rfl⟩ dX11_winsOf_52 (kI fun x_5_ U5 h_5_ => ?_)
          obtain ⟨eU5, h_5_⟩ := h_5_
          have hnu : Vi (56 + t) 0 = nI t := (hXi.2.2.2.1 t ht).2
          have hd9 : x_5_ = 0 ↔ ¬ hdP V rr t g (rch (kdI (tk t)) (V (56 + t) 1)) := by
            rw [h_5_, bI_0, ← hdP_gb hE]
            unfold hdP
            rw [h_4_, h_3_, hnu, hE.row (a := 56 + t) (fun g2 _ => by omega)]
          have hE2 := hE.tr (gbE_had hlt eU5)
          refine j_if_eq (tgt := 64) C dX11_winsOf_55 (by decide) (fun c_6_ => ?_) (fun c_6_ => ?_)
          · skip
            refine j_iinc (v := nI (g + 1)) (lv2 := [(3, .int (nI (g + 1))), (4, .ref (ad (0 + 2 + 3 * g))), (0, .ref (ad (55))), (1, .ref (ad (56 + t))), (2, .int (b))]) C dX11_winsOf_64 hl (k0 := 4) rfl (nI_1 _) (by decide) rfl (fun ls hl => ?_)
            refine j_goto (tgt := 4) C dX11_winsOf_67 (by decide) ?_
            exact ih_loop (g + 1) U5 (b) (by omega) hE2 (by rw [setP_n (hd9.mp c_6_)]; exact hb) (by omega) ls (lv_sub hl [2, 3, 4, 0] rfl)
          · skip
            refine j_iload_n C dX11_winsOf_58 rfl (lv_at hl 3 rfl) ?_
            refine j_iconst (v := 1) C dX11_winsOf_59 (by decide) ?_
            refine j_iload_n C dX11_winsOf_60 rfl (lv_at hl 4 rfl) ?_
            refine j_ishl C dX11_winsOf_61 ?_
            refine j_ior C dX11_winsOf_62 ?_
            refine j_istore_n (lv2 := [(2, .int (b ||| (1 <<< ((nI g) &&& 31)))), (4, .ref (ad (0 + 2 + 3 * g))), (0, .ref (ad (55))), (1, .ref (ad (56 + t))), (3, .int (nI g))]) C dX11_winsOf_63 rfl hl (by decide) rfl (fun ls hl => ?_)
            refine j_iinc (v := nI (g + 1)) (lv2 := [(3, .int (nI (g + 1))), (2, .int (b ||| (1 <<< ((nI g) &&& 31)))), (4, .ref (ad (0 + 2 + 3 * g))), (0, .ref (ad (55))), (1, .ref (ad (56 + t)))]) C dX11_winsOf_64 hl (k0 := 4) rfl (nI_1 _) (by decide) rfl (fun ls hl => ?_)
            refine j_goto (tgt := 4) C dX11_winsOf_67 (by decide) ?_
            exact ih_loop (g + 1) U5 (b ||| (1 <<< ((nI g) &&& 31))) (by omega) hE2 (by rw [setP_y (Classical.byContradiction (fun q => c_6_ (hd9.mpr q))), ← hb]) (by omega) ls (lv_sub hl [3, 4, 1, 0] rfl)
        · subst ev2
          exact absurd ho2 (inN (by omega) (by omega))
  exact loop (ng + 1) 0 V 0 (by omega) gbE.rf rfl (by omega) ls (lv_sub hl [2, 3, 1, 0] rfl)
abbrev rm_X11_wins : Room := { frames := 5, cells := 0, slots := 0, locals := 111 }
set_option maxHeartbeats 4000000 in
set_option maxRecDepth 100000 in
theorem k_X11_wins (l : Launch) (ad tk : Nat → Nat) (nt : Nat) (V : Vt) (ng : Nat) (rr : Nat → Nat) (c_0_ : Nat) (hX : XI tk nt V ng rr c_0_) (z0 : Int32) : Ct l yX11_wins cX11_wins 3 (some .int) rm_X11_wins (xS ad tk nt) V [.ref (ad (55)), .int (z0)] (rI fun x V2 => gbE ng rr V V2 ∧ x = if ¬ z0 < 0 ∧ z0 < nI nt then setP (fun g => hdP V rr z0.toNatClampNeg g (rch (kdI (tk z0.toNatClampNeg)) (V (56 + z0.toNatClampNeg) 1))) ng else -1) := by
  refine Ct_of (by decide) (Nat.le_of_ble_eq_true rfl) ?_
  intro p e s m below meth c A D cy ls C hl
  have hl : lv_has ls 3 [(0, .ref (ad (55))), (1, .int (z0))] := hl
  have ng4 := hX.1.2.1
  have nt5 := hX.2.2.1
  refine j_aload_n C dX11_wins_0 rfl (lv_at hl 0 rfl) ?_
  refine j_iload_n C dX11_wins_1 rfl (lv_at hl 1 rfl) ?_
  refine j_callV (k := 55) C [.int (z0)] [] (k_X11_throwerOf l ad tk nt V hX.2.1 hX.2.2.1 (z0)) v_RX11_124 (xl (by decide)) (rfl) rfl ⟨rfl, rfl, Nat.le_of_ble_eq_true rfl, Nat.le_of_ble_eq_true rfl⟩ rfl hl.1 rfl (Nat.le_of_ble_eq_true rfl) ⟨Nat.le_of_ble_eq_true rfl, Nat.le_of_ble_eq_true rfl⟩ dX11_wins_2 (kA fun x_1_ U1 h_1_ => ?_)
  obtain ⟨eU1, h_1_⟩ := h_1_
  have eU1 := eU1.symm
  subst eU1
  rcases h_1_ with ⟨j_1_, hj1, ej1, ev1⟩ | ⟨ho1, ev1⟩
  · subst ev1
    refine j_astore_n (lv2 := [(2, .ref (ad (56 + j_1_))), (0, .ref (ad (55))), (1, .int (z0))]) C dX11_wins_5 rfl hl (by decide) rfl (fun ls hl => ?_)
    refine j_aload_n C dX11_wins_6 rfl (lv_at hl 0 rfl) ?_
    refine j_ifnonnull (tgt := 14) C dX11_wins_7 (by decide) ?_
    refine j_aload_n C dX11_wins_14 rfl (lv_at hl 1 rfl) ?_
    refine j_aload_n C dX11_wins_15 rfl (lv_at hl 0 rfl) ?_
    refine j_callV (k := 55) C [.ref (ad (56 + j_1_))] [] (k_X11_winsOf l ad tk nt V ng rr c_0_ hX j_1_ hj1) v_RX11_178 (xl (by decide)) (rfl) rfl ⟨rfl, rfl, Nat.le_of_ble_eq_true rfl, Nat.le_of_ble_eq_true rfl⟩ rfl hl.1 rfl (Nat.le_of_ble_eq_true rfl) ⟨Nat.le_of_ble_eq_true rfl, Nat.le_of_ble_eq_true rfl⟩ dX11_wins_16 (kI fun x_2_ U2 h_2_ => ?_)
    obtain ⟨eU2, h_2_⟩ := h_2_
    refine j_iret C ⟨rfl, _, rfl, ?_⟩ dX11_wins_19
    obtain ⟨hin1, hcl1⟩ := inz ej1 hj1 (by omega)
    refine ⟨eU2, ?_⟩
    rw [if_pos hin1, hcl1]
    exact h_2_
  · subst ev1
    refine j_astore_nN (lv2 := [(2, .null), (0, .ref (ad (55))), (1, .int (z0))]) C dX11_wins_5 rfl hl (by decide) rfl (fun ls hl => ?_)
    refine j_aload_nN C dX11_wins_6 rfl (lv_at hl 0 rfl) ?_
    refine j_ifnonnullN C dX11_wins_7 ?_
    refine j_iconst (v := (-1)) C dX11_wins_10 (by decide) ?_
    refine j_goto (tgt := 19) C dX11_wins_11 (by decide) ?_
    refine j_iret C ⟨rfl, _, rfl, ?_⟩ dX11_wins_19
    have hot1 := outR ho1
    exact ⟨gbE.rf, by rw [if_neg hot1]⟩
