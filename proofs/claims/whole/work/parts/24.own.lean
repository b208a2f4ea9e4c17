/-- reading r is so, with thrower z0's reach z1, girl z2's leaning z3 in place of what they are -/
def soP (tk : Nat → Nat) (V : Vt) (z0 z1 z2 z3 : Int32) (r : Nat) : Prop :=
  near (if V 30 r = z0 then z1 else rch (kdI (tk (V 30 r).toNatClampNeg)) (V (56 + (V 30 r).toNatClampNeg) 1)) (V (0 + 2 + 3 * (V 31 r).toNatClampNeg) 0) (if V 31 r = z2 then z3 else V (0 + 2 + 3 * (V 31 r).toNatClampNeg) 1) (V 0 0) = V 32 r
def soA (tk : Nat → Nat) (V : Vt) (z0 z1 z2 z3 : Int32) (n : Nat) : Prop := ∀ r, r < n → soP tk V z0 z1 z2 z3 r
noncomputable def soD (tk : Nat → Nat) (V : Vt) (z0 z1 z2 z3 : Int32) (n : Nat) : Int32 := @ite Int32 (soA tk V z0 z1 z2 z3 n) (Classical.propDecidable _) 1 0
theorem soD_t {tk : Nat → Nat} {V : Vt} {z0 z1 z2 z3 : Int32} {n : Nat} (h : soA tk V z0 z1 z2 z3 n) : soD tk V z0 z1 z2 z3 n = 1 := if_pos h
theorem soD_f {tk : Nat → Nat} {V : Vt} {z0 z1 z2 z3 : Int32} {n : Nat} (h : ¬ soA tk V z0 z1 z2 z3 n) : soD tk V z0 z1 z2 z3 n = 0 := if_neg h
theorem soD_n {tk : Nat → Nat} {V : Vt} {z0 z1 z2 z3 : Int32} {n : Nat} : narrow .boolean (.int (soD tk V z0 z1 z2 z3 n)) = .int (soD tk V z0 z1 z2 z3 n) := by
  rcases Classical.em (soA tk V z0 z1 z2 z3 n) with h | h
  · rw [soD_t h]; rfl
  · rw [soD_f h]; rfl
/-- the set of those of the first n, from a on -/
noncomputable def setP (P : Nat → Prop) : Nat → Int32
  | 0 => 0
  | g + 1 => @ite Int32 (P g) (Classical.propDecidable _) (setP P g ||| (1 <<< (nI g &&& 31))) (setP P g)
theorem setP_y {P : Nat → Prop} {g : Nat} (h : P g) : setP P (g + 1) = setP P g ||| (1 <<< (nI g &&& 31)) := if_pos h
theorem setP_n {P : Nat → Prop} {g : Nat} (h : ¬ P g) : setP P (g + 1) = setP P g := if_neg h
abbrev rm_X11_allSoWith : Room := { frames := 2, cells := 0, slots := 0, locals := 45 }
set_option maxHeartbeats 4000000 in
set_option maxRecDepth 100000 in
theorem k_X11_allSoWith (l : Launch) (ad tk : Nat → Nat) (nt : Nat) (V : Vt) (ng : Nat) (rr : Nat → Nat) (c_0_ : Nat) (hX : XI tk nt V ng rr c_0_) (z0 z1 z2 z3 : Int32) : Ct l yX11_allSoWith cX11_allSoWith 10 (some .boolean) rm_X11_allSoWith (xS ad tk nt) V [.ref (ad (55)), .int (z0), .int (z1), .int (z2), .int (z3)] (rI fun x V2 => V2 = V ∧ x = soD tk V z0 z1 z2 z3 c_0_) := by
  refine Ct_of (by decide) (Nat.le_of_ble_eq_true rfl) ?_
  intro p e s m below meth c A D cy ls C hl
  have hl : lv_has ls 10 [(0, .ref (ad (55))), (1, .int (z0)), (2, .int (z1)), (3, .int (z2)), (4, .int (z3))] := hl
  have ng4 := hX.1.2.1
  have nt5 := hX.2.2.1
  have hc8 := hX.2.2.2.2.2.1
  refine j_iconst (v := 0) C dX11_allSoWith_0 (by decide) ?_
  refine j_istore (lv2 := [(5, .int (0)), (0, .ref (ad (55))), (1, .int (z0)), (2, .int (z1)), (3, .int (z2)), (4, .int (z3))]) C dX11_allSoWith_1 hl (by decide) rfl (fun ls hl => ?_)
  have loop : ∀ (n_9_ : Nat) (r : Nat), r ≤ c_0_ → (∀ q, q < r → soP tk V z0 z1 z2 z3 q) → c_0_ - r < n_9_ → ∀ (ls : Array Slot), lv_has ls 10 [(0, .ref (ad (55))), (1, .int (z0)), (2, .int (z1)), (3, .int (z2)), (4, .int (z3)), (5, .int (nI r))] → J p l e rm_X11_allSoWith s m [.ref (ad (55)), .int (z0), .int (z1), .int (z2), .int (z3)].toArray below meth c A D cy 0 0 (MQ below (gPost D cy A (fun o9 σ2 V2 => σ2 = xS ad tk nt ∧ (rI fun x V2 => V2 = V ∧ x = soD tk V z0 z1 z2 z3 c_0_) o9 V2)) [.ref (ad (55)), .int (z0), .int (z1), .int (z2), .int (z3)].toArray s 0 0 A) (xS ad tk nt) V (F0 m 3 ls []) := by
    intro n_9_
    induction n_9_ with
    | zero =>
      intro r hi hq hm
      exact absurd hm (by omega)
    | succ n_9_ ih_loop =>
      intro r hi hq hm ls hl
      refine j_iload C dX11_allSoWith_3 (lv_at hl 5 rfl) ?_
      refine j_aload_n C dX11_allSoWith_5 rfl (lv_at hl 0 rfl) ?_
      refine j_getR (k := 55) (k2 := 29) C (f_RX11_27_11) (xl (by decide)) (rfl) (rfl) dX11_allSoWith_6 ?_
      refine j_getI (k := 29) C (f_RX11_212_5) (xl (by decide)) (rfl) dX11_allSoWith_9 ?_
      refine j_icmp_ge (tgt := 144) C dX11_allSoWith_12 (by decide) (fun c_1_ => ?_) (fun c_1_ => ?_)
      · have n_1_ := Int32.not_lt.mpr c_1_
        obtain rfl : r = c_0_ := by rw [hX.2.2.2.2.1] at c_1_; have q := leN (by omega) (by omega) c_1_; omega
        refine j_iconst (v := 1) C dX11_allSoWith_144 (by decide) ?_
        refine j_zret C rfl ⟨rfl, _, rfl, ?_⟩ dX11_allSoWith_145
        exact ⟨rfl, (soD_t hq).symm⟩
      · have n_1_ := Int32.not_le.mp c_1_
        have hlt : r < c_0_ := by rw [hX.2.2.2.2.1] at c_1_; exact ltN (by omega) c_1_
        obtain ⟨⟨ta, hta, eta⟩, gb, hgb, egb⟩ := hX.2.2.2.2.2.2.1 r hlt
        refine j_aload_n C dX11_allSoWith_15 rfl (lv_at hl 0 rfl) ?_
        refine j_aload_n C dX11_allSoWith_16 rfl (lv_at hl 0 rfl) ?_
        refine j_getR (k := 55) (k2 := 29) C (f_RX11_27_11) (xl (by decide)) (rfl) (rfl) dX11_allSoWith_17 ?_
        refine j_iload C dX11_allSoWith_20 (lv_at hl 5 rfl) ?_
        refine j_callV (k := 29) C [.int (nI r)] [.ref (ad (55))] (k_X5_throwerAt l ad tk nt V  (nI r)) v_RX11_331 (xl (by decide)) (rfl) rfl ⟨rfl, rfl, Nat.le_of_ble_eq_true rfl, Nat.le_of_ble_eq_true rfl⟩ rfl hl.1 rfl (Nat.le_of_ble_eq_true rfl) ⟨Nat.le_of_ble_eq_true rfl, Nat.le_of_ble_eq_true rfl⟩ dX11_allSoWith_22 (kI fun x_2_ U2 h_2_ => ?_)
        obtain ⟨eU2, h_2_⟩ := h_2_
        have eU2 := eU2.symm
        subst eU2
        rw [atR_in (f := V 30) (r := 8) (i := r) (by have := hX.2.2.2.2.2.1; omega) (by decide)] at h_2_
        refine j_callV (k := 55) C [.int (x_2_)] [] (k_X11_throwerOf l ad tk nt V hX.2.1 hX.2.2.1 (x_2_)) v_RX11_124 (xl (by decide)) (rfl) rfl ⟨rfl, rfl, Nat.le_of_ble_eq_true rfl, Nat.le_of_ble_eq_true rfl⟩ rfl hl.1 rfl (Nat.le_of_ble_eq_true rfl) ⟨Nat.le_of_ble_eq_true rfl, Nat.le_of_ble_eq_true rfl⟩ dX11_allSoWith_25 (kA fun x_3_ U3 h_3_ => ?_)
        obtain ⟨eU3, h_3_⟩ := h_3_
        have eU3 := eU3.symm
        subst eU3
        rcases h_3_ with ⟨j_3_, hj3, ej3, ev3⟩ | ⟨ho3, ev3⟩
        · subst ev3
          refine j_astore (lv2 := [(6, .ref (ad (56 + j_3_))), (0, .ref (ad (55))), (1, .int (z0)), (2, .int (z1)), (3, .int (z2)), (4, .int (z3)), (5, .int (nI r))]) C dX11_allSoWith_28 hl (by decide) rfl (fun ls hl => ?_)
          refine j_aload_n C dX11_allSoWith_30 rfl (lv_at hl 1 rfl) ?_
          refine j_getR (k := 55) (k2 := 0) C (f_RX11_12_11) (xl (by decide)) (rfl) (rfl) dX11_allSoWith_31 ?_
          refine j_aload_n C dX11_allSoWith_34 rfl (lv_at hl 1 rfl) ?_
          refine j_getR (k := 55) (k2 := 29) C (f_RX11_27_11) (xl (by decide)) (rfl) (rfl) dX11_allSoWith_35 ?_
          refine j_iload C dX11_allSoWith_38 (lv_at hl 6 rfl) ?_
          refine j_callV (k := 29) C [.int (nI r)] [.ref (ad (0))] (k_X5_girlAt l ad tk nt V  (nI r)) v_RX11_334 (xl (by decide)) (rfl) rfl ⟨rfl, rfl, Nat.le_of_ble_eq_true rfl, Nat.le_of_ble_eq_true rfl⟩ rfl hl.1 rfl (Nat.le_of_ble_eq_true rfl) ⟨Nat.le_of_ble_eq_true rfl, Nat.le_of_ble_eq_true rfl⟩ dX11_allSoWith_40 (kI fun x_4_ U4 h_4_ => ?_)
          obtain ⟨eU4, h_4_⟩ := h_4_
          have eU4 := eU4.symm
          subst eU4
          rw [atR_in (f := V 31) (r := 8) (i := r) (by have := hX.2.2.2.2.2.1; omega) (by decide)] at h_4_
          refine j_callV (k := 0) C [.int (x_4_)] [] (k_X0_girlAt l ad tk nt V 0 (Or.inl rfl) ng hX.1.1 hX.1.2.1 (x_4_)) v_RX11_99 (xl (xC (tk := tk) (nt := nt) (k := 0) (Or.inl rfl)).1.1) ((xC (tk := tk) (nt := nt) (k := 0) (Or.inl rfl)).2.1) rfl ⟨rfl, rfl, Nat.le_of_ble_eq_true rfl, Nat.le_of_ble_eq_true rfl⟩ rfl hl.1 rfl (Nat.le_of_ble_eq_true rfl) ⟨Nat.le_of_ble_eq_true rfl, Nat.le_of_ble_eq_true rfl⟩ dX11_allSoWith_43 (kA fun x_5_ U5 h_5_ => ?_)
          obtain ⟨eU5, h_5_⟩ := h_5_
          have eU5 := eU5.symm
          subst eU5
          rcases h_5_ with ⟨j_5_, hj5, ej5, ev5⟩ | ⟨ho5, ev5⟩
          · subst ev5
            refine j_astore (lv2 := [(7, .ref (ad (0 + 2 + 3 * j_5_))), (6, .ref (ad (56 + j_3_))), (0, .ref (ad (55))), (1, .int (z0)), (2, .int (z1)), (3, .int (z2)), (4, .int (z3)), (5, .int (nI r))]) C dX11_allSoWith_46 hl (by decide) rfl (fun ls hl => ?_)
            refine j_aload C dX11_allSoWith_48 (lv_at hl 1 rfl) ?_
            refine j_ifnull C dX11_allSoWith_50 ?_
            refine j_aload C dX11_allSoWith_53 (lv_at hl 0 rfl) ?_
            refine j_ifnonnull (tgt := 60) C dX11_allSoWith_55 (by decide) ?_
            refine j_aload C dX11_allSoWith_60 (lv_at hl 1 rfl) ?_
            refine j_getT (k := 56 + j_3_) C f_RX11_316_6 f_RX11_316_3 f_RX11_316_8 (xt hj3) (xT (XI_T hX hj3)) dX11_allSoWith_62 ?_
            refine j_iload_n C dX11_allSoWith_65 rfl (lv_at hl 3 rfl) ?_
            refine j_icmp_ne (tgt := 73) C dX11_allSoWith_66 (by decide) (fun c_6_ => ?_) (fun c_6_ => ?_)
            · skip
              refine j_aload C dX11_allSoWith_73 (lv_at hl 1 rfl) ?_
              refine j_callT (k := 56 + j_3_) C [] [] (k_X6_reach l ad tk nt V j_3_ hj3 (XI_T hX hj3) ) v_RX11_134 o_RX11_134_3 o_RX11_134_8 rfl (xt hj3) (xT (XI_T hX hj3)) ⟨rfl, rfl, Nat.le_of_ble_eq_true rfl, Nat.le_of_ble_eq_true rfl⟩ rfl hl.1 rfl (Nat.le_of_ble_eq_true rfl) ⟨Nat.le_of_ble_eq_true rfl, Nat.le_of_ble_eq_true rfl⟩ dX11_allSoWith_75 (kI fun x_7_ U7 h_7_ => ?_)
              obtain ⟨eU7, h_7_⟩ := h_7_
              have eU7 := eU7.symm
              subst eU7
              refine j_istore (lv2 := [(8, .int (x_7_)), (7, .ref (ad (0 + 2 + 3 * j_5_))), (6, .ref (ad (56 + j_3_))), (0, .ref (ad (55))), (1, .int (z0)), (2, .int (z1)), (3, .int (z2)), (4, .int (z3)), (5, .int (nI r))]) C dX11_allSoWith_78 hl (by decide) rfl (fun ls hl => ?_)
              refine j_aload_n C dX11_allSoWith_80 rfl (lv_at hl 3 rfl) ?_
              refine j_getR (k := 55) (k2 := 29) C (f_RX11_27_11) (xl (by decide)) (rfl) (rfl) dX11_allSoWith_81 ?_
              refine j_iload C dX11_allSoWith_84 (lv_at hl 8 rfl) ?_
              refine j_callV (k := 29) C [.int (nI r)] [] (k_X5_girlAt l ad tk nt V  (nI r)) v_RX11_334 (xl (by decide)) (rfl) rfl ⟨rfl, rfl, Nat.le_of_ble_eq_true rfl, Nat.le_of_ble_eq_true rfl⟩ rfl hl.1 rfl (Nat.le_of_ble_eq_true rfl) ⟨Nat.le_of_ble_eq_true rfl, Nat.le_of_ble_eq_true rfl⟩ dX11_allSoWith_86 (kI fun x_8_ U8 h_8_ => ?_)
              obtain ⟨eU8, h_8_⟩ := h_8_
              have eU8 := eU8.symm
              subst eU8
              rw [atR_in (f := V 31) (r := 8) (i := r) (by have := hX.2.2.2.2.2.1; omega) (by decide)] at h_8_
              refine j_iload_n C dX11_allSoWith_89 rfl (lv_at hl 6 rfl) ?_
              refine j_icmp_ne (tgt := 98) C dX11_allSoWith_90 (by decide) (fun c_9_ => ?_) (fun c_9_ => ?_)
              · skip
                refine j_aload C dX11_allSoWith_98 (lv_at hl 1 rfl) ?_
                refine j_getI (k := 0 + 2 + 3 * j_5_) C (f_RX11_108_2) (xl (xG (tk := tk) (nt := nt) (xCg (nt := nt) (Or.inl rfl) (by omega : j_5_ < 4)).1).1.1) ((xG (tk := tk) (nt := nt) (xCg (nt := nt) (Or.inl rfl) (by omega : j_5_ < 4)).1).2.1) dX11_allSoWith_100 ?_
                refine j_istore (lv2 := [(9, .int (V (0 + 2 + 3 * j_5_) 1)), (8, .int (x_7_)), (7, .ref (ad (0 + 2 + 3 * j_5_))), (6, .ref (ad (56 + j_3_))), (0, .ref (ad (55))), (1, .int (z0)), (2, .int (z1)), (3, .int (z2)), (4, .int (z3)), (5, .int (nI r))]) C dX11_allSoWith_103 hl (by decide) rfl (fun ls hl => ?_)
                refine j_iload C dX11_allSoWith_105 (lv_at hl 1 rfl) ?_
                refine j_aload C dX11_allSoWith_107 (lv_at hl 2 rfl) ?_
                refine j_getI (k := 0 + 2 + 3 * j_5_) C (f_RX11_103_2) (xl (xG (tk := tk) (nt := nt) (xCg (nt := nt) (Or.inl rfl) (by omega : j_5_ < 4)).1).1.1) ((xG (tk := tk) (nt := nt) (xCg (nt := nt) (Or.inl rfl) (by omega : j_5_ < 4)).1).2.1) dX11_allSoWith_109 ?_
                refine j_iload C dX11_allSoWith_112 (lv_at hl 0 rfl) ?_
                refine j_aload_n C dX11_allSoWith_114 rfl (lv_at hl 4 rfl) ?_
                refine j_getR (k := 55) (k2 := 0) C (f_RX11_12_11) (xl (by decide)) (rfl) (rfl) dX11_allSoWith_115 ?_
                refine j_getI (k := 0) C (f_RX11_147_0) (xl (xC (tk := tk) (nt := nt) (k := 0) (Or.inl rfl)).1.1) ((xC (tk := tk) (nt := nt) (k := 0) (Or.inl rfl)).2.1) dX11_allSoWith_118 ?_
                refine j_callS C [.int (x_7_), .int (V (0 + 2 + 3 * j_5_) 0), .int (V (0 + 2 + 3 * j_5_) 1), .int (V 0 0)] [] (k_X11_nearnessBy l (xS ad tk nt) V (x_7_) (V (0 + 2 + 3 * j_5_) 0) (V (0 + 2 + 3 * j_5_) 1) (V 0 0)) v_RX11_200 ⟨rfl, rfl, Nat.le_of_ble_eq_true rfl, Nat.le_of_ble_eq_true rfl⟩ rfl hl.1 rfl (Nat.le_of_ble_eq_true rfl) ⟨Nat.le_of_ble_eq_true rfl, Nat.le_of_ble_eq_true rfl⟩ dX11_allSoWith_121 (kI fun x_10_ U10 h_10_ => ?_)
                obtain ⟨eU10, h_10_⟩ := h_10_
                have eU10 := eU10.symm
                subst eU10
                refine j_aload_n C dX11_allSoWith_124 rfl (lv_at hl 4 rfl) ?_
                refine j_getR (k := 55) (k2 := 29) C (f_RX11_27_11) (xl (by decide)) (rfl) (rfl) dX11_allSoWith_125 ?_
                refine j_iload C dX11_allSoWith_128 (lv_at hl 9 rfl) ?_
                refine j_callV (k := 29) C [.int (nI r)] [.int (x_10_)] (k_X5_nearAt l ad tk nt V  (nI r)) v_RX11_336 (xl (by decide)) (rfl) rfl ⟨rfl, rfl, Nat.le_of_ble_eq_true rfl, Nat.le_of_ble_eq_true rfl⟩ rfl hl.1 rfl (Nat.le_of_ble_eq_true rfl) ⟨Nat.le_of_ble_eq_true rfl, Nat.le_of_ble_eq_true rfl⟩ dX11_allSoWith_130 (kI fun x_11_ U11 h_11_ => ?_)
                obtain ⟨eU11, h_11_⟩ := h_11_
                have eU11 := eU11.symm
                subst eU11
                rw [atR_in (f := V 32) (r := 8) (i := r) (by have := hX.2.2.2.2.2.1; omega) (by decide)] at h_11_
                refine j_icmp_eq (tgt := 138) C dX11_allSoWith_133 (by decide) (fun c_12_ => ?_) (fun c_12_ => ?_)
                · skip
                  obtain ⟨hin3, hcl3⟩ := inz ej3 hj3 (by omega)
                  obtain ⟨hin5, hcl5⟩ := inz ej5 hj5 (by omega)
                  have eT : (V 30 r).toNatClampNeg = j_3_ := by rw [← h_2_]; exact hcl3
                  have eG : (V 31 r).toNatClampNeg = j_5_ := by rw [← h_4_]; exact hcl5
                  have eN : V (56 + j_3_) 0 = V 30 r := by rw [(hX.2.2.2.1 j_3_ hj3).2, ← ej3, h_2_]
                  rw [eN] at c_6_
                  rw [h_8_] at c_9_
                  have es : soP tk V z0 z1 z2 z3 r := by
                    unfold soP
                    rw [eT, eG, if_neg c_6_, if_neg c_9_]
                    rw [← h_7_, ← h_10_, ← h_11_]; exact c_12_
                  have ns9 := es
                  refine j_iinc (v := nI (r + 1)) (lv2 := [(5, .int (nI (r + 1))), (9, .int (V (0 + 2 + 3 * j_5_) 1)), (8, .int (x_7_)), (7, .ref (ad (0 + 2 + 3 * j_5_))), (6, .ref (ad (56 + j_3_))), (0, .ref (ad (55))), (1, .int (z0)), (2, .int (z1)), (3, .int (z2)), (4, .int (z3))]) C dX11_allSoWith_138 hl (k0 := 9) rfl (nI_1 _) (by decide) rfl (fun ls hl => ?_)
                  refine j_goto (tgt := 3) C dX11_allSoWith_141 (by decide) ?_
                  exact ih_loop (r + 1) (by omega) (fun q h => by rcases (show q < r ∨ q = r by omega) with hx | hx; exact hq q hx; rw [hx]; exact ns9) (by omega) ls (lv_sub hl [5, 6, 7, 8, 9, 0] rfl)
                · skip
                  obtain ⟨hin3, hcl3⟩ := inz ej3 hj3 (by omega)
                  obtain ⟨hin5, hcl5⟩ := inz ej5 hj5 (by omega)
                  have eT : (V 30 r).toNatClampNeg = j_3_ := by rw [← h_2_]; exact hcl3
                  have eG : (V 31 r).toNatClampNeg = j_5_ := by rw [← h_4_]; exact hcl5
                  have eN : V (56 + j_3_) 0 = V 30 r := by rw [(hX.2.2.2.1 j_3_ hj3).2, ← ej3, h_2_]
                  rw [eN] at c_6_
                  rw [h_8_] at c_9_
                  have es : soP tk V z0 z1 z2 z3 r ↔ False := by
                    unfold soP
                    rw [eT, eG, if_neg c_6_, if_neg c_9_]
                    rw [← h_7_, ← h_10_, ← h_11_]; exact iff_false_intro c_12_
                  have ns9 : ¬ soP tk V z0 z1 z2 z3 r := fun q => es.mp q
                  refine j_iconst (v := 0) C dX11_allSoWith_136 (by decide) ?_
                  refine j_zret C rfl ⟨rfl, _, rfl, ?_⟩ dX11_allSoWith_137
                  exact ⟨rfl, (soD_f (fun q => ns9 (q r hlt))).symm⟩
              · skip
                refine j_iload C dX11_allSoWith_93 (lv_at hl 7 rfl) ?_
                refine j_goto (tgt := 103) C dX11_allSoWith_95 (by decide) ?_
                refine j_istore (lv2 := [(9, .int (z3)), (8, .int (x_7_)), (7, .ref (ad (0 + 2 + 3 * j_5_))), (6, .ref (ad (56 + j_3_))), (0, .ref (ad (55))), (1, .int (z0)), (2, .int (z1)), (3, .int (z2)), (4, .int (z3)), (5, .int (nI r))]) C dX11_allSoWith_103 hl (by decide) rfl (fun ls hl => ?_)
                refine j_iload C dX11_allSoWith_105 (lv_at hl 1 rfl) ?_
                refine j_aload C dX11_allSoWith_107 (lv_at hl 2 rfl) ?_
                refine j_getI (k := 0 + 2 + 3 * j_5_) C (f_RX11_103_2) (xl (xG (tk := tk) (nt := nt) (xCg (nt := nt) (Or.inl rfl) (by omega : j_5_ < 4)).1).1.1) ((xG (tk := tk) (nt := nt) (xCg (nt := nt) (Or.inl rfl) (by omega : j_5_ < 4)).1).2.1) dX11_allSoWith_109 ?_
                refine j_iload C dX11_allSoWith_112 (lv_at hl 0 rfl) ?_
                refine j_aload_n C dX11_allSoWith_114 rfl (lv_at hl 4 rfl) ?_
                refine j_getR (k := 55) (k2 := 0) C (f_RX11_12_11) (xl (by decide)) (rfl) (rfl) dX11_allSoWith_115 ?_
                refine j_getI (k := 0) C (f_RX11_147_0) (xl (xC (tk := tk) (nt := nt) (k := 0) (Or.inl rfl)).1.1) ((xC (tk := tk) (nt := nt) (k := 0) (Or.inl rfl)).2.1) dX11_allSoWith_118 ?_
                refine j_callS C [.int (x_7_), .int (V (0 + 2 + 3 * j_5_) 0), .int (z3), .int (V 0 0)] [] (k_X11_nearnessBy l (xS ad tk nt) V (x_7_) (V (0 + 2 + 3 * j_5_) 0) (z3) (V 0 0)) v_RX11_200 ⟨rfl, rfl, Nat.le_of_ble_eq_true rfl, Nat.le_of_ble_eq_true rfl⟩ rfl hl.1 rfl (Nat.le_of_ble_eq_true rfl) ⟨Nat.le_of_ble_eq_true rfl, Nat.le_of_ble_eq_true rfl⟩ dX11_allSoWith_121 (kI fun x_13_ U13 h_13_ => ?_)
                obtain ⟨eU13, h_13_⟩ := h_13_
                have eU13 := eU13.symm
                subst eU13
                refine j_aload_n C dX11_allSoWith_124 rfl (lv_at hl 4 rfl) ?_
                refine j_getR (k := 55) (k2 := 29) C (f_RX11_27_11) (xl (by decide)) (rfl) (rfl) dX11_allSoWith_125 ?_
                refine j_iload C dX11_allSoWith_128 (lv_at hl 9 rfl) ?_
                refine j_callV (k := 29) C [.int (nI r)] [.int (x_13_)] (k_X5_nearAt l ad tk nt V  (nI r)) v_RX11_336 (xl (by decide)) (rfl) rfl ⟨rfl, rfl, Nat.le_of_ble_eq_true rfl, Nat.le_of_ble_eq_true rfl⟩ rfl hl.1 rfl (Nat.le_of_ble_eq_true rfl) ⟨Nat.le_of_ble_eq_true rfl, Nat.le_of_ble_eq_true rfl⟩ dX11_allSoWith_130 (kI fun x_14_ U14 h_14_ => ?_)
                obtain ⟨eU14, h_14_⟩ := h_14_
                have eU14 := eU14.symm
                subst eU14
                rw [atR_in (f := V 32) (r := 8) (i := r) (by have := hX.2.2.2.2.2.1; omega) (by decide)] at h_14_
                refine j_icmp_eq (tgt := 138) C dX11_allSoWith_133 (by decide) (fun c_15_ => ?_) (fun c_15_ => ?_)
                · skip
                  obtain ⟨hin3, hcl3⟩ := inz ej3 hj3 (by omega)
                  obtain ⟨hin5, hcl5⟩ := inz ej5 hj5 (by omega)
                  have eT : (V 30 r).toNatClampNeg = j_3_ := by rw [← h_2_]; exact hcl3
                  have eG : (V 31 r).toNatClampNeg = j_5_ := by rw [← h_4_]; exact hcl5
                  have eN : V (56 + j_3_) 0 = V 30 r := by rw [(hX.2.2.2.1 j_3_ hj3).2, ← ej3, h_2_]
                  rw [eN] at c_6_
                  rw [h_8_] at c_9_
                  have es : soP tk V z0 z1 z2 z3 r := by
                    unfold soP
                    rw [eT, eG, if_neg c_6_, if_pos c_9_]
                    rw [← h_7_, ← h_13_, ← h_14_]; exact c_15_
                  have ns9 := es
                  refine j_iinc (v := nI (r + 1)) (lv2 := [(5, .int (nI (r + 1))), (9, .int (z3)), (8, .int (x_7_)), (7, .ref (ad (0 + 2 + 3 * j_5_))), (6, .ref (ad (56 + j_3_))), (0, .ref (ad (55))), (1, .int (z0)), (2, .int (z1)), (3, .int (z2)), (4, .int (z3))]) C dX11_allSoWith_138 hl (k0 := 9) rfl (nI_1 _) (by decide) rfl (fun ls hl => ?_)
                  refine j_goto (tgt := 3) C dX11_allSoWith_141 (by decide) ?_
                  exact ih_loop (r + 1) (by omega) (fun q h => by rcases (show q < r ∨ q = r by omega) with hx | hx; exact hq q hx; rw [hx]; exact ns9) (by omega) ls (lv_sub hl [5, 6, 7, 8, 9, 0] rfl)
                · skip
                  obtain ⟨hin3, hcl3⟩ := inz ej3 hj3 (by omega)
                  obtain ⟨hin5, hcl5⟩ := inz ej5 hj5 (by omega)
                  have eT : (V 30 r).toNatClampNeg = j_3_ := by rw [← h_2_]; exact hcl3
                  have eG : (V 31 r).toNatClampNeg = j_5_ := by rw [← h_4_]; exact hcl5
                  have eN : V (56 + j_3_) 0 = V 30 r := by rw [(hX.2.2.2.1 j_3_ hj3).2, ← ej3, h_2_]
                  rw [eN] at c_6_
                  rw [h_8_] at c_9_
                  have es : soP tk V z0 z1 z2 z3 r ↔ False := by
                    unfold soP
                    rw [eT, eG, if_neg c_6_, if_pos c_9_]
                    rw [← h_7_, ← h_13_, ← h_14_]; exact iff_false_intro c_15_
                  have ns9 : ¬ soP tk V z0 z1 z2 z3 r := fun q => es.mp q
                  refine j_iconst (v := 0) C dX11_allSoWith_136 (by decide) ?_
                  refine j_zret C rfl ⟨rfl, _, rfl, ?_⟩ dX11_allSoWith_137
                  exact ⟨rfl, (soD_f (fun q => ns9 (q r hlt))).symm⟩
            · skip
              refine j_iload_n C dX11_allSoWith_69 rfl (lv_at hl 4 rfl) ?_
              refine j_goto (tgt := 78) C dX11_allSoWith_70 (by decide) ?_
              refine j_istore (lv2 := [(8, .int (z1)), (7, .ref (ad (0 + 2 + 3 * j_5_))), (6, .ref (ad (56 + j_3_))), (0, .ref (ad (55))), (1, .int (z0)), (2, .int (z1)), (3, .int (z2)), (4, .int (z3)), (5, .int (nI r))]) C dX11_allSoWith_78 hl (by decide) rfl (fun ls hl => ?_)
              refine j_aload_n C dX11_allSoWith_80 rfl (lv_at hl 3 rfl) ?_
              refine j_getR (k := 55) (k2 := 29) C (f_RX11_27_11) (xl (by decide)) (rfl) (rfl) dX11_allSoWith_81 ?_
              refine j_iload C dX11_allSoWith_84 (lv_at hl 8 rfl) ?_
              refine j_callV (k := 29) C [.int (nI r)] [] (k_X5_girlAt l ad tk nt V  (nI r)) v_RX11_334 (xl (by decide)) (rfl) rfl ⟨rfl, rfl, Nat.le_of_ble_eq_true rfl, Nat.le_of_ble_eq_true rfl⟩ rfl hl.1 rfl (Nat.le_of_ble_eq_true rfl) ⟨Nat.le_of_ble_eq_true rfl, Nat.le_of_ble_eq_true rfl⟩ dX11_allSoWith_86 (kI fun x_16_ U16 h_16_ => ?_)
              obtain ⟨eU16, h_16_⟩ := h_16_
              have eU16 := eU16.symm
              subst eU16
              rw [atR_in (f := V 31) (r := 8) (i := r) (by have := hX.2.2.2.2.2.1; omega) (by decide)] at h_16_
              refine j_iload_n C dX11_allSoWith_89 rfl (lv_at hl 6 rfl) ?_
              refine j_icmp_ne (tgt := 98) C dX11_allSoWith_90 (by decide) (fun c_17_ => ?_) (fun c_17_ => ?_)
              · skip
                refine j_aload C dX11_allSoWith_98 (lv_at hl 1 rfl) ?_
                refine j_getI (k := 0 + 2 + 3 * j_5_) C (f_RX11_108_2) (xl (xG (tk := tk) (nt := nt) (xCg (nt := nt) (Or.inl rfl) (by omega : j_5_ < 4)).1).1.1) ((xG (tk := tk) (nt := nt) (xCg (nt := nt) (Or.inl rfl) (by omega : j_5_ < 4)).1).2.1) dX11_allSoWith_100 ?_
                refine j_istore (lv2 := [(9, .int (V (0 + 2 + 3 * j_5_) 1)), (8, .int (z1)), (7, .ref (ad (0 + 2 + 3 * j_5_))), (6, .ref (ad (56 + j_3_))), (0, .ref (ad (55))), (1, .int (z0)), (2, .int (z1)), (3, .int (z2)), (4, .int (z3)), (5, .int (nI r))]) C dX11_allSoWith_103 hl (by decide) rfl (fun ls hl => ?_)
                refine j_iload C dX11_allSoWith_105 (lv_at hl 1 rfl) ?_
                refine j_aload C dX11_allSoWith_107 (lv_at hl 2 rfl) ?_
                refine j_getI (k := 0 + 2 + 3 * j_5_) C (f_RX11_103_2) (xl (xG (tk := tk) (nt := nt) (xCg (nt := nt) (Or.inl rfl) (by omega : j_5_ < 4)).1).1.1) ((xG (tk := tk) (nt := nt) (xCg (nt := nt) (Or.inl rfl) (by omega : j_5_ < 4)).1).2.1) dX11_allSoWith_109 ?_
                refine j_iload C dX11_allSoWith_112 (lv_at hl 0 rfl) ?_
                refine j_aload_n C dX11_allSoWith_114 rfl (lv_at hl 4 rfl) ?_
                refine j_getR (k := 55) (k2 := 0) C (f_RX11_12_11) (xl (by decide)) (rfl) (rfl) dX11_allSoWith_115 ?_
                refine j_getI (k := 0) C (f_RX11_147_0) (xl (xC (tk := tk) (nt := nt) (k := 0) (Or.inl rfl)).1.1) ((xC (tk := tk) (nt := nt) (k := 0) (Or.inl rfl)).2.1) dX11_allSoWith_118 ?_
                refine j_callS C [.int (z1), .int (V (0 + 2 + 3 * j_5_) 0), .int (V (0 + 2 + 3 * j_5_) 1), .int (V 0 0)] [] (k_X11_nearnessBy l (xS ad tk nt) V (z1) (V (0 + 2 + 3 * j_5_) 0) (V (0 + 2 + 3 * j_5_) 1) (V 0 0)) v_RX11_200 ⟨rfl, rfl, Nat.le_of_ble_eq_true rfl, Nat.le_of_ble_eq_true rfl⟩ rfl hl.1 rfl (Nat.le_of_ble_eq_true rfl) ⟨Nat.le_of_ble_eq_true rfl, Nat.le_of_ble_eq_true rfl⟩ dX11_allSoWith_121 (kI fun x_18_ U18 h_18_ => ?_)
                obtain ⟨eU18, h_18_⟩ := h_18_
                have eU18 := eU18.symm
                subst eU18
                refine j_aload_n C dX11_allSoWith_124 rfl (lv_at hl 4 rfl) ?_
                refine j_getR (k := 55) (k2 := 29) C (f_RX11_27_11) (xl (by decide)) (rfl) (rfl) dX11_allSoWith_125 ?_
                refine j_iload C dX11_allSoWith_128 (lv_at hl 9 rfl) ?_
                refine j_callV (k := 29) C [.int (nI r)] [.int (x_18_)] (k_X5_nearAt l ad tk nt V  (nI r)) v_RX11_336 (xl (by decide)) (rfl) rfl ⟨rfl, rfl, Nat.le_of_ble_eq_true rfl, Nat.le_of_ble_eq_true rfl⟩ rfl hl.1 rfl (Nat.le_of_ble_eq_true rfl) ⟨Nat.le_of_ble_eq_true rfl, Nat.le_of_ble_eq_true rfl⟩ dX11_allSoWith_130 (kI fun x_19_ U19 h_19_ => ?_)
                obtain ⟨eU19, h_19_⟩ := h_19_
                have eU19 := eU19.symm
                subst eU19
                rw [atR_in (f := V 32) (r := 8) (i := r) (by have := hX.2.2.2.2.2.1; omega) (by decide)] at h_19_
                refine j_icmp_eq (tgt := 138) C dX11_allSoWith_133 (by decide) (fun c_20_ => ?_) (fun c_20_ => ?_)
                · skip
                  obtain ⟨hin3, hcl3⟩ := inz ej3 hj3 (by omega)
                  obtain ⟨hin5, hcl5⟩ := inz ej5 hj5 (by omega)
                  have eT : (V 30 r).toNatClampNeg = j_3_ := by rw [← h_2_]; exact hcl3
                  have eG : (V 31 r).toNatClampNeg = j_5_ := by rw [← h_4_]; exact hcl5
                  have eN : V (56 + j_3_) 0 = V 30 r := by rw [(hX.2.2.2.1 j_3_ hj3).2, ← ej3, h_2_]
                  rw [eN] at c_6_
                  rw [h_16_] at c_17_
                  have es : soP tk V z0 z1 z2 z3 r := by
                    unfold soP
                    rw [eT, eG, if_pos c_6_, if_neg c_17_]
                    rw [← h_18_, ← h_19_]; exact c_20_
                  have ns9 := es
                  refine j_iinc (v := nI (r + 1)) (lv2 := [(5, .int (nI (r + 1))), (9, .int (V (0 + 2 + 3 * j_5_) 1)), (8, .int (z1)), (7, .ref (ad (0 + 2 + 3 * j_5_))), (6, .ref (ad (56 + j_3_))), (0, .ref (ad (55))), (1, .int (z0)), (2, .int (z1)), (3, .int (z2)), (4, .int (z3))]) C dX11_allSoWith_138 hl (k0 := 9) rfl (nI_1 _) (by decide) rfl (fun ls hl => ?_)
                  refine j_goto (tgt := 3) C dX11_allSoWith_141 (by decide) ?_
                  exact ih_loop (r + 1) (by omega) (fun q h => by rcases (show q < r ∨ q = r by omega) with hx | hx; exact hq q hx; rw [hx]; exact ns9) (by omega) ls (lv_sub hl [5, 6, 7, 8, 9, 0] rfl)
                · skip
                  obtain ⟨hin3, hcl3⟩ := inz ej3 hj3 (by omega)
                  obtain ⟨hin5, hcl5⟩ := inz ej5 hj5 (by omega)
                  have eT : (V 30 r).toNatClampNeg = j_3_ := by rw [← h_2_]; exact hcl3
                  have eG : (V 31 r).toNatClampNeg = j_5_ := by rw [← h_4_]; exact hcl5
                  have eN : V (56 + j_3_) 0 = V 30 r := by rw [(hX.2.2.2.1 j_3_ hj3).2, ← ej3, h_2_]
                  rw [eN] at c_6_
                  rw [h_16_] at c_17_
                  have es : soP tk V z0 z1 z2 z3 r ↔ False := by
                    unfold soP
                    rw [eT, eG, if_pos c_6_, if_neg c_17_]
                    rw [← h_18_, ← h_19_]; exact iff_false_intro c_20_
                  have ns9 : ¬ soP tk V z0 z1 z2 z3 r := fun q => es.mp q
                  refine j_iconst (v := 0) C dX11_allSoWith_136 (by decide) ?_
                  refine j_zret C rfl ⟨rfl, _, rfl, ?_⟩ dX11_allSoWith_137
                  exact ⟨rfl, (soD_f (fun q => ns9 (q r hlt))).symm⟩
              · skip
                refine j_iload C dX11_allSoWith_93 (lv_at hl 7 rfl) ?_
                refine j_goto (tgt := 103) C dX11_allSoWith_95 (by decide) ?_
                refine j_istore (lv2 := [(9, .int (z3)), (8, .int (z1)), (7, .ref (ad (0 + 2 + 3 * j_5_))), (6, .ref (ad (56 + j_3_))), (0, .ref (ad (55))), (1, .int (z0)), (2, .int (z1)), (3, .int (z2)), (4, .int (z3)), (5, .int (nI r))]) C dX11_allSoWith_103 hl (by decide) rfl (fun ls hl => ?_)
                refine j_iload C dX11_allSoWith_105 (lv_at hl 1 rfl) ?_
                refine j_aload C dX11_allSoWith_107 (lv_at hl 2 rfl) ?_
                refine j_getI (k := 0 + 2 + 3 * j_5_) C (f_RX11_103_2) (xl (xG (tk := tk) (nt := nt) (xCg (nt := nt) (Or.inl rfl) (by omega : j_5_ < 4)).1).1.1) ((xG (tk := tk) (nt := nt) (xCg (nt := nt) (Or.inl rfl) (by omega : j_5_ < 4)).1).2.1) dX11_allSoWith_109 ?_
                refine j_iload C dX11_allSoWith_112 (lv_at hl 0 rfl) ?_
                refine j_aload_n C dX11_allSoWith_114 rfl (lv_at hl 4 rfl) ?_
                refine j_getR (k := 55) (k2 := 0) C (f_RX11_12_11) (xl (by decide)) (rfl) (rfl) dX11_allSoWith_115 ?_
                refine j_getI (k := 0) C (f_RX11_147_0) (xl (xC (tk := tk) (nt := nt) (k := 0) (Or.inl rfl)).1.1) ((xC (tk := tk) (nt := nt) (k := 0) (Or.inl rfl)).2.1) dX11_allSoWith_118 ?_
                refine j_callS C [.int (z1), .int (V (0 + 2 + 3 * j_5_) 0), .int (z3), .int (V 0 0)] [] (k_X11_nearnessBy l (xS ad tk nt) V (z1) (V (0 + 2 + 3 * j_5_) 0) (z3) (V 0 0)) v_RX11_200 ⟨rfl, rfl, Nat.le_of_ble_eq_true rfl, Nat.le_of_ble_eq_true rfl⟩ rfl hl.1 rfl (Nat.le_of_ble_eq_true rfl) ⟨Nat.le_of_ble_eq_true rfl, Nat.le_of_ble_eq_true rfl⟩ dX11_allSoWith_121 (kI fun x_21_ U21 h_21_ => ?_)
                obtain ⟨eU21, h_21_⟩ := h_21_
                have eU21 := eU21.symm
                subst eU21
                refine j_aload_n C dX11_allSoWith_124 rfl (lv_at hl 4 rfl) ?_
                refine j_getR (k := 55) (k2 := 29) C (f_RX11_27_11) (xl (by decide)) (rfl) (rfl) dX11_allSoWith_125 ?_
                refine j_iload C dX11_allSoWith_128 (lv_at hl 9 rfl) ?_
                refine j_callV (k := 29) C [.int (nI r)] [.int (x_21_)] (k_X5_nearAt l ad tk nt V  (nI r)) v_RX11_336 (xl (by decide)) (rfl) rfl ⟨rfl, rfl, Nat.le_of_ble_eq_true rfl, Nat.le_of_ble_eq_true rfl⟩ rfl hl.1 rfl (Nat.le_of_ble_eq_true rfl) ⟨Nat.le_of_ble_eq_true rfl, Nat.le_of_ble_eq_true rfl⟩ dX11_allSoWith_130 (kI fun x_22_ U22 h_22_ => ?_)
                obtain ⟨eU22, h_22_⟩ := h_22_
                have eU22 := eU22.symm
                subst eU22
                rw [atR_in (f := V 32) (r := 8) (i := r) (by have := hX.2.2.2.2.2.1; omega) (by decide)] at h_22_
                refine j_icmp_eq (tgt := 138) C dX11_allSoWith_133 (by decide) (fun c_23_ => ?_) (fun c_23_ => ?_)
                · skip
                  obtain ⟨hin3, hcl3⟩ := inz ej3 hj3 (by omega)
                  obtain ⟨hin5, hcl5⟩ := inz ej5 hj5 (by omega)
                  have eT : (V 30 r).toNatClampNeg = j_3_ := by rw [← h_2_]; exact hcl3
                  have eG : (V 31 r).toNatClampNeg = j_5_ := by rw [← h_4_]; exact hcl5
                  have eN : V (56 + j_3_) 0 = V 30 r := by rw [(hX.2.2.2.1 j_3_ hj3).2, ← ej3, h_2_]
                  rw [eN] at c_6_
                  rw [h_16_] at c_17_
                  have es : soP tk V z0 z1 z2 z3 r := by
                    unfold soP
                    rw [eT, eG, if_pos c_6_, if_pos c_17_]
                    rw [← h_21_, ← h_22_]; exact c_23_
                  have ns9 := es
                  refine j_iinc (v := nI (r + 1)) (lv2 := [(5, .int (nI (r + 1))), (9, .int (z3)), (8, .int (z1)), (7, .ref (ad (0 + 2 + 3 * j_5_))), (6, .ref (ad (56 + j_3_))), (0, .ref (ad (55))), (1, .int (z0)), (2, .int (z1)), (3, .int (z2)), (4, .int (z3))]) C dX11_allSoWith_138 hl (k0 := 9) rfl (nI_1 _) (by decide) rfl (fun ls hl => ?_)
                  refine j_goto (tgt := 3) C dX11_allSoWith_141 (by decide) ?_
                  exact ih_loop (r + 1) (by omega) (fun q h => by rcases (show q < r ∨ q = r by omega) with hx | hx; exact hq q hx; rw [hx]; exact ns9) (by omega) ls (lv_sub hl [5, 6, 7, 8, 9, 0] rfl)
                · skip
                  obtain ⟨hin3, hcl3⟩ := inz ej3 hj3 (by omega)
                  obtain ⟨hin5, hcl5⟩ := inz ej5 hj5 (by omega)
                  have eT : (V 30 r).toNatClampNeg = j_3_ := by rw [← h_2_]; exact hcl3
                  have eG : (V 31 r).toNatClampNeg = j_5_ := by rw [← h_4_]; exact hcl5
                  have eN : V (56 + j_3_) 0 = V 30 r := by rw [(hX.2.2.2.1 j_3_ hj3).2, ← ej3, h_2_]
                  rw [eN] at c_6_
                  rw [h_16_] at c_17_
                  have es : soP tk V z0 z1 z2 z3 r ↔ False := by
                    unfold soP
                    rw [eT, eG, if_pos c_6_, if_pos c_17_]
                    rw [← h_21_, ← h_22_]; exact iff_false_intro c_23_
                  have ns9 : ¬ soP tk V z0 z1 z2 z3 r := fun q => es.mp q
                  refine j_iconst (v := 0) C dX11_allSoWith_136 (by decide) ?_
                  refine j_zret C rfl ⟨rfl, _, rfl, ?_⟩ dX11_allSoWith_137
                  exact ⟨rfl, (soD_f (fun q => ns9 (q r hlt))).symm⟩
          · subst ev5
            refine j_astoreN (lv2 := [(7, .null), (6, .ref (ad (56 + j_3_))), (0, .ref (ad (55))), (1, .int (z0)), (2, .int (z1)), (3, .int (z2)), (4, .int (z3)), (5, .int (nI r))]) C dX11_allSoWith_46 hl (by decide) rfl (fun ls hl => ?_)
            refine j_aload C dX11_allSoWith_48 (lv_at hl 1 rfl) ?_
            refine j_ifnull C dX11_allSoWith_50 ?_
            refine j_aloadN C dX11_allSoWith_53 (lv_at hl 0 rfl) ?_
            refine j_ifnonnullN C dX11_allSoWith_55 ?_
            refine j_iconst (v := 0) C dX11_allSoWith_58 (by decide) ?_
            refine j_zret C rfl ⟨rfl, _, rfl, ?_⟩ dX11_allSoWith_59
            exfalso
            first | (rw [h_2_, eta] at ho5; exact absurd ho5 (inN hta (by omega))) | (rw [h_4_, egb] at ho5; exact absurd ho5 (inN hgb (by omega)))
        · subst ev3
          refine j_astoreN (lv2 := [(6, .null), (0, .ref (ad (55))), (1, .int (z0)), (2, .int (z1)), (3, .int (z2)), (4, .int (z3)), (5, .int (nI r))]) C dX11_allSoWith_28 hl (by decide) rfl (fun ls hl => ?_)
          refine j_aload_n C dX11_allSoWith_30 rfl (lv_at hl 1 rfl) ?_
          refine j_getR (k := 55) (k2 := 0) C (f_RX11_12_11) (xl (by decide)) (rfl) (rfl) dX11_allSoWith_31 ?_
          refine j_aload_n C dX11_allSoWith_34 rfl (lv_at hl 1 rfl) ?_
          refine j_getR (k := 55) (k2 := 29) C (f_RX11_27_11) (xl (by decide)) (rfl) (rfl) dX11_allSoWith_35 ?_
          refine j_iload C dX11_allSoWith_38 (lv_at hl 6 rfl) ?_
          refine j_callV (k := 29) C [.int (nI r)] [.ref (ad (0))] (k_X5_girlAt l ad tk nt V  (nI r)) v_RX11_334 (xl (by decide)) (rfl) rfl ⟨rfl, rfl, Nat.le_of_ble_eq_true rfl, Nat.le_of_ble_eq_true rfl⟩ rfl hl.1 rfl (Nat.le_of_ble_eq_true rfl) ⟨Nat.le_of_ble_eq_true rfl, Nat.le_of_ble_eq_true rfl⟩ dX11_allSoWith_40 (kI fun x_24_ U24 h_24_ => ?_)
          obtain ⟨eU24, h_24_⟩ := h_24_
          have eU24 := eU24.symm
          subst eU24
          rw [atR_in (f := V 31) (r := 8) (i := r) (by have := hX.2.2.2.2.2.1; omega) (by decide)] at h_24_
          refine j_callV (k := 0) C [.int (x_24_)] [] (k_X0_girlAt l ad tk nt V 0 (Or.inl rfl) ng hX.1.1 hX.1.2.1 (x_24_)) v_RX11_99 (xl (xC (tk := tk) (nt := nt) (k := 0) (Or.inl rfl)).1.1) ((xC (tk := tk) (nt := nt) (k := 0) (Or.inl rfl)).2.1) rfl ⟨rfl, rfl, Nat.le_of_ble_eq_true rfl, Nat.le_of_ble_eq_true rfl⟩ rfl hl.1 rfl (Nat.le_of_ble_eq_true rfl) ⟨Nat.le_of_ble_eq_true rfl, Nat.le_of_ble_eq_true rfl⟩ dX11_allSoWith_43 (kA fun x_25_ U25 h_25_ => ?_)
          obtain ⟨eU25, h_25_⟩ := h_25_
          have eU25 := eU25.symm
          subst eU25
          rcases h_25_ with ⟨j_25_, hj25, ej25, ev25⟩ | ⟨ho25, ev25⟩
          · subst ev25
            refine j_astore (lv2 := [(7, .ref (ad (0 + 2 + 3 * j_25_))), (6, .null), (0, .ref (ad (55))), (1, .int (z0)), (2, .int (z1)), (3, .int (z2)), (4, .int (z3)), (5, .int (nI r))]) C dX11_allSoWith_46 hl (by decide) rfl (fun ls hl => ?_)
            refine j_aloadN C dX11_allSoWith_48 (lv_at hl 1 rfl) ?_
            refine j_ifnullN (tgt := 58) C dX11_allSoWith_50 (by decide) ?_
            refine j_iconst (v := 0) C dX11_allSoWith_58 (by decide) ?_
            refine j_zret C rfl ⟨rfl, _, rfl, ?_⟩ dX11_allSoWith_59
            exfalso
            first | (rw [h_2_, eta] at ho3; exact absurd ho3 (inN hta (by omega))) | (rw [h_24_, egb] at ho3; exact absurd ho3 (inN hgb (by omega)))
          · subst ev25
            refine j_astoreN (lv2 := [(7, .null), (6, .null), (0, .ref (ad (55))), (1, .int (z0)), (2, .int (z1)), (3, .int (z2)), (4, .int (z3)), (5, .int (nI r))]) C dX11_allSoWith_46 hl (by decide) rfl (fun ls hl => ?_)
            refine j_aloadN C dX11_allSoWith_48 (lv_at hl 1 rfl) ?_
            refine j_ifnullN (tgt := 58) C dX11_allSoWith_50 (by decide) ?_
            refine j_iconst (v := 0) C dX11_allSoWith_58 (by decide) ?_
            refine j_zret C rfl ⟨rfl, _, rfl, ?_⟩ dX11_allSoWith_59
            exfalso
            first | (rw [h_2_, eta] at ho3; exact absurd ho3 (inN hta (by omega))) | (rw [h_24_, egb] at ho3; exact absurd ho3 (inN hgb (by omega)))
  exact loop (c_0_ + 1) 0 (by omega) (fun q h => absurd h (by omega)) (by omega) ls (lv_sub hl [1, 2, 3, 4, 5, 0] rfl)
abbrev rm_X11_leans : Room := { frames := 3, cells := 0, slots := 0, locals := 74 }
set_option maxHeartbeats 4000000 in
set_option maxRecDepth 100000 in
theorem k_X11_leans (l : Launch) (ad tk : Nat → Nat) (nt : Nat) (V : Vt) (ng : Nat) (rr : Nat → Nat) (c_0_ : Nat) (hX : XI tk nt V ng rr c_0_) (z0 : Int32) : Ct l yX11_leans cX11_leans 4 (some .int) rm_X11_leans (xS ad tk nt) V [.ref (ad (55)), .int (z0)] (rI fun x V2 => V2 = V ∧ x = if ¬ z0 < 0 ∧ z0 < nI ng then setP (fun v => 0 ≤ v ∧ soA tk V (-9) 0 z0 (nI v) c_0_) 10 else -1) := by
  refine Ct_of (by decide) (Nat.le_of_ble_eq_true rfl) ?_
  intro p e s m below meth c A D cy ls C hl
  have hl : lv_has ls 4 [(0, .ref (ad (55))), (1, .int (z0))] := hl
  have ng4 := hX.1.2.1
  have nt5 := hX.2.2.1
  refine j_aload_n C dX11_leans_0 rfl (lv_at hl 0 rfl) ?_
  refine j_getR (k := 55) (k2 := 0) C (f_RX11_12_11) (xl (by decide)) (rfl) (rfl) dX11_leans_1 ?_
  refine j_iload_n C dX11_leans_4 rfl (lv_at hl 1 rfl) ?_
  refine j_callV (k := 0) C [.int (z0)] [] (k_X0_girlAt l ad tk nt V 0 (Or.inl rfl) ng hX.1.1 hX.1.2.1 (z0)) v_RX11_99 (xl (xC (tk := tk) (nt := nt) (k := 0) (Or.inl rfl)).1.1) ((xC (tk := tk) (nt := nt) (k := 0) (Or.inl rfl)).2.1) rfl ⟨rfl, rfl, Nat.le_of_ble_eq_true rfl, Nat.le_of_ble_eq_true rfl⟩ rfl hl.1 rfl (Nat.le_of_ble_eq_true rfl) ⟨Nat.le_of_ble_eq_true rfl, Nat.le_of_ble_eq_true rfl⟩ dX11_leans_5 (kA fun x_1_ U1 h_1_ => ?_)
  obtain ⟨eU1, h_1_⟩ := h_1_
  have eU1 := eU1.symm
  subst eU1
  rcases h_1_ with ⟨j_1_, hj1, ej1, ev1⟩ | ⟨ho1, ev1⟩
  · subst ev1
    refine j_ifnonnull (tgt := 13) C dX11_leans_8 (by decide) ?_
    refine j_iconst (v := 0) C dX11_leans_13 (by decide) ?_
    refine j_istore_n (lv2 := [(2, .int (0)), (0, .ref (ad (55))), (1, .int (z0))]) C dX11_leans_14 rfl hl (by decide) rfl (fun ls hl => ?_)
    refine j_iconst (v := 0) C dX11_leans_15 (by decide) ?_
    refine j_istore_n (lv2 := [(3, .int (0)), (2, .int (0)), (0, .ref (ad (55))), (1, .int (z0))]) C dX11_leans_16 rfl hl (by decide) rfl (fun ls hl => ?_)
    have loop : ∀ (n_9_ : Nat) (v : Nat) (b : Int32), 0 ≤ v → v ≤ 10 → b = setP (fun v => 0 ≤ v ∧ soA tk V (-9) 0 z0 (nI v) c_0_) v → 10 - v < n_9_ → ∀ (ls : Array Slot), lv_has ls 4 [(0, .ref (ad (55))), (1, .int (z0)), (2, .int (b)), (3, .int (nI v))] → J p l e rm_X11_leans s m [.ref (ad (55)), .int (z0)].toArray below meth c A D cy 0 0 (MQ below (gPost D cy A (fun o9 σ2 V2 => σ2 = xS ad tk nt ∧ (rI fun x V2 => V2 = V ∧ x = if ¬ z0 < 0 ∧ z0 < nI ng then setP (fun v => 0 ≤ v ∧ soA tk V (-9) 0 z0 (nI v) c_0_) 10 else -1) o9 V2)) [.ref (ad (55)), .int (z0)].toArray s 0 0 A) (xS ad tk nt) V (F0 m 17 ls []) := by
      intro n_9_
      induction n_9_ with
      | zero =>
        intro v b hlo hi hb hm
        exact absurd hm (by omega)
      | succ n_9_ ih_loop =>
        intro v b hlo hi hb hm ls hl
        refine j_iload_n C dX11_leans_17 rfl (lv_at hl 3 rfl) ?_
        refine j_bipush (v := 9) C dX11_leans_18 (by decide) ?_
        refine j_icmp_gt (tgt := 47) C dX11_leans_20 (by decide) (fun c_2_ => ?_) (fun c_2_ => ?_)
        · have n_2_ := Int32.not_le.mpr c_2_
          obtain rfl : v = 10 := by have q := (nI_ltI (a := 9) (by decide) (by omega)).mp c_2_; omega
          refine j_iload_n C dX11_leans_47 rfl (lv_at hl 2 rfl) ?_
          refine j_iret C ⟨rfl, _, rfl, ?_⟩ dX11_leans_48
          obtain ⟨hin1, hcl1⟩ := inz ej1 hj1 (by omega)
          exact ⟨rfl, by rw [if_pos hin1]; first | exact hb | (rw [hcl1]; exact hb)⟩
        · have n_2_ := Int32.not_lt.mp c_2_
          have hlt : v ≤ 9 := Nat.le_of_not_lt (fun q => c_2_ (nI_lt (a := 9) q (by omega)))
          refine j_aload_n C dX11_leans_23 rfl (lv_at hl 0 rfl) ?_
          refine j_bipush (v := (-9)) C dX11_leans_24 (by decide) ?_
          refine j_iconst (v := 0) C dX11_leans_26 (by decide) ?_
          refine j_iload_n C dX11_leans_27 rfl (lv_at hl 1 rfl) ?_
          refine j_iload_n C dX11_leans_28 rfl (lv_at hl 3 rfl) ?_
          refine j_callV (k := 55) C [.int ((-9)), .int (0), .int (z0), .int (nI v)] [] (k_X11_allSoWith l ad tk nt V ng rr c_0_ hX ((-9)) (0) (z0) (nI v)) v_RX11_215 (xl (by decide)) (rfl) rfl ⟨rfl, rfl, Nat.le_of_ble_eq_true rfl, Nat.le_of_ble_eq_true rfl⟩ rfl hl.1 rfl (Nat.le_of_ble_eq_true rfl) ⟨Nat.le_of_ble_eq_true rfl, Nat.le_of_ble_eq_true rfl⟩ dX11_leans_29 (kI fun x_3_ U3 h_3_ => ?_)
          obtain ⟨eU3, h_3_⟩ := h_3_
          have eU3 := eU3.symm
          subst eU3
          refine j_if_eq (tgt := 41) C dX11_leans_32 (by decide) (fun c_4_ => ?_) (fun c_4_ => ?_)
          · skip
            refine j_iinc (v := nI (v + 1)) (lv2 := [(3, .int (nI (v + 1))), (0, .ref (ad (55))), (1, .int (z0)), (2, .int (b))]) C dX11_leans_41 hl (k0 := 3) rfl (nI_1 _) (by decide) rfl (fun ls hl => ?_)
            refine j_goto (tgt := 17) C dX11_leans_44 (by decide) ?_
            exact ih_loop (v + 1) (b) (by omega) (by omega) (by rw [setP_n (fun q => absurd (h_3_ ▸ c_4_) (by rw [soD_t q.2]; decide))]; exact hb) (by omega) ls (lv_sub hl [1, 2, 3, 0] rfl)
          · skip
            refine j_iload_n C dX11_leans_35 rfl (lv_at hl 2 rfl) ?_
            refine j_iconst (v := 1) C dX11_leans_36 (by decide) ?_
            refine j_iload_n C dX11_leans_37 rfl (lv_at hl 3 rfl) ?_
            refine j_ishl C dX11_leans_38 ?_
            refine j_ior C dX11_leans_39 ?_
            refine j_istore_n (lv2 := [(2, .int (b ||| (1 <<< ((nI v) &&& 31)))), (0, .ref (ad (55))), (1, .int (z0)), (3, .int (nI v))]) C dX11_leans_40 rfl hl (by decide) rfl (fun ls hl => ?_)
            refine j_iinc (v := nI (v + 1)) (lv2 := [(3, .int (nI (v + 1))), (2, .int (b ||| (1 <<< ((nI v) &&& 31)))), (0, .ref (ad (55))), (1, .int (z0))]) C dX11_leans_41 hl (k0 := 3) rfl (nI_1 _) (by decide) rfl (fun ls hl => ?_)
            refine j_goto (tgt := 17) C dX11_leans_44 (by decide) ?_
            exact ih_loop (v + 1) (b ||| (1 <<< ((nI v) &&& 31))) (by omega) (by omega) (by rw [setP_y ⟨by omega, Classical.byContradiction (fun q => c_4_ (by rw [h_3_, soD_f q]))⟩, ← hb]) (by omega) ls (lv_sub hl [2, 3, 1, 0] rfl)
    exact loop 12 0 0 (by omega) (by omega) (by first | rfl | (rw [setP_n (by omega)]; rfl)) (by omega) ls (lv_sub hl [2, 3, 1, 0] rfl)
  · subst ev1
    refine j_ifnonnullN C dX11_leans_8 ?_
    refine j_iconst (v := (-1)) C dX11_leans_11 (by decide) ?_
    refine j_iret C ⟨rfl, _, rfl, ?_⟩ dX11_leans_12
    have hot1 := outR ho1
    exact ⟨rfl, by rw [if_neg hot1]⟩
abbrev rm_X11_arms : Room := { frames := 3, cells := 0, slots := 0, locals := 74 }
set_option maxHeartbeats 4000000 in
set_option maxRecDepth 100000 in
theorem k_X11_arms (l : Launch) (ad tk : Nat → Nat) (nt : Nat) (V : Vt) (ng : Nat) (rr : Nat → Nat) (c_0_ : Nat) (hX : XI tk nt V ng rr c_0_) (z0 : Int32) : Ct l yX11_arms cX11_arms 5 (some .int) rm_X11_arms (xS ad tk nt) V [.ref (ad (55)), .int (z0)] (rI fun x V2 => V2 = V ∧ x = if ¬ z0 < 0 ∧ z0 < nI nt then setP (fun v => 1 ≤ v ∧ soA tk V z0 (rch (kdI (tk z0.toNatClampNeg)) (nI v)) (-9) 0 c_0_) 10 else -1) := by
  refine Ct_of (by decide) (Nat.le_of_ble_eq_true rfl) ?_
  intro p e s m below meth c A D cy ls C hl
  have hl : lv_has ls 5 [(0, .ref (ad (55))), (1, .int (z0))] := hl
  have ng4 := hX.1.2.1
  have nt5 := hX.2.2.1
  refine j_aload_n C dX11_arms_0 rfl (lv_at hl 0 rfl) ?_
  refine j_iload_n C dX11_arms_1 rfl (lv_at hl 1 rfl) ?_
  refine j_callV (k := 55) C [.int (z0)] [] (k_X11_throwerOf l ad tk nt V hX.2.1 hX.2.2.1 (z0)) v_RX11_124 (xl (by decide)) (rfl) rfl ⟨rfl, rfl, Nat.le_of_ble_eq_true rfl, Nat.le_of_ble_eq_true rfl⟩ rfl hl.1 rfl (Nat.le_of_ble_eq_true rfl) ⟨Nat.le_of_ble_eq_true rfl, Nat.le_of_ble_eq_true rfl⟩ dX11_arms_2 (kA fun x_1_ U1 h_1_ => ?_)
  obtain ⟨eU1, h_1_⟩ := h_1_
  have eU1 := eU1.symm
  subst eU1
  rcases h_1_ with ⟨j_1_, hj1, ej1, ev1⟩ | ⟨ho1, ev1⟩
  · subst ev1
    refine j_astore_n (lv2 := [(2, .ref (ad (56 + j_1_))), (0, .ref (ad (55))), (1, .int (z0))]) C dX11_arms_5 rfl hl (by decide) rfl (fun ls hl => ?_)
    refine j_aload_n C dX11_arms_6 rfl (lv_at hl 0 rfl) ?_
    refine j_ifnonnull (tgt := 12) C dX11_arms_7 (by decide) ?_
    refine j_iconst (v := 0) C dX11_arms_12 (by decide) ?_
    refine j_istore_n (lv2 := [(3, .int (0)), (2, .ref (ad (56 + j_1_))), (0, .ref (ad (55))), (1, .int (z0))]) C dX11_arms_13 rfl hl (by decide) rfl (fun ls hl => ?_)
    refine j_iconst (v := 1) C dX11_arms_14 (by decide) ?_
    refine j_istore (lv2 := [(4, .int (1)), (3, .int (0)), (2, .ref (ad (56 + j_1_))), (0, .ref (ad (55))), (1, .int (z0))]) C dX11_arms_15 hl (by decide) rfl (fun ls hl => ?_)
    have loop : ∀ (n_9_ : Nat) (v : Nat) (b : Int32), 1 ≤ v → v ≤ 10 → b = setP (fun v => 1 ≤ v ∧ soA tk V z0 (rch (kdI (tk j_1_)) (nI v)) (-9) 0 c_0_) v → 10 - v < n_9_ → ∀ (ls : Array Slot), lv_has ls 5 [(0, .ref (ad (55))), (1, .int (z0)), (2, .ref (ad (56 + j_1_))), (3, .int (b)), (4, .int (nI v))] → J p l e rm_X11_arms s m [.ref (ad (55)), .int (z0)].toArray below meth c A D cy 0 0 (MQ below (gPost D cy A (fun o9 σ2 V2 => σ2 = xS ad tk nt ∧ (rI fun x V2 => V2 = V ∧ x = if ¬ z0 < 0 ∧ z0 < nI nt then setP (fun v => 1 ≤ v ∧ soA tk V z0 (rch (kdI (tk z0.toNatClampNeg)) (nI v)) (-9) 0 c_0_) 10 else -1) o9 V2)) [.ref (ad (55)), .int (z0)].toArray s 0 0 A) (xS ad tk nt) V (F0 m 17 ls []) := by
      intro n_9_
      induction n_9_ with
      | zero =>
        intro v b hlo hi hb hm
        exact absurd hm (by omega)
      | succ n_9_ ih_loop =>
        intro v b hlo hi hb hm ls hl
        refine j_iload C dX11_arms_17 (lv_at hl 4 rfl) ?_
        refine j_bipush (v := 9) C dX11_arms_19 (by decide) ?_
        refine j_icmp_gt (tgt := 57) C dX11_arms_21 (by decide) (fun c_2_ => ?_) (fun c_2_ => ?_)
        · have n_2_ := Int32.not_le.mpr c_2_
          obtain rfl : v = 10 := by have q := (nI_ltI (a := 9) (by decide) (by omega)).mp c_2_; omega
          refine j_iload_n C dX11_arms_57 rfl (lv_at hl 3 rfl) ?_
          refine j_iret C ⟨rfl, _, rfl, ?_⟩ dX11_arms_58
          obtain ⟨hin1, hcl1⟩ := inz ej1 hj1 (by omega)
          exact ⟨rfl, by rw [if_pos hin1]; first | exact hb | (rw [hcl1]; exact hb)⟩
        · have n_2_ := Int32.not_lt.mp c_2_
          have hlt : v ≤ 9 := Nat.le_of_not_lt (fun q => c_2_ (nI_lt (a := 9) q (by omega)))
          refine j_aload_n C dX11_arms_24 rfl (lv_at hl 0 rfl) ?_
          refine j_iload_n C dX11_arms_25 rfl (lv_at hl 1 rfl) ?_
          refine j_aload_n C dX11_arms_26 rfl (lv_at hl 2 rfl) ?_
          rcases (show isT (xk tk (56 + j_1_)) from xT (XI_T hX hj1)) with t3 | t3 | t3
          · skip
            refine j_callV (k := 56 + j_1_) C [] [.int (z0), .ref (ad (55))] (k_X6_kind l (xS ad tk nt) V (ad (56 + j_1_))) v_RX11_128 (xt hj1) t3 rfl ⟨rfl, rfl, Nat.le_of_ble_eq_true rfl, Nat.le_of_ble_eq_true rfl⟩ rfl hl.1 rfl (Nat.le_of_ble_eq_true rfl) ⟨Nat.le_of_ble_eq_true rfl, Nat.le_of_ble_eq_true rfl⟩ dX11_arms_27 (kI fun x_4_ U4 h_4_ => ?_)
            obtain ⟨eU4, h_4_⟩ := h_4_
            have eU4 := eU4.symm
            subst eU4
            refine j_iload C dX11_arms_30 (lv_at hl 4 rfl) ?_
            refine j_callS C [.int (x_4_), .int (nI v)] [.int (z0), .ref (ad (55))] (k_X11_reachOf l (xS ad tk nt) V (x_4_) (nI v)) v_RX11_219 ⟨rfl, rfl, Nat.le_of_ble_eq_true rfl, Nat.le_of_ble_eq_true rfl⟩ rfl hl.1 rfl (Nat.le_of_ble_eq_true rfl) ⟨Nat.le_of_ble_eq_true rfl, Nat.le_of_ble_eq_true rfl⟩ dX11_arms_32 (kI fun x_5_ U5 h_5_ => ?_)
            obtain ⟨eU5, h_5_⟩ := h_5_
            have eU5 := eU5.symm
            subst eU5
            have ek5 : rch (kdI (tk j_1_)) (nI v) = x_5_ := by have e9 := t3; rw [xk_t] at e9; rw [h_5_, h_4_, e9]; rfl
            refine j_bipush (v := (-9)) C dX11_arms_35 (by decide) ?_
            refine j_iconst (v := 0) C dX11_arms_37 (by decide) ?_
            refine j_callV (k := 55) C [.int (z0), .int (x_5_), .int ((-9)), .int (0)] [] (k_X11_allSoWith l ad tk nt V ng rr c_0_ hX (z0) (x_5_) ((-9)) (0)) v_RX11_215 (xl (by decide)) (rfl) rfl ⟨rfl, rfl, Nat.le_of_ble_eq_true rfl, Nat.le_of_ble_eq_true rfl⟩ rfl hl.1 rfl (Nat.le_of_ble_eq_true rfl) ⟨Nat.le_of_ble_eq_true rfl, Nat.le_of_ble_eq_true rfl⟩ dX11_arms_38 (kI fun x_6_ U6 h_6_ => ?_)
            obtain ⟨eU6, h_6_⟩ := h_6_
            have eU6 := eU6.symm
            subst eU6
            rw [← ek5] at h_6_
            refine j_if_eq (tgt := 51) C dX11_arms_41 (by decide) (fun c_7_ => ?_) (fun c_7_ => ?_)
            · skip
              refine j_iinc (v := nI (v + 1)) (lv2 := [(4, .int (nI (v + 1))), (0, .ref (ad (55))), (1, .int (z0)), (2, .ref (ad (56 + j_1_))), (3, .int (b))]) C dX11_arms_51 hl (k0 := 4) rfl (nI_1 _) (by decide) rfl (fun ls hl => ?_)
              refine j_goto (tgt := 17) C dX11_arms_54 (by decide) ?_
              exact ih_loop (v + 1) (b) (by omega) (by omega) (by rw [setP_n (fun q => absurd (h_6_ ▸ c_7_) (by rw [soD_t q.2]; decide))]; exact hb) (by omega) ls (lv_sub hl [1, 2, 3, 4, 0] rfl)
            · skip
              refine j_iload_n C dX11_arms_44 rfl (lv_at hl 3 rfl) ?_
              refine j_iconst (v := 1) C dX11_arms_45 (by decide) ?_
              refine j_iload C dX11_arms_46 (lv_at hl 4 rfl) ?_
              refine j_ishl C dX11_arms_48 ?_
              refine j_ior C dX11_arms_49 ?_
              refine j_istore_n (lv2 := [(3, .int (b ||| (1 <<< ((nI v) &&& 31)))), (0, .ref (ad (55))), (1, .int (z0)), (2, .ref (ad (56 + j_1_))), (4, .int (nI v))]) C dX11_arms_50 rfl hl (by decide) rfl (fun ls hl => ?_)
              refine j_iinc (v := nI (v + 1)) (lv2 := [(4, .int (nI (v + 1))), (3, .int (b ||| (1 <<< ((nI v) &&& 31)))), (0, .ref (ad (55))), (1, .int (z0)), (2, .ref (ad (56 + j_1_)))]) C dX11_arms_51 hl (k0 := 4) rfl (nI_1 _) (by decide) rfl (fun ls hl => ?_)
              refine j_goto (tgt := 17) C dX11_arms_54 (by decide) ?_
              exact ih_loop (v + 1) (b ||| (1 <<< ((nI v) &&& 31))) (by omega) (by omega) (by rw [setP_y ⟨by omega, Classical.byContradiction (fun q => c_7_ (by rw [h_6_, soD_f q]))⟩, ← hb]) (by omega) ls (lv_sub hl [2, 3, 4, 1, 0] rfl)
          · skip
            refine j_callO (k := 56 + j_1_) C [] [.int (z0), .ref (ad (55))] (k_X3_kind l (xS ad tk nt) V (ad (56 + j_1_))) o_RX11_128_3 (xt hj1) t3 rfl ⟨rfl, rfl, Nat.le_of_ble_eq_true rfl, Nat.le_of_ble_eq_true rfl⟩ rfl hl.1 rfl (Nat.le_of_ble_eq_true rfl) ⟨Nat.le_of_ble_eq_true rfl, Nat.le_of_ble_eq_true rfl⟩ dX11_arms_27 (kI fun x_8_ U8 h_8_ => ?_)
            obtain ⟨eU8, h_8_⟩ := h_8_
            have eU8 := eU8.symm
            subst eU8
            refine j_iload C dX11_arms_30 (lv_at hl 4 rfl) ?_
            refine j_callS C [.int (x_8_), .int (nI v)] [.int (z0), .ref (ad (55))] (k_X11_reachOf l (xS ad tk nt) V (x_8_) (nI v)) v_RX11_219 ⟨rfl, rfl, Nat.le_of_ble_eq_true rfl, Nat.le_of_ble_eq_true rfl⟩ rfl hl.1 rfl (Nat.le_of_ble_eq_true rfl) ⟨Nat.le_of_ble_eq_true rfl, Nat.le_of_ble_eq_true rfl⟩ dX11_arms_32 (kI fun x_9_ U9 h_9_ => ?_)
            obtain ⟨eU9, h_9_⟩ := h_9_
            have eU9 := eU9.symm
            subst eU9
            have ek9 : rch (kdI (tk j_1_)) (nI v) = x_9_ := by have e9 := t3; rw [xk_t] at e9; rw [h_9_, h_8_, e9]; rfl
            refine j_bipush (v := (-9)) C dX11_arms_35 (by decide) ?_
            refine j_iconst (v := 0) C dX11_arms_37 (by decide) ?_
            refine j_callV (k := 55) C [.int (z0), .int (x_9_), .int ((-9)), .int (0)] [] (k_X11_allSoWith l ad tk nt V ng rr c_0_ hX (z0) (x_9_) ((-9)) (0)) v_RX11_215 (xl (by decide)) (rfl) rfl ⟨rfl, rfl, Nat.le_of_ble_eq_true rfl, Nat.le_of_ble_eq_true rfl⟩ rfl hl.1 rfl (Nat.le_of_ble_eq_true rfl) ⟨Nat.le_of_ble_eq_true rfl, Nat.le_of_ble_eq_true rfl⟩ dX11_arms_38 (kI fun x_10_ U10 h_10_ => ?_)
            obtain ⟨eU10, h_10_⟩ := h_10_
            have eU10 := eU10.symm
            subst eU10
            rw [← ek9] at h_10_
            refine j_if_eq (tgt := 51) C dX11_arms_41 (by decide) (fun c_11_ => ?_) (fun c_11_ => ?_)
            · skip
              refine j_iinc (v := nI (v + 1)) (lv2 := [(4, .int (nI (v + 1))), (0, .ref (ad (55))), (1, .int (z0)), (2, .ref (ad (56 + j_1_))), (3, .int (b))]) C dX11_arms_51 hl (k0 := 4) rfl (nI_1 _) (by decide) rfl (fun ls hl => ?_)
              refine j_goto (tgt := 17) C dX11_arms_54 (by decide) ?_
              exact ih_loop (v + 1) (b) (by omega) (by omega) (by rw [setP_n (fun q => absurd (h_10_ ▸ c_11_) (by rw [soD_t q.2]; decide))]; exact hb) (by omega) ls (lv_sub hl [1, 2, 3, 4, 0] rfl)
            · skip
              refine j_iload_n C dX11_arms_44 rfl (lv_at hl 3 rfl) ?_
              refine j_iconst (v := 1) C dX11_arms_45 (by decide) ?_
              refine j_iload C dX11_arms_46 (lv_at hl 4 rfl) ?_
              refine j_ishl C dX11_arms_48 ?_
              refine j_ior C dX11_arms_49 ?_
              refine j_istore_n (lv2 := [(3, .int (b ||| (1 <<< ((nI v) &&& 31)))), (0, .ref (ad (55))), (1, .int (z0)), (2, .ref (ad (56 + j_1_))), (4, .int (nI v))]) C dX11_arms_50 rfl hl (by decide) rfl (fun ls hl => ?_)
              refine j_iinc (v := nI (v + 1)) (lv2 := [(4, .int (nI (v + 1))), (3, .int (b ||| (1 <<< ((nI v) &&& 31)))), (0, .ref (ad (55))), (1, .int (z0)), (2, .ref (ad (56 + j_1_)))]) C dX11_arms_51 hl (k0 := 4) rfl (nI_1 _) (by decide) rfl (fun ls hl => ?_)
              refine j_goto (tgt := 17) C dX11_arms_54 (by decide) ?_
              exact ih_loop (v + 1) (b ||| (1 <<< ((nI v) &&& 31))) (by omega) (by omega) (by rw [setP_y ⟨by omega, Classical.byContradiction (fun q => c_11_ (by rw [h_10_, soD_f q]))⟩, ← hb]) (by omega) ls (lv_sub hl [2, 3, 4, 1, 0] rfl)
          · skip
            refine j_callO (k := 56 + j_1_) C [] [.int (z0), .ref (ad (55))] (k_X8_kind l (xS ad tk nt) V (ad (56 + j_1_))) o_RX11_128_8 (xt hj1) t3 rfl ⟨rfl, rfl, Nat.le_of_ble_eq_true rfl, Nat.le_of_ble_eq_true rfl⟩ rfl hl.1 rfl (Nat.le_of_ble_eq_true rfl) ⟨Nat.le_of_ble_eq_true rfl, Nat.le_of_ble_eq_true rfl⟩ dX11_arms_27 (kI fun x_12_ U12 h_12_ => ?_)
            obtain ⟨eU12, h_12_⟩ := h_12_
            have eU12 := eU12.symm
            subst eU12
            refine j_iload C dX11_arms_30 (lv_at hl 4 rfl) ?_
            refine j_callS C [.int (x_12_), .int (nI v)] [.int (z0), .ref (ad (55))] (k_X11_reachOf l (xS ad tk nt) V (x_12_) (nI v)) v_RX11_219 ⟨rfl, rfl, Nat.le_of_ble_eq_true rfl, Nat.le_of_ble_eq_true rfl⟩ rfl hl.1 rfl (Nat.le_of_ble_eq_true rfl) ⟨Nat.le_of_ble_eq_true rfl, Nat.le_of_ble_eq_true rfl⟩ dX11_arms_32 (kI fun x_13_ U13 h_13_ => ?_)
            obtain ⟨eU13, h_13_⟩ := h_13_
            have eU13 := eU13.symm
            subst eU13
            have ek13 : rch (kdI (tk j_1_)) (nI v) = x_13_ := by have e9 := t3; rw [xk_t] at e9; rw [h_13_, h_12_, e9]; rfl
            refine j_bipush (v := (-9)) C dX11_arms_35 (by decide) ?_
            refine j_iconst (v := 0) C dX11_arms_37 (by decide) ?_
            refine j_callV (k := 55) C [.int (z0), .int (x_13_), .int ((-9)), .int (0)] [] (k_X11_allSoWith l ad tk nt V ng rr c_0_ hX (z0) (x_13_) ((-9)) (0)) v_RX11_215 (xl (by decide)) (rfl) rfl ⟨rfl, rfl, Nat.le_of_ble_eq_true rfl, Nat.le_of_ble_eq_true rfl⟩ rfl hl.1 rfl (Nat.le_of_ble_eq_true rfl) ⟨Nat.le_of_ble_eq_true rfl, Nat.le_of_ble_eq_true rfl⟩ dX11_arms_38 (kI fun x_14_ U14 h_14_ => ?_)
            obtain ⟨eU14, h_14_⟩ := h_14_
            have eU14 := eU14.symm
            subst eU14
            rw [← ek13] at h_14_
            refine j_if_eq (tgt := 51) C dX11_arms_41 (by decide) (fun c_15_ => ?_) (fun c_15_ => ?_)
            · skip
              refine j_iinc (v := nI (v + 1)) (lv2 := [(4, .int (nI (v + 1))), (0, .ref (ad (55))), (1, .int (z0)), (2, .ref (ad (56 + j_1_))), (3, .int (b))]) C dX11_arms_51 hl (k0 := 4) rfl (nI_1 _) (by decide) rfl (fun ls hl => ?_)
              refine j_goto (tgt := 17) C dX11_arms_54 (by decide) ?_
              exact ih_loop (v + 1) (b) (by omega) (by omega) (by rw [setP_n (fun q => absurd (h_14_ ▸ c_15_) (by rw [soD_t q.2]; decide))]; exact hb) (by omega) ls (lv_sub hl [1, 2, 3, 4, 0] rfl)
            · skip
              refine j_iload_n C dX11_arms_44 rfl (lv_at hl 3 rfl) ?_
              refine j_iconst (v := 1) C dX11_arms_45 (by decide) ?_
              refine j_iload C dX11_arms_46 (lv_at hl 4 rfl) ?_
              refine j_ishl C dX11_arms_48 ?_
              refine j_ior C dX11_arms_49 ?_
              refine j_istore_n (lv2 := [(3, .int (b ||| (1 <<< ((nI v) &&& 31)))), (0, .ref (ad (55))), (1, .int (z0)), (2, .ref (ad (56 + j_1_))), (4, .int (nI v))]) C dX11_arms_50 rfl hl (by decide) rfl (fun ls hl => ?_)
              refine j_iinc (v := nI (v + 1)) (lv2 := [(4, .int (nI (v + 1))), (3, .int (b ||| (1 <<< ((nI v) &&& 31)))), (0, .ref (ad (55))), (1, .int (z0)), (2, .ref (ad (56 + j_1_)))]) C dX11_arms_51 hl (k0 := 4) rfl (nI_1 _) (by decide) rfl (fun ls hl => ?_)
              refine j_goto (tgt := 17) C dX11_arms_54 (by decide) ?_
              exact ih_loop (v + 1) (b ||| (1 <<< ((nI v) &&& 31))) (by omega) (by omega) (by rw [setP_y ⟨by omega, Classical.byContradiction (fun q => c_15_ (by rw [h_14_, soD_f q]))⟩, ← hb]) (by omega) ls (lv_sub hl [2, 3, 4, 1, 0] rfl)
    exact loop 12 1 0 (by omega) (by omega) (by first | rfl | (rw [setP_n (by omega)]; rfl)) (by omega) ls (lv_sub hl [3, 4, 2, 1, 0] rfl)
  · subst ev1
    refine j_astore_nN (lv2 := [(2, .null), (0, .ref (ad (55))), (1, .int (z0))]) C dX11_arms_5 rfl hl (by decide) rfl (fun ls hl => ?_)
    refine j_aload_nN C dX11_arms_6 rfl (lv_at hl 0 rfl) ?_
    refine j_ifnonnullN C dX11_arms_7 ?_
    refine j_iconst (v := (-1)) C dX11_arms_10 (by decide) ?_
    refine j_iret C ⟨rfl, _, rfl, ?_⟩ dX11_arms_11
    have hot1 := outR ho1
    exact ⟨rfl, by rw [if_neg hot1]⟩
abbrev rm_X11_kinds : Room := { frames := 3, cells := 0, slots := 0, locals := 74 }
set_option maxHeartbeats 4000000 in
set_option maxRecDepth 100000 in
theorem k_X11_kinds (l : Launch) (ad tk : Nat → Nat) (nt : Nat) (V : Vt) (ng : Nat) (rr : Nat → Nat) (c_0_ : Nat) (hX : XI tk nt V ng rr c_0_) (z0 : Int32) : Ct l yX11_kinds cX11_kinds 5 (some .int) rm_X11_kinds (xS ad tk nt) V [.ref (ad (55)), .int (z0)] (rI fun x V2 => V2 = V ∧ x = if ¬ z0 < 0 ∧ z0 < nI nt then setP (fun v => 0 ≤ v ∧ soA tk V z0 (rch (nI v) (V (56 + z0.toNatClampNeg) 1)) (-9) 0 c_0_) 3 else -1) := by
  refine Ct_of (by decide) (Nat.le_of_ble_eq_true rfl) ?_
  intro p e s m below meth c A D cy ls C hl
  have hl : lv_has ls 5 [(0, .ref (ad (55))), (1, .int (z0))] := hl
  have ng4 := hX.1.2.1
  have nt5 := hX.2.2.1
  refine j_aload_n C dX11_kinds_0 rfl (lv_at hl 0 rfl) ?_
  refine j_iload_n C dX11_kinds_1 rfl (lv_at hl 1 rfl) ?_
  refine j_callV (k := 55) C [.int (z0)] [] (k_X11_throwerOf l ad tk nt V hX.2.1 hX.2.2.1 (z0)) v_RX11_124 (xl (by decide)) (rfl) rfl ⟨rfl, rfl, Nat.le_of_ble_eq_true rfl, Nat.le_of_ble_eq_true rfl⟩ rfl hl.1 rfl (Nat.le_of_ble_eq_true rfl) ⟨Nat.le_of_ble_eq_true rfl, Nat.le_of_ble_eq_true rfl⟩ dX11_kinds_2 (kA fun x_1_ U1 h_1_ => ?_)
  obtain ⟨eU1, h_1_⟩ := h_1_
  have eU1 := eU1.symm
  subst eU1
  rcases h_1_ with ⟨j_1_, hj1, ej1, ev1⟩ | ⟨ho1, ev1⟩
  · subst ev1
    refine j_astore_n (lv2 := [(2, .ref (ad (56 + j_1_))), (0, .ref (ad (55))), (1, .int (z0))]) C dX11_kinds_5 rfl hl (by decide) rfl (fun ls hl => ?_)
    refine j_aload_n C dX11_kinds_6 rfl (lv_at hl 0 rfl) ?_
    refine j_ifnonnull (tgt := 12) C dX11_kinds_7 (by decide) ?_
    refine j_iconst (v := 0) C dX11_kinds_12 (by decide) ?_
    refine j_istore_n (lv2 := [(3, .int (0)), (2, .ref (ad (56 + j_1_))), (0, .ref (ad (55))), (1, .int (z0))]) C dX11_kinds_13 rfl hl (by decide) rfl (fun ls hl => ?_)
    refine j_iconst (v := 0) C dX11_kinds_14 (by decide) ?_
    refine j_istore (lv2 := [(4, .int (0)), (3, .int (0)), (2, .ref (ad (56 + j_1_))), (0, .ref (ad (55))), (1, .int (z0))]) C dX11_kinds_15 hl (by decide) rfl (fun ls hl => ?_)
    have loop : ∀ (n_9_ : Nat) (v : Nat) (b : Int32), 0 ≤ v → v ≤ 3 → b = setP (fun v => 0 ≤ v ∧ soA tk V z0 (rch (nI v) (V (56 + j_1_) 1)) (-9) 0 c_0_) v → 3 - v < n_9_ → ∀ (ls : Array Slot), lv_has ls 5 [(0, .ref (ad (55))), (1, .int (z0)), (2, .ref (ad (56 + j_1_))), (3, .int (b)), (4, .int (nI v))] → J p l e rm_X11_kinds s m [.ref (ad (55)), .int (z0)].toArray below meth c A D cy 0 0 (MQ below (gPost D cy A (fun o9 σ2 V2 => σ2 = xS ad tk nt ∧ (rI fun x V2 => V2 = V ∧ x = if ¬ z0 < 0 ∧ z0 < nI nt then setP (fun v => 0 ≤ v ∧ soA tk V z0 (rch (nI v) (V (56 + z0.toNatClampNeg) 1)) (-9) 0 c_0_) 3 else -1) o9 V2)) [.ref (ad (55)), .int (z0)].toArray s 0 0 A) (xS ad tk nt) V (F0 m 17 ls []) := by
      intro n_9_
      induction n_9_ with
      | zero =>
        intro v b hlo hi hb hm
        exact absurd hm (by omega)
      | succ n_9_ ih_loop =>
        intro v b hlo hi hb hm ls hl
        refine j_iload C dX11_kinds_17 (lv_at hl 4 rfl) ?_
        refine j_iconst (v := 2) C dX11_kinds_19 (by decide) ?_
        refine j_icmp_gt (tgt := 56) C dX11_kinds_20 (by decide) (fun c_2_ => ?_) (fun c_2_ => ?_)
        · have n_2_ := Int32.not_le.mpr c_2_
          obtain rfl : v = 3 := by have q := (nI_ltI (a := 2) (by decide) (by omega)).mp c_2_; omega
          refine j_iload_n C dX11_kinds_56 rfl (lv_at hl 3 rfl) ?_
          refine j_iret C ⟨rfl, _, rfl, ?_⟩ dX11_kinds_57
          obtain ⟨hin1, hcl1⟩ := inz ej1 hj1 (by omega)
          exact ⟨rfl, by rw [if_pos hin1]; first | exact hb | (rw [hcl1]; exact hb)⟩
        · have n_2_ := Int32.not_lt.mp c_2_
          have hlt : v ≤ 2 := Nat.le_of_not_lt (fun q => c_2_ (nI_lt (a := 2) q (by omega)))
          refine j_aload_n C dX11_kinds_23 rfl (lv_at hl 0 rfl) ?_
          refine j_iload_n C dX11_kinds_24 rfl (lv_at hl 1 rfl) ?_
          refine j_iload C dX11_kinds_25 (lv_at hl 4 rfl) ?_
          refine j_aload_n C dX11_kinds_27 rfl (lv_at hl 2 rfl) ?_
          refine j_getT (k := 56 + j_1_) C f_RX11_131_6 f_RX11_131_3 f_RX11_131_8 (xt hj1) (xT (XI_T hX hj1)) dX11_kinds_28 ?_
          refine j_callS C [.int (nI v), .int (V (56 + j_1_) 1)] [.int (z0), .ref (ad (55))] (k_X11_reachOf l (xS ad tk nt) V (nI v) (V (56 + j_1_) 1)) v_RX11_219 ⟨rfl, rfl, Nat.le_of_ble_eq_true rfl, Nat.le_of_ble_eq_true rfl⟩ rfl hl.1 rfl (Nat.le_of_ble_eq_true rfl) ⟨Nat.le_of_ble_eq_true rfl, Nat.le_of_ble_eq_true rfl⟩ dX11_kinds_31 (kI fun x_3_ U3 h_3_ => ?_)
          obtain ⟨eU3, h_3_⟩ := h_3_
          have eU3 := eU3.symm
          subst eU3
          refine j_bipush (v := (-9)) C dX11_kinds_34 (by decide) ?_
          refine j_iconst (v := 0) C dX11_kinds_36 (by decide) ?_
          refine j_callV (k := 55) C [.int (z0), .int (x_3_), .int ((-9)), .int (0)] [] (k_X11_allSoWith l ad tk nt V ng rr c_0_ hX (z0) (x_3_) ((-9)) (0)) v_RX11_215 (xl (by decide)) (rfl) rfl ⟨rfl, rfl, Nat.le_of_ble_eq_true rfl, Nat.le_of_ble_eq_true rfl⟩ rfl hl.1 rfl (Nat.le_of_ble_eq_true rfl) ⟨Nat.le_of_ble_eq_true rfl, Nat.le_of_ble_eq_true rfl⟩ dX11_kinds_37 (kI fun x_4_ U4 h_4_ => ?_)
          obtain ⟨eU4, h_4_⟩ := h_4_
          have eU4 := eU4.symm
          subst eU4
          rw [h_3_] at h_4_
          refine j_if_eq (tgt := 50) C dX11_kinds_40 (by decide) (fun c_5_ => ?_) (fun c_5_ => ?_)
          · skip
            refine j_iinc (v := nI (v + 1)) (lv2 := [(4, .int (nI (v + 1))), (0, .ref (ad (55))), (1, .int (z0)), (2, .ref (ad (56 + j_1_))), (3, .int (b))]) C dX11_kinds_50 hl (k0 := 4) rfl (nI_1 _) (by decide) rfl (fun ls hl => ?_)
            refine j_goto (tgt := 17) C dX11_kinds_53 (by decide) ?_
            exact ih_loop (v + 1) (b) (by omega) (by omega) (by rw [setP_n (fun q => absurd (h_4_ ▸ c_5_) (by rw [soD_t q.2]; decide))]; exact hb) (by omega) ls (lv_sub hl [1, 2, 3, 4, 0] rfl)
          · skip
            refine j_iload_n C dX11_kinds_43 rfl (lv_at hl 3 rfl) ?_
            refine j_iconst (v := 1) C dX11_kinds_44 (by decide) ?_
            refine j_iload C dX11_kinds_45 (lv_at hl 4 rfl) ?_
            refine j_ishl C dX11_kinds_47 ?_
            refine j_ior C dX11_kinds_48 ?_
            refine j_istore_n (lv2 := [(3, .int (b ||| (1 <<< ((nI v) &&& 31)))), (0, .ref (ad (55))), (1, .int (z0)), (2, .ref (ad (56 + j_1_))), (4, .int (nI v))]) C dX11_kinds_49 rfl hl (by decide) rfl (fun ls hl => ?_)
            refine j_iinc (v := nI (v + 1)) (lv2 := [(4, .int (nI (v + 1))), (3, .int (b ||| (1 <<< ((nI v) &&& 31)))), (0, .ref (ad (55))), (1, .int (z0)), (2, .ref (ad (56 + j_1_)))]) C dX11_kinds_50 hl (k0 := 4) rfl (nI_1 _) (by decide) rfl (fun ls hl => ?_)
            refine j_goto (tgt := 17) C dX11_kinds_53 (by decide) ?_
            exact ih_loop (v + 1) (b ||| (1 <<< ((nI v) &&& 31))) (by omega) (by omega) (by rw [setP_y ⟨by omega, Classical.byContradiction (fun q => c_5_ (by rw [h_4_, soD_f q]))⟩, ← hb]) (by omega) ls (lv_sub hl [2, 3, 4, 1, 0] rfl)
    exact loop 5 0 0 (by omega) (by omega) (by first | rfl | (rw [setP_n (by omega)]; rfl)) (by omega) ls (lv_sub hl [3, 4, 2, 1, 0] rfl)
  · subst ev1
    refine j_astore_nN (lv2 := [(2, .null), (0, .ref (ad (55))), (1, .int (z0))]) C dX11_kinds_5 rfl hl (by decide) rfl (fun ls hl => ?_)
    refine j_aload_nN C dX11_kinds_6 rfl (lv_at hl 0 rfl) ?_
    refine j_ifnonnullN C dX11_kinds_7 ?_
    refine j_iconst (v := (-1)) C dX11_kinds_10 (by decide) ?_
    refine j_iret C ⟨rfl, _, rfl, ?_⟩ dX11_kinds_11
    have hot1 := outR ho1
    exact ⟨rfl, by rw [if_neg hot1]⟩
