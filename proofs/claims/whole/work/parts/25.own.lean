/-- where she should stand so that two reaches are even: the first v of the yards 1 .. -/
def evI (ra rb le fr ya : Int32) : Nat → Int32
  | 0 => -9
  | v + 1 => if near ra (nI (v + 1)) le fr = near rb (nI (v + 1)) le fr ∧ (evI ra rb le fr ya v = -9 ∨ aprt (nI (v + 1)) ya < aprt (evI ra rb le fr ya v) ya) then nI (v + 1) else evI ra rb le fr ya v
abbrev rm_X11_even : Room := { frames := 2, cells := 0, slots := 0, locals := 45 }
set_option maxHeartbeats 4000000 in
set_option maxRecDepth 100000 in
theorem k_X11_even (l : Launch) (ad tk : Nat → Nat) (nt : Nat) (V : Vt) (ng : Nat) (rr : Nat → Nat) (c_0_ : Nat) (hX : XI tk nt V ng rr c_0_) (z0 z1 z2 : Int32) : Ct l yX11_even cX11_even 12 (some .int) rm_X11_even (xS ad tk nt) V [.ref (ad (55)), .int (z0), .int (z1), .int (z2)] (rI fun x V2 => V2 = V ∧ x = if ¬ z0 < 0 ∧ z0 < nI nt then (if ¬ z1 < 0 ∧ z1 < nI nt then (if z0 = z1 then -1 else (if ¬ z2 < 0 ∧ z2 < nI ng then evI (rch (kdI (tk z0.toNatClampNeg)) (V (56 + z0.toNatClampNeg) 1)) (rch (kdI (tk z1.toNatClampNeg)) (V (56 + z1.toNatClampNeg) 1)) (V (0 + 2 + 3 * z2.toNatClampNeg) 1) (V 0 0) (V (0 + 2 + 3 * z2.toNatClampNeg) 0) 9 else -1)) else -1) else -1) := by
  refine Ct_of (by decide) (Nat.le_of_ble_eq_true rfl) ?_
  intro p e s m below meth c A D cy ls C hl
  have hl : lv_has ls 12 [(0, .ref (ad (55))), (1, .int (z0)), (2, .int (z1)), (3, .int (z2))] := hl
  have ng4 := hX.1.2.1
  have nt5 := hX.2.2.1
  refine j_aload_n C dX11_even_0 rfl (lv_at hl 0 rfl) ?_
  refine j_iload_n C dX11_even_1 rfl (lv_at hl 1 rfl) ?_
  refine j_callV (k := 55) C [.int (z0)] [] (k_X11_throwerOf l ad tk nt V hX.2.1 hX.2.2.1 (z0)) v_RX11_124 (xl (by decide)) (rfl) rfl ⟨rfl, rfl, Nat.le_of_ble_eq_true rfl, Nat.le_of_ble_eq_true rfl⟩ rfl hl.1 rfl (Nat.le_of_ble_eq_true rfl) ⟨Nat.le_of_ble_eq_true rfl, Nat.le_of_ble_eq_true rfl⟩ dX11_even_2 (kA fun x_1_ U1 h_1_ => ?_)
  obtain ⟨eU1, h_1_⟩ := h_1_
  have eU1 := eU1.symm
  subst eU1
  rcases h_1_ with ⟨j_1_, hj1, ej1, ev1⟩ | ⟨ho1, ev1⟩
  · subst ev1
    refine j_astore (lv2 := [(4, .ref (ad (56 + j_1_))), (0, .ref (ad (55))), (1, .int (z0)), (2, .int (z1)), (3, .int (z2))]) C dX11_even_5 hl (by decide) rfl (fun ls hl => ?_)
    refine j_aload_n C dX11_even_7 rfl (lv_at hl 1 rfl) ?_
    refine j_iload_n C dX11_even_8 rfl (lv_at hl 3 rfl) ?_
    refine j_callV (k := 55) C [.int (z1)] [] (k_X11_throwerOf l ad tk nt V hX.2.1 hX.2.2.1 (z1)) v_RX11_124 (xl (by decide)) (rfl) rfl ⟨rfl, rfl, Nat.le_of_ble_eq_true rfl, Nat.le_of_ble_eq_true rfl⟩ rfl hl.1 rfl (Nat.le_of_ble_eq_true rfl) ⟨Nat.le_of_ble_eq_true rfl, Nat.le_of_ble_eq_true rfl⟩ dX11_even_9 (kA fun x_2_ U2 h_2_ => ?_)
    obtain ⟨eU2, h_2_⟩ := h_2_
    have eU2 := eU2.symm
    subst eU2
    rcases h_2_ with ⟨j_2_, hj2, ej2, ev2⟩ | ⟨ho2, ev2⟩
    · subst ev2
      refine j_astore (lv2 := [(5, .ref (ad (56 + j_2_))), (4, .ref (ad (56 + j_1_))), (0, .ref (ad (55))), (1, .int (z0)), (2, .int (z1)), (3, .int (z2))]) C dX11_even_12 hl (by decide) rfl (fun ls hl => ?_)
      refine j_aload_n C dX11_even_14 rfl (lv_at hl 2 rfl) ?_
      refine j_getR (k := 55) (k2 := 0) C (f_RX11_12_11) (xl (by decide)) (rfl) (rfl) dX11_even_15 ?_
      refine j_iload_n C dX11_even_18 rfl (lv_at hl 5 rfl) ?_
      refine j_callV (k := 0) C [.int (z2)] [] (k_X0_girlAt l ad tk nt V 0 (Or.inl rfl) ng hX.1.1 hX.1.2.1 (z2)) v_RX11_99 (xl (xC (tk := tk) (nt := nt) (k := 0) (Or.inl rfl)).1.1) ((xC (tk := tk) (nt := nt) (k := 0) (Or.inl rfl)).2.1) rfl ⟨rfl, rfl, Nat.le_of_ble_eq_true rfl, Nat.le_of_ble_eq_true rfl⟩ rfl hl.1 rfl (Nat.le_of_ble_eq_true rfl) ⟨Nat.le_of_ble_eq_true rfl, Nat.le_of_ble_eq_true rfl⟩ dX11_even_19 (kA fun x_3_ U3 h_3_ => ?_)
      obtain ⟨eU3, h_3_⟩ := h_3_
      have eU3 := eU3.symm
      subst eU3
      rcases h_3_ with ⟨j_3_, hj3, ej3, ev3⟩ | ⟨ho3, ev3⟩
      · subst ev3
        refine j_astore (lv2 := [(6, .ref (ad (0 + 2 + 3 * j_3_))), (5, .ref (ad (56 + j_2_))), (4, .ref (ad (56 + j_1_))), (0, .ref (ad (55))), (1, .int (z0)), (2, .int (z1)), (3, .int (z2))]) C dX11_even_22 hl (by decide) rfl (fun ls hl => ?_)
        refine j_aload C dX11_even_24 (lv_at hl 2 rfl) ?_
        refine j_ifnull C dX11_even_26 ?_
        refine j_aload C dX11_even_29 (lv_at hl 1 rfl) ?_
        refine j_ifnull C dX11_even_31 ?_
        refine j_iload_n C dX11_even_34 rfl (lv_at hl 4 rfl) ?_
        refine j_iload_n C dX11_even_35 rfl (lv_at hl 5 rfl) ?_
        refine j_icmp_eq (tgt := 44) C dX11_even_36 (by decide) (fun c_4_ => ?_) (fun c_4_ => ?_)
        · skip
          refine j_iconst (v := (-1)) C dX11_even_44 (by decide) ?_
          refine j_iret C ⟨rfl, _, rfl, ?_⟩ dX11_even_45
          obtain ⟨hin1⟩ := inz ej1 hj1 (by omega)
          obtain ⟨hin2⟩ := inz ej2 hj2 (by omega)
          obtain ⟨hin3⟩ := inz ej3 hj3 (by omega)
          refine ⟨?_, ?_⟩
          · first | (simp only [if_pos hin1, if_pos hin2, if_pos hin3, if_pos c_4_]; done) | (simp only [if_pos hin1, if_pos hin2, if_pos hin3, if_pos c_4_]; rfl)
          · first | (simp only [if_pos hin1, if_pos hin2, if_pos hin3, if_pos c_4_]; done) | (simp only [if_pos hin1, if_pos hin2, if_pos hin3, if_pos c_4_]; rfl)
        · skip
          have nq9 := c_4_
          refine j_aload C dX11_even_39 (lv_at hl 0 rfl) ?_
          refine j_ifnonnull (tgt := 46) C dX11_even_41 (by decide) ?_
          refine j_bipush (v := (-9)) C dX11_even_46 (by decide) ?_
          refine j_istore (lv2 := [(7, .int ((-9))), (6, .ref (ad (0 + 2 + 3 * j_3_))), (5, .ref (ad (56 + j_2_))), (4, .ref (ad (56 + j_1_))), (0, .ref (ad (55))), (1, .int (z0)), (2, .int (z1)), (3, .int (z2))]) C dX11_even_48 hl (by decide) rfl (fun ls hl => ?_)
          refine j_iconst (v := 1) C dX11_even_50 (by decide) ?_
          refine j_istore (lv2 := [(8, .int (1)), (7, .int ((-9))), (6, .ref (ad (0 + 2 + 3 * j_3_))), (5, .ref (ad (56 + j_2_))), (4, .ref (ad (56 + j_1_))), (0, .ref (ad (55))), (1, .int (z0)), (2, .int (z1)), (3, .int (z2))]) C dX11_even_51 hl (by decide) rfl (fun ls hl => ?_)
          have loop : ∀ (n_9_ : Nat) (v : Nat) (b : Int32), v ≤ 9 → b = evI (rch (kdI (tk j_1_)) (V (56 + j_1_) 1)) (rch (kdI (tk j_2_)) (V (56 + j_2_) 1)) (V (0 + 2 + 3 * j_3_) 1) (V 0 0) (V (0 + 2 + 3 * j_3_) 0) v → 9 - v < n_9_ → ∀ (ls : Array Slot), lv_has ls 12 [(0, .ref (ad (55))), (4, .ref (ad (56 + j_1_))), (5, .ref (ad (56 + j_2_))), (6, .ref (ad (0 + 2 + 3 * j_3_))), (7, .int (b)), (8, .int (nI (v + 1)))] → J p l e rm_X11_even s m [.ref (ad (55)), .int (z0), .int (z1), .int (z2)].toArray below meth c A D cy 0 0 (MQ below (gPost D cy A (fun o9 σ2 V2 => σ2 = xS ad tk nt ∧ (rI fun x V2 => V2 = V ∧ x = if ¬ z0 < 0 ∧ z0 < nI nt then (if ¬ z1 < 0 ∧ z1 < nI nt then (if z0 = z1 then -1 else (if ¬ z2 < 0 ∧ z2 < nI ng then evI (rch (kdI (tk z0.toNatClampNeg)) (V (56 + z0.toNatClampNeg) 1)) (rch (kdI (tk z1.toNatClampNeg)) (V (56 + z1.toNatClampNeg) 1)) (V (0 + 2 + 3 * z2.toNatClampNeg) 1) (V 0 0) (V (0 + 2 + 3 * z2.toNatClampNeg) 0) 9 else -1)) else -1) else -1) o9 V2)) [.ref (ad (55)), .int (z0), .int (z1), .int (z2)].toArray s 0 0 A) (xS ad tk nt) V (F0 m 53 ls []) := by
            intro n_9_
            induction n_9_ with
            | zero =>
              intro v b hi hb hm
              exact absurd hm (by omega)
            | succ n_9_ ih_loop =>
              intro v b hi hb hm ls hl
              refine j_iload C dX11_even_53 (lv_at hl 5 rfl) ?_
              refine j_bipush (v := 9) C dX11_even_55 (by decide) ?_
              refine j_icmp_gt (tgt := 167) C dX11_even_57 (by decide) (fun c_5_ => ?_) (fun c_5_ => ?_)
              · have n_5_ := Int32.not_le.mpr c_5_
                obtain rfl : v = 9 := by have q := (nI_ltI (a := 9) (by decide) (by omega)).mp c_5_; omega
                refine j_iload C dX11_even_167 (lv_at hl 4 rfl) ?_
                refine j_iret C ⟨rfl, _, rfl, ?_⟩ dX11_even_169
                obtain ⟨hin1, hcl1⟩ := inz ej1 hj1 (by omega)
                obtain ⟨hin2, hcl2⟩ := inz ej2 hj2 (by omega)
                obtain ⟨hin3, hcl3⟩ := inz ej3 hj3 (by omega)
                refine ⟨rfl, ?_⟩
                rw [if_pos hin1, if_pos hin2, if_neg nq9, if_pos hin3, hcl1, hcl2, hcl3]
                exact hb
              · have n_5_ := Int32.not_lt.mp c_5_
                have hlt : v < 9 := by have q : ¬ 9 < v + 1 := fun q => c_5_ (nI_lt (a := 9) q (by omega)); omega
                refine j_aload C dX11_even_60 (lv_at hl 1 rfl) ?_
                refine j_callT (k := 56 + j_1_) C [] [] (k_X6_reach l ad tk nt V j_1_ hj1 (XI_T hX hj1) ) v_RX11_134 o_RX11_134_3 o_RX11_134_8 rfl (xt hj1) (xT (XI_T hX hj1)) ⟨rfl, rfl, Nat.le_of_ble_eq_true rfl, Nat.le_of_ble_eq_true rfl⟩ rfl hl.1 rfl (Nat.le_of_ble_eq_true rfl) ⟨Nat.le_of_ble_eq_true rfl, Nat.le_of_ble_eq_true rfl⟩ dX11_even_62 (kI fun x_6_ U6 h_6_ => ?_)
                obtain ⟨eU6, h_6_⟩ := h_6_
                have eU6 := eU6.symm
                subst eU6
                refine j_iload C dX11_even_65 (lv_at hl 5 rfl) ?_
                refine j_aload C dX11_even_67 (lv_at hl 3 rfl) ?_
                refine j_getI (k := 0 + 2 + 3 * j_3_) C (f_RX11_108_2) (xl (xG (tk := tk) (nt := nt) (xCg (nt := nt) (Or.inl rfl) (by omega : j_3_ < 4)).1).1.1) ((xG (tk := tk) (nt := nt) (xCg (nt := nt) (Or.inl rfl) (by omega : j_3_ < 4)).1).2.1) dX11_even_69 ?_
                refine j_aload_n C dX11_even_72 rfl (lv_at hl 0 rfl) ?_
                refine j_getR (k := 55) (k2 := 0) C (f_RX11_12_11) (xl (by decide)) (rfl) (rfl) dX11_even_73 ?_
                refine j_getI (k := 0) C (f_RX11_147_0) (xl (xC (tk := tk) (nt := nt) (k := 0) (Or.inl rfl)).1.1) ((xC (tk := tk) (nt := nt) (k := 0) (Or.inl rfl)).2.1) dX11_even_76 ?_
                refine j_callS C [.int (x_6_), .int (nI (v + 1)), .int (V (0 + 2 + 3 * j_3_) 1), .int (V 0 0)] [] (k_X11_nearnessBy l (xS ad tk nt) V (x_6_) (nI (v + 1)) (V (0 + 2 + 3 * j_3_) 1) (V 0 0)) v_RX11_200 ⟨rfl, rfl, Nat.le_of_ble_eq_true rfl, Nat.le_of_ble_eq_true rfl⟩ rfl hl.1 rfl (Nat.le_of_ble_eq_true rfl) ⟨Nat.le_of_ble_eq_true rfl, Nat.le_of_ble_eq_true rfl⟩ dX11_even_79 (kI fun x_7_ U7 h_7_ => ?_)
                obtain ⟨eU7, h_7_⟩ := h_7_
                have eU7 := eU7.symm
                subst eU7
                refine j_istore (lv2 := [(9, .int (x_7_)), (0, .ref (ad (55))), (4, .ref (ad (56 + j_1_))), (5, .ref (ad (56 + j_2_))), (6, .ref (ad (0 + 2 + 3 * j_3_))), (7, .int (b)), (8, .int (nI (v + 1)))]) C dX11_even_82 hl (by decide) rfl (fun ls hl => ?_)
                refine j_aload C dX11_even_84 (lv_at hl 3 rfl) ?_
                refine j_callT (k := 56 + j_2_) C [] [] (k_X6_reach l ad tk nt V j_2_ hj2 (XI_T hX hj2) ) v_RX11_134 o_RX11_134_3 o_RX11_134_8 rfl (xt hj2) (xT (XI_T hX hj2)) ⟨rfl, rfl, Nat.le_of_ble_eq_true rfl, Nat.le_of_ble_eq_true rfl⟩ rfl hl.1 rfl (Nat.le_of_ble_eq_true rfl) ⟨Nat.le_of_ble_eq_true rfl, Nat.le_of_ble_eq_true rfl⟩ dX11_even_86 (kI fun x_8_ U8 h_8_ => ?_)
                obtain ⟨eU8, h_8_⟩ := h_8_
                have eU8 := eU8.symm
                subst eU8
                refine j_iload C dX11_even_89 (lv_at hl 6 rfl) ?_
                refine j_aload C dX11_even_91 (lv_at hl 4 rfl) ?_
                refine j_getI (k := 0 + 2 + 3 * j_3_) C (f_RX11_108_2) (xl (xG (tk := tk) (nt := nt) (xCg (nt := nt) (Or.inl rfl) (by omega : j_3_ < 4)).1).1.1) ((xG (tk := tk) (nt := nt) (xCg (nt := nt) (Or.inl rfl) (by omega : j_3_ < 4)).1).2.1) dX11_even_93 ?_
                refine j_aload_n C dX11_even_96 rfl (lv_at hl 1 rfl) ?_
                refine j_getR (k := 55) (k2 := 0) C (f_RX11_12_11) (xl (by decide)) (rfl) (rfl) dX11_even_97 ?_
                refine j_getI (k := 0) C (f_RX11_147_0) (xl (xC (tk := tk) (nt := nt) (k := 0) (Or.inl rfl)).1.1) ((xC (tk := tk) (nt := nt) (k := 0) (Or.inl rfl)).2.1) dX11_even_100 ?_
                refine j_callS C [.int (x_8_), .int (nI (v + 1)), .int (V (0 + 2 + 3 * j_3_) 1), .int (V 0 0)] [] (k_X11_nearnessBy l (xS ad tk nt) V (x_8_) (nI (v + 1)) (V (0 + 2 + 3 * j_3_) 1) (V 0 0)) v_RX11_200 ⟨rfl, rfl, Nat.le_of_ble_eq_true rfl, Nat.le_of_ble_eq_true rfl⟩ rfl hl.1 rfl (Nat.le_of_ble_eq_true rfl) ⟨Nat.le_of_ble_eq_true rfl, Nat.le_of_ble_eq_true rfl⟩ dX11_even_103 (kI fun x_9_ U9 h_9_ => ?_)
                obtain ⟨eU9, h_9_⟩ := h_9_
                have eU9 := eU9.symm
                subst eU9
                have en9 : x_7_ = x_9_ ↔ near (rch (kdI (tk j_1_)) (V (56 + j_1_) 1)) (nI (v + 1)) (V (0 + 2 + 3 * j_3_) 1) (V 0 0) = near (rch (kdI (tk j_2_)) (V (56 + j_2_) 1)) (nI (v + 1)) (V (0 + 2 + 3 * j_3_) 1) (V 0 0) := by rw [h_7_, h_6_, h_9_, h_8_]
                refine j_istore (lv2 := [(10, .int (x_9_)), (9, .int (x_7_)), (0, .ref (ad (55))), (4, .ref (ad (56 + j_1_))), (5, .ref (ad (56 + j_2_))), (6, .ref (ad (0 + 2 + 3 * j_3_))), (7, .int (b)), (8, .int (nI (v + 1)))]) C dX11_even_106 hl (by decide) rfl (fun ls hl => ?_)
                refine j_iload C dX11_even_108 (lv_at hl 6 rfl) ?_
                refine j_bipush (v := (-9)) C dX11_even_110 (by decide) ?_
                refine j_icmp_eq (tgt := 138) C dX11_even_112 (by decide) (fun c_10_ => ?_) (fun c_10_ => ?_)
                · skip
                  refine j_iconst (v := 1) C dX11_even_138 (by decide) ?_
                  refine j_goto (tgt := 143) C dX11_even_139 (by decide) ?_
                  refine j_istore (lv2 := [(11, .int (1)), (10, .int (x_9_)), (9, .int (x_7_)), (0, .ref (ad (55))), (4, .ref (ad (56 + j_1_))), (5, .ref (ad (56 + j_2_))), (6, .ref (ad (0 + 2 + 3 * j_3_))), (7, .int (b)), (8, .int (nI (v + 1)))]) C dX11_even_143 hl (by decide) rfl (fun ls hl => ?_)
                  refine j_iload C dX11_even_145 (lv_at hl 2 rfl) ?_
                  refine j_iload C dX11_even_147 (lv_at hl 1 rfl) ?_
                  refine j_icmp_ne (tgt := 161) C dX11_even_149 (by decide) (fun c_11_ => ?_) (fun c_11_ => ?_)
                  · skip
                    refine j_iinc (v := nI ((v + 1) + 1)) (lv2 := [(8, .int (nI ((v + 1) + 1))), (11, .int (1)), (10, .int (x_9_)), (9, .int (x_7_)), (0, .ref (ad (55))), (4, .ref (ad (56 + j_1_))), (5, .ref (ad (56 + j_2_))), (6, .ref (ad (0 + 2 + 3 * j_3_))), (7, .int (b))]) C dX11_even_161 hl (k0 := 8) rfl (nI_1 _) (by decide) rfl (fun ls hl => ?_)
                    refine j_goto (tgt := 53) C dX11_even_164 (by decide) ?_
                    exact ih_loop (v + 1) (b) (by omega) (by rw [evI, if_neg (fun q => c_11_ (en9.mpr q.1))]; exact hb) (by omega) ls (lv_sub hl [4, 5, 6, 7, 8, 0] rfl)
                  · skip
                    refine j_iload C dX11_even_152 (lv_at hl 0 rfl) ?_
                    refine j_if_eq (tgt := 161) C dX11_even_154 (by decide) (fun c_12_ => ?_) (fun c_12_ => ?_)
                    · skip
                      exact absurd c_12_ (by decide)
                    · skip
                      refine j_iload C dX11_even_157 (lv_at hl 8 rfl) ?_
                      refine j_istore (lv2 := [(7, .int (nI (v + 1))), (11, .int (1)), (10, .int (x_9_)), (9, .int (x_7_)), (0, .ref (ad (55))), (4, .ref (ad (56 + j_1_))), (5, .ref (ad (56 + j_2_))), (6, .ref (ad (0 + 2 + 3 * j_3_))), (8, .int (nI (v + 1)))]) C dX11_even_159 hl (by decide) rfl (fun ls hl => ?_)
                      refine j_iinc (v := nI ((v + 1) + 1)) (lv2 := [(8, .int (nI ((v + 1) + 1))), (7, .int (nI (v + 1))), (11, .int (1)), (10, .int (x_9_)), (9, .int (x_7_)), (0, .ref (ad (55))), (4, .ref (ad (56 + j_1_))), (5, .ref (ad (56 + j_2_))), (6, .ref (ad (0 + 2 + 3 * j_3_)))]) C dX11_even_161 hl (k0 := 8) rfl (nI_1 _) (by decide) rfl (fun ls hl => ?_)
                      refine j_goto (tgt := 53) C dX11_even_164 (by decide) ?_
                      exact ih_loop (v + 1) (nI (v + 1)) (by omega) (by rw [evI, if_pos ⟨en9.mp c_11_, Or.inl (hb ▸ c_10_)⟩]) (by omega) ls (lv_sub hl [5, 6, 7, 8, 1, 0] rfl)
                · skip
                  refine j_iload C dX11_even_115 (lv_at hl 7 rfl) ?_
                  refine j_aload C dX11_even_117 (lv_at hl 5 rfl) ?_
                  refine j_getI (k := 0 + 2 + 3 * j_3_) C (f_RX11_103_2) (xl (xG (tk := tk) (nt := nt) (xCg (nt := nt) (Or.inl rfl) (by omega : j_3_ < 4)).1).1.1) ((xG (tk := tk) (nt := nt) (xCg (nt := nt) (Or.inl rfl) (by omega : j_3_ < 4)).1).2.1) dX11_even_119 ?_
                  refine j_callS C [.int (nI (v + 1)), .int (V (0 + 2 + 3 * j_3_) 0)] [] (k_X11_apart l (xS ad tk nt) V (nI (v + 1)) (V (0 + 2 + 3 * j_3_) 0)) v_RX11_204 ⟨rfl, rfl, Nat.le_of_ble_eq_true rfl, Nat.le_of_ble_eq_true rfl⟩ rfl hl.1 rfl (Nat.le_of_ble_eq_true rfl) ⟨Nat.le_of_ble_eq_true rfl, Nat.le_of_ble_eq_true rfl⟩ dX11_even_122 (kI fun x_13_ U13 h_13_ => ?_)
                  obtain ⟨eU13, h_13_⟩ := h_13_
                  have eU13 := eU13.symm
                  subst eU13
                  refine j_iload C dX11_even_125 (lv_at hl 6 rfl) ?_
                  refine j_aload C dX11_even_127 (lv_at hl 5 rfl) ?_
                  refine j_getI (k := 0 + 2 + 3 * j_3_) C (f_RX11_103_2) (xl (xG (tk := tk) (nt := nt) (xCg (nt := nt) (Or.inl rfl) (by omega : j_3_ < 4)).1).1.1) ((xG (tk := tk) (nt := nt) (xCg (nt := nt) (Or.inl rfl) (by omega : j_3_ < 4)).1).2.1) dX11_even_129 ?_
                  refine j_callS C [.int (b), .int (V (0 + 2 + 3 * j_3_) 0)] [.int (x_13_)] (k_X11_apart l (xS ad tk nt) V (b) (V (0 + 2 + 3 * j_3_) 0)) v_RX11_204 ⟨rfl, rfl, Nat.le_of_ble_eq_true rfl, Nat.le_of_ble_eq_true rfl⟩ rfl hl.1 rfl (Nat.le_of_ble_eq_true rfl) ⟨Nat.le_of_ble_eq_true rfl, Nat.le_of_ble_eq_true rfl⟩ dX11_even_132 (kI fun x_14_ U14 h_14_ => ?_)
                  obtain ⟨eU14, h_14_⟩ := h_14_
                  have eU14 := eU14.symm
                  subst eU14
                  refine j_icmp_ge (tgt := 142) C dX11_even_135 (by decide) (fun c_15_ => ?_) (fun c_15_ => ?_)
                  · have n_15_ := Int32.not_lt.mpr c_15_
                    have ea9 : ¬ aprt (nI (v + 1)) (V (0 + 2 + 3 * j_3_) 0) < aprt (evI (rch (kdI (tk j_1_)) (V (56 + j_1_) 1)) (rch (kdI (tk j_2_)) (V (56 + j_2_) 1)) (V (0 + 2 + 3 * j_3_) 1) (V 0 0) (V (0 + 2 + 3 * j_3_) 0) v) (V (0 + 2 + 3 * j_3_) 0) := by rw [← hb, ← h_13_, ← h_14_]; assumption
                    refine j_iconst (v := 0) C dX11_even_142 (by decide) ?_
                    refine j_istore (lv2 := [(11, .int (0)), (10, .int (x_9_)), (9, .int (x_7_)), (0, .ref (ad (55))), (4, .ref (ad (56 + j_1_))), (5, .ref (ad (56 + j_2_))), (6, .ref (ad (0 + 2 + 3 * j_3_))), (7, .int (b)), (8, .int (nI (v + 1)))]) C dX11_even_143 hl (by decide) rfl (fun ls hl => ?_)
                    refine j_iload C dX11_even_145 (lv_at hl 2 rfl) ?_
                    refine j_iload C dX11_even_147 (lv_at hl 1 rfl) ?_
                    refine j_icmp_ne (tgt := 161) C dX11_even_149 (by decide) (fun c_16_ => ?_) (fun c_16_ => ?_)
                    · skip
                      refine j_iinc (v := nI ((v + 1) + 1)) (lv2 := [(8, .int (nI ((v + 1) + 1))), (11, .int (0)), (10, .int (x_9_)), (9, .int (x_7_)), (0, .ref (ad (55))), (4, .ref (ad (56 + j_1_))), (5, .ref (ad (56 + j_2_))), (6, .ref (ad (0 + 2 + 3 * j_3_))), (7, .int (b))]) C dX11_even_161 hl (k0 := 8) rfl (nI_1 _) (by decide) rfl (fun ls hl => ?_)
                      refine j_goto (tgt := 53) C dX11_even_164 (by decide) ?_
                      exact ih_loop (v + 1) (b) (by omega) (by rw [evI, if_neg (fun q => c_16_ (en9.mpr q.1))]; exact hb) (by omega) ls (lv_sub hl [4, 5, 6, 7, 8, 0] rfl)
                    · skip
                      refine j_iload C dX11_even_152 (lv_at hl 0 rfl) ?_
                      refine j_if_eq (tgt := 161) C dX11_even_154 (by decide) (fun c_17_ => ?_) (fun c_17_ => ?_)
                      · skip
                        refine j_iinc (v := nI ((v + 1) + 1)) (lv2 := [(8, .int (nI ((v + 1) + 1))), (11, .int (0)), (10, .int (x_9_)), (9, .int (x_7_)), (0, .ref (ad (55))), (4, .ref (ad (56 + j_1_))), (5, .ref (ad (56 + j_2_))), (6, .ref (ad (0 + 2 + 3 * j_3_))), (7, .int (b))]) C dX11_even_161 hl (k0 := 8) rfl (nI_1 _) (by decide) rfl (fun ls hl => ?_)
                        refine j_goto (tgt := 53) C dX11_even_164 (by decide) ?_
                        exact ih_loop (v + 1) (b) (by omega) (by rw [evI, if_neg (fun q => q.2.elim (fun q2 => c_10_ (hb.trans q2)) (fun q2 => absurd q2 ea9))]; exact hb) (by omega) ls (lv_sub hl [4, 5, 6, 7, 8, 0] rfl)
                      · skip
                        exact absurd rfl c_17_
                  · have n_15_ := Int32.not_le.mp c_15_
                    have ea9 : aprt (nI (v + 1)) (V (0 + 2 + 3 * j_3_) 0) < aprt (evI (rch (kdI (tk j_1_)) (V (56 + j_1_) 1)) (rch (kdI (tk j_2_)) (V (56 + j_2_) 1)) (V (0 + 2 + 3 * j_3_) 1) (V 0 0) (V (0 + 2 + 3 * j_3_) 0) v) (V (0 + 2 + 3 * j_3_) 0) := by rw [← hb, ← h_13_, ← h_14_]; assumption
                    refine j_iconst (v := 1) C dX11_even_138 (by decide) ?_
                    refine j_goto (tgt := 143) C dX11_even_139 (by decide) ?_
                    refine j_istore (lv2 := [(11, .int (1)), (10, .int (x_9_)), (9, .int (x_7_)), (0, .ref (ad (55))), (4, .ref (ad (56 + j_1_))), (5, .ref (ad (56 + j_2_))), (6, .ref (ad (0 + 2 + 3 * j_3_))), (7, .int (b)), (8, .int (nI (v + 1)))]) C dX11_even_143 hl (by decide) rfl (fun ls hl => ?_)
                    refine j_iload C dX11_even_145 (lv_at hl 2 rfl) ?_
                    refine j_iload C dX11_even_147 (lv_at hl 1 rfl) ?_
                    refine j_icmp_ne (tgt := 161) C dX11_even_149 (by decide) (fun c_18_ => ?_) (fun c_18_ => ?_)
                    · skip
                      refine j_iinc (v := nI ((v + 1) + 1)) (lv2 := [(8, .int (nI ((v + 1) + 1))), (11, .int (1)), (10, .int (x_9_)), (9, .int (x_7_)), (0, .ref (ad (55))), (4, .ref (ad (56 + j_1_))), (5, .ref (ad (56 + j_2_))), (6, .ref (ad (0 + 2 + 3 * j_3_))), (7, .int (b))]) C dX11_even_161 hl (k0 := 8) rfl (nI_1 _) (by decide) rfl (fun ls hl => ?_)
                      refine j_goto (tgt := 53) C dX11_even_164 (by decide) ?_
                      exact ih_loop (v + 1) (b) (by omega) (by rw [evI, if_neg (fun q => c_18_ (en9.mpr q.1))]; exact hb) (by omega) ls (lv_sub hl [4, 5, 6, 7, 8, 0] rfl)
                    · skip
                      refine j_iload C dX11_even_152 (lv_at hl 0 rfl) ?_
                      refine j_if_eq (tgt := 161) C dX11_even_154 (by decide) (fun c_19_ => ?_) (fun c_19_ => ?_)
                      · skip
                        exact absurd c_19_ (by decide)
                      · skip
                        refine j_iload C dX11_even_157 (lv_at hl 8 rfl) ?_
                        refine j_istore (lv2 := [(7, .int (nI (v + 1))), (11, .int (1)), (10, .int (x_9_)), (9, .int (x_7_)), (0, .ref (ad (55))), (4, .ref (ad (56 + j_1_))), (5, .ref (ad (56 + j_2_))), (6, .ref (ad (0 + 2 + 3 * j_3_))), (8, .int (nI (v + 1)))]) C dX11_even_159 hl (by decide) rfl (fun ls hl => ?_)
                        refine j_iinc (v := nI ((v + 1) + 1)) (lv2 := [(8, .int (nI ((v + 1) + 1))), (7, .int (nI (v + 1))), (11, .int (1)), (10, .int (x_9_)), (9, .int (x_7_)), (0, .ref (ad (55))), (4, .ref (ad (56 + j_1_))), (5, .ref (ad (56 + j_2_))), (6, .ref (ad (0 + 2 + 3 * j_3_)))]) C dX11_even_161 hl (k0 := 8) rfl (nI_1 _) (by decide) rfl (fun ls hl => ?_)
                        refine j_goto (tgt := 53) C dX11_even_164 (by decide) ?_
                        exact ih_loop (v + 1) (nI (v + 1)) (by omega) (by rw [evI, if_pos ⟨en9.mp c_18_, Or.inr ea9⟩]) (by omega) ls (lv_sub hl [5, 6, 7, 8, 1, 0] rfl)
          exact loop 10 0 (-9) (by omega) rfl (by omega) ls (lv_sub hl [5, 4, 3, 2, 1, 0] rfl)
      · subst ev3
        refine j_astoreN (lv2 := [(6, .null), (5, .ref (ad (56 + j_2_))), (4, .ref (ad (56 + j_1_))), (0, .ref (ad (55))), (1, .int (z0)), (2, .int (z1)), (3, .int (z2))]) C dX11_even_22 hl (by decide) rfl (fun ls hl => ?_)
        refine j_aload C dX11_even_24 (lv_at hl 2 rfl) ?_
        refine j_ifnull C dX11_even_26 ?_
        refine j_aload C dX11_even_29 (lv_at hl 1 rfl) ?_
        refine j_ifnull C dX11_even_31 ?_
        refine j_iload_n C dX11_even_34 rfl (lv_at hl 4 rfl) ?_
        refine j_iload_n C dX11_even_35 rfl (lv_at hl 5 rfl) ?_
        refine j_icmp_eq (tgt := 44) C dX11_even_36 (by decide) (fun c_20_ => ?_) (fun c_20_ => ?_)
        · skip
          refine j_iconst (v := (-1)) C dX11_even_44 (by decide) ?_
          refine j_iret C ⟨rfl, _, rfl, ?_⟩ dX11_even_45
          obtain ⟨hin1⟩ := inz ej1 hj1 (by omega)
          obtain ⟨hin2⟩ := inz ej2 hj2 (by omega)
          have hot3 := outR ho3
          refine ⟨?_, ?_⟩
          · first | (simp only [if_pos hin1, if_pos hin2, if_neg hot3, if_pos c_20_]; done) | (simp only [if_pos hin1, if_pos hin2, if_neg hot3, if_pos c_20_]; rfl)
          · first | (simp only [if_pos hin1, if_pos hin2, if_neg hot3, if_pos c_20_]; done) | (simp only [if_pos hin1, if_pos hin2, if_neg hot3, if_pos c_20_]; rfl)
        · skip
          have nq9 := c_20_
          refine j_aloadN C dX11_even_39 (lv_at hl 0 rfl) ?_
          refine j_ifnonnullN C dX11_even_41 ?_
          refine j_iconst (v := (-1)) C dX11_even_44 (by decide) ?_
          refine j_iret C ⟨rfl, _, rfl, ?_⟩ dX11_even_45
          obtain ⟨hin1⟩ := inz ej1 hj1 (by omega)
          obtain ⟨hin2⟩ := inz ej2 hj2 (by omega)
          have hot3 := outR ho3
          refine ⟨?_, ?_⟩
          · first | (simp only [if_pos hin1, if_pos hin2, if_neg hot3, if_neg c_20_]; done) | (simp only [if_pos hin1, if_pos hin2, if_neg hot3, if_neg c_20_]; rfl)
          · first | (simp only [if_pos hin1, if_pos hin2, if_neg hot3, if_neg c_20_]; done) | (simp only [if_pos hin1, if_pos hin2, if_neg hot3, if_neg c_20_]; rfl)
    · subst ev2
      refine j_astoreN (lv2 := [(5, .null), (4, .ref (ad (56 + j_1_))), (0, .ref (ad (55))), (1, .int (z0)), (2, .int (z1)), (3, .int (z2))]) C dX11_even_12 hl (by decide) rfl (fun ls hl => ?_)
      refine j_aload_n C dX11_even_14 rfl (lv_at hl 2 rfl) ?_
      refine j_getR (k := 55) (k2 := 0) C (f_RX11_12_11) (xl (by decide)) (rfl) (rfl) dX11_even_15 ?_
      refine j_iload_n C dX11_even_18 rfl (lv_at hl 5 rfl) ?_
      refine j_callV (k := 0) C [.int (z2)] [] (k_X0_girlAt l ad tk nt V 0 (Or.inl rfl) ng hX.1.1 hX.1.2.1 (z2)) v_RX11_99 (xl (xC (tk := tk) (nt := nt) (k := 0) (Or.inl rfl)).1.1) ((xC (tk := tk) (nt := nt) (k := 0) (Or.inl rfl)).2.1) rfl ⟨rfl, rfl, Nat.le_of_ble_eq_true rfl, Nat.le_of_ble_eq_true rfl⟩ rfl hl.1 rfl (Nat.le_of_ble_eq_true rfl) ⟨Nat.le_of_ble_eq_true rfl, Nat.le_of_ble_eq_true rfl⟩ dX11_even_19 (kA fun x_21_ U21 h_21_ => ?_)
      obtain ⟨eU21, h_21_⟩ := h_21_
      have eU21 := eU21.symm
      subst eU21
      rcases h_21_ with ⟨j_21_, hj21, ej21, ev21⟩ | ⟨ho21, ev21⟩
      · subst ev21
        refine j_astore (lv2 := [(6, .ref (ad (0 + 2 + 3 * j_21_))), (5, .null), (4, .ref (ad (56 + j_1_))), (0, .ref (ad (55))), (1, .int (z0)), (2, .int (z1)), (3, .int (z2))]) C dX11_even_22 hl (by decide) rfl (fun ls hl => ?_)
        refine j_aload C dX11_even_24 (lv_at hl 2 rfl) ?_
        refine j_ifnull C dX11_even_26 ?_
        refine j_aloadN C dX11_even_29 (lv_at hl 1 rfl) ?_
        refine j_ifnullN (tgt := 44) C dX11_even_31 (by decide) ?_
        refine j_iconst (v := (-1)) C dX11_even_44 (by decide) ?_
        refine j_iret C ⟨rfl, _, rfl, ?_⟩ dX11_even_45
        obtain ⟨hin1⟩ := inz ej1 hj1 (by omega)
        have hot2 := outR ho2
        obtain ⟨hin21⟩ := inz ej21 hj21 (by omega)
        refine ⟨?_, ?_⟩
        · first | (simp only [if_pos hin1, if_neg hot2, if_pos hin21]; done) | (simp only [if_pos hin1, if_neg hot2, if_pos hin21]; rfl)
        · first | (simp only [if_pos hin1, if_neg hot2, if_pos hin21]; done) | (simp only [if_pos hin1, if_neg hot2, if_pos hin21]; rfl)
      · subst ev21
        refine j_astoreN (lv2 := [(6, .null), (5, .null), (4, .ref (ad (56 + j_1_))), (0, .ref (ad (55))), (1, .int (z0)), (2, .int (z1)), (3, .int (z2))]) C dX11_even_22 hl (by decide) rfl (fun ls hl => ?_)
        refine j_aload C dX11_even_24 (lv_at hl 2 rfl) ?_
        refine j_ifnull C dX11_even_26 ?_
        refine j_aloadN C dX11_even_29 (lv_at hl 1 rfl) ?_
        refine j_ifnullN (tgt := 44) C dX11_even_31 (by decide) ?_
        refine j_iconst (v := (-1)) C dX11_even_44 (by decide) ?_
        refine j_iret C ⟨rfl, _, rfl, ?_⟩ dX11_even_45
        obtain ⟨hin1⟩ := inz ej1 hj1 (by omega)
        have hot2 := outR ho2
        have hot21 := outR ho21
        refine ⟨?_, ?_⟩
        · first | (simp only [if_pos hin1, if_neg hot2, if_neg hot21]; done) | (simp only [if_pos hin1, if_neg hot2, if_neg hot21]; rfl)
        · first | (simp only [if_pos hin1, if_neg hot2, if_neg hot21]; done) | (simp only [if_pos hin1, if_neg hot2, if_neg hot21]; rfl)
  · subst ev1
    refine j_astoreN (lv2 := [(4, .null), (0, .ref (ad (55))), (1, .int (z0)), (2, .int (z1)), (3, .int (z2))]) C dX11_even_5 hl (by decide) rfl (fun ls hl => ?_)
    refine j_aload_n C dX11_even_7 rfl (lv_at hl 1 rfl) ?_
    refine j_iload_n C dX11_even_8 rfl (lv_at hl 3 rfl) ?_
    refine j_callV (k := 55) C [.int (z1)] [] (k_X11_throwerOf l ad tk nt V hX.2.1 hX.2.2.1 (z1)) v_RX11_124 (xl (by decide)) (rfl) rfl ⟨rfl, rfl, Nat.le_of_ble_eq_true rfl, Nat.le_of_ble_eq_true rfl⟩ rfl hl.1 rfl (Nat.le_of_ble_eq_true rfl) ⟨Nat.le_of_ble_eq_true rfl, Nat.le_of_ble_eq_true rfl⟩ dX11_even_9 (kA fun x_22_ U22 h_22_ => ?_)
    obtain ⟨eU22, h_22_⟩ := h_22_
    have eU22 := eU22.symm
    subst eU22
    rcases h_22_ with ⟨j_22_, hj22, ej22, ev22⟩ | ⟨ho22, ev22⟩
    · subst ev22
      refine j_astore (lv2 := [(5, .ref (ad (56 + j_22_))), (4, .null), (0, .ref (ad (55))), (1, .int (z0)), (2, .int (z1)), (3, .int (z2))]) C dX11_even_12 hl (by decide) rfl (fun ls hl => ?_)
      refine j_aload_n C dX11_even_14 rfl (lv_at hl 2 rfl) ?_
      refine j_getR (k := 55) (k2 := 0) C (f_RX11_12_11) (xl (by decide)) (rfl) (rfl) dX11_even_15 ?_
      refine j_iload_n C dX11_even_18 rfl (lv_at hl 5 rfl) ?_
      refine j_callV (k := 0) C [.int (z2)] [] (k_X0_girlAt l ad tk nt V 0 (Or.inl rfl) ng hX.1.1 hX.1.2.1 (z2)) v_RX11_99 (xl (xC (tk := tk) (nt := nt) (k := 0) (Or.inl rfl)).1.1) ((xC (tk := tk) (nt := nt) (k := 0) (Or.inl rfl)).2.1) rfl ⟨rfl, rfl, Nat.le_of_ble_eq_true rfl, Nat.le_of_ble_eq_true rfl⟩ rfl hl.1 rfl (Nat.le_of_ble_eq_true rfl) ⟨Nat.le_of_ble_eq_true rfl, Nat.le_of_ble_eq_true rfl⟩ dX11_even_19 (kA fun x_23_ U23 h_23_ => ?_)
      obtain ⟨eU23, h_23_⟩ := h_23_
      have eU23 := eU23.symm
      subst eU23
      rcases h_23_ with ⟨j_23_, hj23, ej23, ev23⟩ | ⟨ho23, ev23⟩
      · subst ev23
        refine j_astore (lv2 := [(6, .ref (ad (0 + 2 + 3 * j_23_))), (5, .ref (ad (56 + j_22_))), (4, .null), (0, .ref (ad (55))), (1, .int (z0)), (2, .int (z1)), (3, .int (z2))]) C dX11_even_22 hl (by decide) rfl (fun ls hl => ?_)
        refine j_aloadN C dX11_even_24 (lv_at hl 2 rfl) ?_
        refine j_ifnullN (tgt := 44) C dX11_even_26 (by decide) ?_
        refine j_iconst (v := (-1)) C dX11_even_44 (by decide) ?_
        refine j_iret C ⟨rfl, _, rfl, ?_⟩ dX11_even_45
        have hot1 := outR ho1
        obtain ⟨hin22⟩ := inz ej22 hj22 (by omega)
        obtain ⟨hin23⟩ := inz ej23 hj23 (by omega)
        refine ⟨?_, ?_⟩
        · first | (simp only [if_neg hot1, if_pos hin22, if_pos hin23]; done) | (simp only [if_neg hot1, if_pos hin22, if_pos hin23]; rfl)
        · first | (simp only [if_neg hot1, if_pos hin22, if_pos hin23]; done) | (simp only [if_neg hot1, if_pos hin22, if_pos hin23]; rfl)
      · subst ev23
        refine j_astoreN (lv2 := [(6, .null), (5, .ref (ad (56 + j_22_))), (4, .null), (0, .ref (ad (55))), (1, .int (z0)), (2, .int (z1)), (3, .int (z2))]) C dX11_even_22 hl (by decide) rfl (fun ls hl => ?_)
        refine j_aloadN C dX11_even_24 (lv_at hl 2 rfl) ?_
        refine j_ifnullN (tgt := 44) C dX11_even_26 (by decide) ?_
        refine j_iconst (v := (-1)) C dX11_even_44 (by decide) ?_
        refine j_iret C ⟨rfl, _, rfl, ?_⟩ dX11_even_45
        have hot1 := outR ho1
        obtain ⟨hin22⟩ := inz ej22 hj22 (by omega)
        have hot23 := outR ho23
        refine ⟨?_, ?_⟩
        · first | (simp only [if_neg hot1, if_pos hin22, if_neg hot23]; done) | (simp only [if_neg hot1, if_pos hin22, if_neg hot23]; rfl)
        · first | (simp only [if_neg hot1, if_pos hin22, if_neg hot23]; done) | (simp only [if_neg hot1, if_pos hin22, if_neg hot23]; rfl)
    · subst ev22
      refine j_astoreN (lv2 := [(5, .null), (4, .null), (0, .ref (ad (55))), (1, .int (z0)), (2, .int (z1)), (3, .int (z2))]) C dX11_even_12 hl (by decide) rfl (fun ls hl => ?_)
      refine j_aload_n C dX11_even_14 rfl (lv_at hl 2 rfl) ?_
      refine j_getR (k := 55) (k2 := 0) C (f_RX11_12_11) (xl (by decide)) (rfl) (rfl) dX11_even_15 ?_
      refine j_iload_n C dX11_even_18 rfl (lv_at hl 5 rfl) ?_
      refine j_callV (k := 0) C [.int (z2)] [] (k_X0_girlAt l ad tk nt V 0 (Or.inl rfl) ng hX.1.1 hX.1.2.1 (z2)) v_RX11_99 (xl (xC (tk := tk) (nt := nt) (k := 0) (Or.inl rfl)).1.1) ((xC (tk := tk) (nt := nt) (k := 0) (Or.inl rfl)).2.1) rfl ⟨rfl, rfl, Nat.le_of_ble_eq_true rfl, Nat.le_of_ble_eq_true rfl⟩ rfl hl.1 rfl (Nat.le_of_ble_eq_true rfl) ⟨Nat.le_of_ble_eq_true rfl, Nat.le_of_ble_eq_true rfl⟩ dX11_even_19 (kA fun x_24_ U24 h_24_ => ?_)
      obtain ⟨eU24, h_24_⟩ := h_24_
      have eU24 := eU24.symm
      subst eU24
      rcases h_24_ with ⟨j_24_, hj24, ej24, ev24⟩ | ⟨ho24, ev24⟩
      · subst ev24
        refine j_astore (lv2 := [(6, .ref (ad (0 + 2 + 3 * j_24_))), (5, .null), (4, .null), (0, .ref (ad (55))), (1, .int (z0)), (2, .int (z1)), (3, .int (z2))]) C dX11_even_22 hl (by decide) rfl (fun ls hl => ?_)
        refine j_aloadN C dX11_even_24 (lv_at hl 2 rfl) ?_
        refine j_ifnullN (tgt := 44) C dX11_even_26 (by decide) ?_
        refine j_iconst (v := (-1)) C dX11_even_44 (by decide) ?_
        refine j_iret C ⟨rfl, _, rfl, ?_⟩ dX11_even_45
        have hot1 := outR ho1
        have hot22 := outR ho22
        obtain ⟨hin24⟩ := inz ej24 hj24 (by omega)
        refine ⟨?_, ?_⟩
        · first | (simp only [if_neg hot1, if_neg hot22, if_pos hin24]; done) | (simp only [if_neg hot1, if_neg hot22, if_pos hin24]; rfl)
        · first | (simp only [if_neg hot1, if_neg hot22, if_pos hin24]; done) | (simp only [if_neg hot1, if_neg hot22, if_pos hin24]; rfl)
      · subst ev24
        refine j_astoreN (lv2 := [(6, .null), (5, .null), (4, .null), (0, .ref (ad (55))), (1, .int (z0)), (2, .int (z1)), (3, .int (z2))]) C dX11_even_22 hl (by decide) rfl (fun ls hl => ?_)
        refine j_aloadN C dX11_even_24 (lv_at hl 2 rfl) ?_
        refine j_ifnullN (tgt := 44) C dX11_even_26 (by decide) ?_
        refine j_iconst (v := (-1)) C dX11_even_44 (by decide) ?_
        refine j_iret C ⟨rfl, _, rfl, ?_⟩ dX11_even_45
        have hot1 := outR ho1
        have hot22 := outR ho22
        have hot24 := outR ho24
        refine ⟨?_, ?_⟩
        · first | (simp only [if_neg hot1, if_neg hot22, if_neg hot24]; done) | (simp only [if_neg hot1, if_neg hot22, if_neg hot24]; rfl)
        · first | (simp only [if_neg hot1, if_neg hot22, if_neg hot24]; done) | (simp only [if_neg hot1, if_neg hot22, if_neg hot24]; rfl)
