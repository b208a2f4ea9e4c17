noncomputable def cntP (P : Nat → Prop) : Nat → Nat
  | 0 => 0
  | n + 1 => @ite Nat (P n) (Classical.propDecidable _) (cntP P n + 1) (cntP P n)
theorem cntP_y {P : Nat → Prop} {n : Nat} (h : P n) : cntP P (n + 1) = cntP P n + 1 := if_pos h
theorem cntP_n {P : Nat → Prop} {n : Nat} (h : ¬ P n) : cntP P (n + 1) = cntP P n := if_neg h
theorem cntP_le (P : Nat → Prop) : ∀ n, cntP P n ≤ n
  | 0 => Nat.le_refl 0
  | n + 1 => by
    have ih := cntP_le P n
    rcases Classical.em (P n) with h | h
    · rw [cntP_y h]; omega
    · rw [cntP_n h]; omega
theorem cntP_cong {P Q : Nat → Prop} : ∀ n, (∀ k, k < n → (P k ↔ Q k)) → cntP P n = cntP Q n
  | 0, _ => rfl
  | n + 1, h => by
    have ih := cntP_cong n (fun k hk => h k (by omega))
    rcases Classical.em (P n) with q | q
    · rw [cntP_y q, cntP_y ((h n (by omega)).mp q), ih]
    · rw [cntP_n q, cntP_n (fun z => q ((h n (by omega)).mpr z)), ih]
def odX (n : Nat) (z : Int32) : Int64 := if z = 0 then (if n = 3 then 1 else (nI n).toInt64) else (if n = 0 ∨ n = 3 then 1 else 3)
abbrev rm_X11_odds : Room := { frames := 4, cells := 0, slots := 0, locals := 87 }
set_option maxHeartbeats 4000000 in
set_option maxRecDepth 100000 in
theorem k_X11_odds (l : Launch) (ad tk : Nat → Nat) (nt : Nat) (V : Vt) (ng : Nat) (rr : Nat → Nat) (c_0_ : Nat) (hX : XI tk nt V ng rr c_0_) (z0 z1 z2 : Int32) : Ct l yX11_odds cX11_odds 10 (some .long) rm_X11_odds (xS ad tk nt) V [.ref (ad (55)), .int (z0), .int (z1), .int (z2)] (rL fun x V2 => gbE ng rr V V2 ∧ x = if ¬ z0 < 0 ∧ z0 < nI nt then (if ¬ z1 < 0 ∧ z1 < nI ng then (if 0 ≤ z2 ∧ z2 ≤ 1 then odX (cntP (fun s_8_ => hdP V rr z0.toNatClampNeg z1.toNatClampNeg (rch (kdI (tk z0.toNatClampNeg)) (V (56 + z0.toNatClampNeg) 1) + (nI s_8_ - 1))) 3) z2 else (-9223372036854775808)) else (-9223372036854775808)) else (-9223372036854775808)) := by
  refine Ct_of (by decide) (Nat.le_of_ble_eq_true rfl) ?_
  intro p e s m below meth c A D cy ls C hl
  have hl : lv_has ls 10 [(0, .ref (ad (55))), (1, .int (z0)), (2, .int (z1)), (3, .int (z2))] := hl
  have ng4 := hX.1.2.1
  have nt5 := hX.2.2.1
  refine j_aload_n C dX11_odds_0 rfl (lv_at hl 0 rfl) ?_
  refine j_iload_n C dX11_odds_1 rfl (lv_at hl 1 rfl) ?_
  refine j_callV (k := 55) C [.int (z0)] [] (k_X11_throwerOf l ad tk nt V hX.2.1 hX.2.2.1 (z0)) v_RX11_124 (xl (by decide)) (rfl) rfl ⟨rfl, rfl, Nat.le_of_ble_eq_true rfl, Nat.le_of_ble_eq_true rfl⟩ rfl hl.1 rfl (Nat.le_of_ble_eq_true rfl) ⟨Nat.le_of_ble_eq_true rfl, Nat.le_of_ble_eq_true rfl⟩ dX11_odds_2 (kA fun x_1_ U1 h_1_ => ?_)
  obtain ⟨eU1, h_1_⟩ := h_1_
  have eU1 := eU1.symm
  subst eU1
  rcases h_1_ with ⟨j_1_, hj1, ej1, ev1⟩ | ⟨ho1, ev1⟩
  · subst ev1
    refine j_astore (lv2 := [(4, .ref (ad (56 + j_1_))), (0, .ref (ad (55))), (1, .int (z0)), (2, .int (z1)), (3, .int (z2))]) C dX11_odds_5 hl (by decide) rfl (fun ls hl => ?_)
    refine j_aload_n C dX11_odds_7 rfl (lv_at hl 1 rfl) ?_
    refine j_getR (k := 55) (k2 := 0) C (f_RX11_12_11) (xl (by decide)) (rfl) (rfl) dX11_odds_8 ?_
    refine j_iload_n C dX11_odds_11 rfl (lv_at hl 3 rfl) ?_
    refine j_callV (k := 0) C [.int (z1)] [] (k_X0_girlAt l ad tk nt V 0 (Or.inl rfl) ng hX.1.1 hX.1.2.1 (z1)) v_RX11_99 (xl (xC (tk := tk) (nt := nt) (k := 0) (Or.inl rfl)).1.1) ((xC (tk := tk) (nt := nt) (k := 0) (Or.inl rfl)).2.1) rfl ⟨rfl, rfl, Nat.le_of_ble_eq_true rfl, Nat.le_of_ble_eq_true rfl⟩ rfl hl.1 rfl (Nat.le_of_ble_eq_true rfl) ⟨Nat.le_of_ble_eq_true rfl, Nat.le_of_ble_eq_true rfl⟩ dX11_odds_12 (kA fun x_2_ U2 h_2_ => ?_)
    obtain ⟨eU2, h_2_⟩ := h_2_
    have eU2 := eU2.symm
    subst eU2
    rcases h_2_ with ⟨j_2_, hj2, ej2, ev2⟩ | ⟨ho2, ev2⟩
    · subst ev2
      refine j_astore (lv2 := [(5, .ref (ad (0 + 2 + 3 * j_2_))), (4, .ref (ad (56 + j_1_))), (0, .ref (ad (55))), (1, .int (z0)), (2, .int (z1)), (3, .int (z2))]) C dX11_odds_15 hl (by decide) rfl (fun ls hl => ?_)
      refine j_aload C dX11_odds_17 (lv_at hl 1 rfl) ?_
      refine j_ifnull C dX11_odds_19 ?_
      refine j_aload C dX11_odds_22 (lv_at hl 0 rfl) ?_
      refine j_ifnull C dX11_odds_24 ?_
      refine j_iload_n C dX11_odds_27 rfl (lv_at hl 5 rfl) ?_
      refine j_iconst (v := 0) C dX11_odds_28 (by decide) ?_
      refine j_iconst (v := 1) C dX11_odds_29 (by decide) ?_
      refine j_callS C [.int (z2), .int (0), .int (1)] [] (k_X11_isWithin l (xS ad tk nt) V (z2) (0) (1)) v_RX11_143 ⟨rfl, rfl, Nat.le_of_ble_eq_true rfl, Nat.le_of_ble_eq_true rfl⟩ rfl hl.1 rfl (Nat.le_of_ble_eq_true rfl) ⟨Nat.le_of_ble_eq_true rfl, Nat.le_of_ble_eq_true rfl⟩ dX11_odds_30 (kI fun x_3_ U3 h_3_ => ?_)
      obtain ⟨eU3, h_3_⟩ := h_3_
      have eU3 := eU3.symm
      subst eU3
      refine j_if_ne (tgt := 40) C dX11_odds_33 (by decide) (fun c_4_ => ?_) (fun c_4_ => ?_)
      · skip
        have b4 := Decidable.not_not.mp (mt bI_0.mpr (h_3_ ▸ c_4_))
        have hw9 := b4
        refine j_iconst (v := 0) C dX11_odds_40 (by decide) ?_
        refine j_istore (lv2 := [(6, .int (0)), (5, .ref (ad (0 + 2 + 3 * j_2_))), (4, .ref (ad (56 + j_1_))), (0, .ref (ad (55))), (1, .int (z0)), (2, .int (z1)), (3, .int (z2))]) C dX11_odds_41 hl (by decide) rfl (fun ls hl => ?_)
        refine j_iconst (v := (-1)) C dX11_odds_43 (by decide) ?_
        refine j_istore (lv2 := [(7, .int ((-1))), (6, .int (0)), (5, .ref (ad (0 + 2 + 3 * j_2_))), (4, .ref (ad (56 + j_1_))), (0, .ref (ad (55))), (1, .int (z0)), (2, .int (z1)), (3, .int (z2))]) C dX11_odds_44 hl (by decide) rfl (fun ls hl => ?_)
        have loop : ∀ (n_9_ : Nat) (sn : Nat) (Vi : Vt) (b : Int32) (z : Int32), sn ≤ 3 → gbE ng rr V Vi → b = nI (cntP (fun s_8_ => hdP V rr j_1_ j_2_ (rch (kdI (tk j_1_)) (V (56 + j_1_) 1) + (nI s_8_ - 1))) sn) → z = nI sn - 1 → 3 - sn < n_9_ → ∀ (ls : Array Slot), lv_has ls 10 [(0, .ref (ad (55))), (1, .int (z0)), (3, .int (z2)), (4, .ref (ad (56 + j_1_))), (5, .ref (ad (0 + 2 + 3 * j_2_))), (6, .int (b)), (7, .int (z))] → J p l e rm_X11_odds s m [.ref (ad (55)), .int (z0), .int (z1), .int (z2)].toArray below meth c A D cy 0 0 (MQ below (gPost D cy A (fun o9 σ2 V2 => σ2 = xS ad tk nt ∧ (rL fun x V2 => gbE ng rr V V2 ∧ x = if ¬ z0 < 0 ∧ z0 < nI nt then (if ¬ z1 < 0 ∧ z1 < nI ng then (if 0 ≤ z2 ∧ z2 ≤ 1 then odX (cntP (fun s_8_ => hdP V rr z0.toNatClampNeg z1.toNatClampNeg (rch (kdI (tk z0.toNatClampNeg)) (V (56 + z0.toNatClampNeg) 1) + (nI s_8_ - 1))) 3) z2 else (-9223372036854775808)) else (-9223372036854775808)) else (-9223372036854775808)) o9 V2)) [.ref (ad (55)), .int (z0), .int (z1), .int (z2)].toArray s 0 0 A) (xS ad tk nt) Vi (F0 m 46 ls []) := by
          intro n_9_
          induction n_9_ with
          | zero =>
            intro sn Vi b z hi hE hb hz hm
            exact absurd hm (by omega)
          | succ n_9_ ih_loop =>
            intro sn Vi b z hi hE hb hz hm ls hl
            refine j_iload C dX11_odds_46 (lv_at hl 6 rfl) ?_
            refine j_iconst (v := 1) C dX11_odds_48 (by decide) ?_
            refine j_icmp_gt (tgt := 90) C dX11_odds_49 (by decide) (fun c_5_ => ?_) (fun c_5_ => ?_)
            · have n_5_ := Int32.not_le.mpr c_5_
              obtain rfl : sn = 3 := by
                rcases (show sn = 0 ∨ sn = 1 ∨ sn = 2 ∨ sn = 3 by omega) with e | e | e | e
                · rw [hz, e] at c_5_; exact absurd c_5_ (by decide)
                · rw [hz, e] at c_5_; exact absurd c_5_ (by decide)
                · rw [hz, e] at c_5_; exact absurd c_5_ (by decide)
                · exact e
              refine j_iload C dX11_odds_90 (lv_at hl 5 rfl) ?_
              refine j_if_eq (tgt := 101) C dX11_odds_92 (by decide) (fun c_6_ => ?_) (fun c_6_ => ?_)
              · skip
                refine j_iconst (v := 1) C dX11_odds_101 (by decide) ?_
                refine j_goto (tgt := 106) C dX11_odds_102 (by decide) ?_
                refine j_istore (lv2 := [(7, .int (1)), (0, .ref (ad (55))), (1, .int (z0)), (3, .int (z2)), (4, .ref (ad (56 + j_1_))), (5, .ref (ad (0 + 2 + 3 * j_2_))), (6, .int (b))]) C dX11_odds_106 hl (by decide) rfl (fun ls hl => ?_)
                refine j_iload C dX11_odds_108 (lv_at hl 6 rfl) ?_
                refine j_iconst (v := 3) C dX11_odds_110 (by decide) ?_
                refine j_icmp_ne (tgt := 118) C dX11_odds_111 (by decide) (fun c_7_ => ?_) (fun c_7_ => ?_)
                · skip
                  refine j_iload C dX11_odds_118 (lv_at hl 6 rfl) ?_
                  refine j_istore (lv2 := [(8, .int (b)), (7, .int (1)), (0, .ref (ad (55))), (1, .int (z0)), (3, .int (z2)), (4, .ref (ad (56 + j_1_))), (5, .ref (ad (0 + 2 + 3 * j_2_))), (6, .int (b))]) C dX11_odds_120 hl (by decide) rfl (fun ls hl => ?_)
                  refine j_iload C dX11_odds_122 (lv_at hl 1 rfl) ?_
                  refine j_if_eq (tgt := 131) C dX11_odds_124 (by decide) (fun c_8_ => ?_) (fun c_8_ => ?_)
                  · skip
                    refine j_iconst (v := 3) C dX11_odds_131 (by decide) ?_
                    refine j_istore (lv2 := [(9, .int (3)), (8, .int (b)), (7, .int (1)), (0, .ref (ad (55))), (1, .int (z0)), (3, .int (z2)), (4, .ref (ad (56 + j_1_))), (5, .ref (ad (0 + 2 + 3 * j_2_))), (6, .int (b))]) C dX11_odds_132 hl (by decide) rfl (fun ls hl => ?_)
                    refine j_iload_n C dX11_odds_134 rfl (lv_at hl 5 rfl) ?_
                    refine j_if_ne (tgt := 144) C dX11_odds_135 (by decide) (fun c_9_ => ?_) (fun c_9_ => ?_)
                    · skip
                      refine j_iload C dX11_odds_144 (lv_at hl 0 rfl) ?_
                      refine j_i2l C dX11_odds_146 rfl ?_
                      refine j_lret C ⟨rfl, _, rfl, ?_⟩ dX11_odds_147
                      obtain ⟨hin1, hcl1⟩ := inz ej1 hj1 (by omega)
                      obtain ⟨hin2, hcl2⟩ := inz ej2 hj2 (by omega)
                      refine ⟨hE, ?_⟩
                      rw [if_pos hin1, if_pos hin2, if_pos hw9, hcl1, hcl2]
                      have hn8 := cntP_le (fun s_8_ => hdP V rr j_1_ j_2_ (rch (kdI (tk j_1_)) (V (56 + j_1_) 1) + (nI s_8_ - 1))) 3
                      generalize cntP (fun s_8_ => hdP V rr j_1_ j_2_ (rch (kdI (tk j_1_)) (V (56 + j_1_) 1) + (nI s_8_ - 1))) 3 = n_8_ at hb hn8 ⊢
                      rcases (show n_8_ = 0 ∨ n_8_ = 1 ∨ n_8_ = 2 ∨ n_8_ = 3 by omega) with e | e | e | e <;> (subst e; subst hb; first | exact absurd c_6_ (by decide) | exact absurd c_7_ (by decide) | exact absurd c_8_ (by decide) | exact absurd c_9_ (by decide) | (unfold odX; first | (rw [if_pos (by assumption)]; decide) | (rw [if_neg (by assumption)]; decide)))
                    · skip
                      refine j_iload C dX11_odds_138 (lv_at hl 1 rfl) ?_
                      refine j_i2l C dX11_odds_140 rfl ?_
                      refine j_goto (tgt := 147) C dX11_odds_141 (by decide) ?_
                      refine j_lret C ⟨rfl, _, rfl, ?_⟩ dX11_odds_147
                      obtain ⟨hin1, hcl1⟩ := inz ej1 hj1 (by omega)
                      obtain ⟨hin2, hcl2⟩ := inz ej2 hj2 (by omega)
                      refine ⟨hE, ?_⟩
                      rw [if_pos hin1, if_pos hin2, if_pos hw9, hcl1, hcl2]
                      have hn8 := cntP_le (fun s_8_ => hdP V rr j_1_ j_2_ (rch (kdI (tk j_1_)) (V (56 + j_1_) 1) + (nI s_8_ - 1))) 3
                      generalize cntP (fun s_8_ => hdP V rr j_1_ j_2_ (rch (kdI (tk j_1_)) (V (56 + j_1_) 1) + (nI s_8_ - 1))) 3 = n_8_ at hb hn8 ⊢
                      rcases (show n_8_ = 0 ∨ n_8_ = 1 ∨ n_8_ = 2 ∨ n_8_ = 3 by omega) with e | e | e | e <;> (subst e; subst hb; first | exact absurd c_6_ (by decide) | exact absurd c_7_ (by decide) | exact absurd c_8_ (by decide) | exact absurd c_9_ (by decide) | (unfold odX; first | (rw [if_pos (by assumption)]; decide) | (rw [if_neg (by assumption)]; decide)))
                  · skip
                    refine j_iconst (v := 1) C dX11_odds_127 (by decide) ?_
                    refine j_goto (tgt := 132) C dX11_odds_128 (by decide) ?_
                    refine j_istore (lv2 := [(9, .int (1)), (8, .int (b)), (7, .int (1)), (0, .ref (ad (55))), (1, .int (z0)), (3, .int (z2)), (4, .ref (ad (56 + j_1_))), (5, .ref (ad (0 + 2 + 3 * j_2_))), (6, .int (b))]) C dX11_odds_132 hl (by decide) rfl (fun ls hl => ?_)
                    refine j_iload_n C dX11_odds_134 rfl (lv_at hl 5 rfl) ?_
                    refine j_if_ne (tgt := 144) C dX11_odds_135 (by decide) (fun c_10_ => ?_) (fun c_10_ => ?_)
                    · skip
                      refine j_iload C dX11_odds_144 (lv_at hl 0 rfl) ?_
                      refine j_i2l C dX11_odds_146 rfl ?_
                      refine j_lret C ⟨rfl, _, rfl, ?_⟩ dX11_odds_147
                      obtain ⟨hin1, hcl1⟩ := inz ej1 hj1 (by omega)
                      obtain ⟨hin2, hcl2⟩ := inz ej2 hj2 (by omega)
                      refine ⟨hE, ?_⟩
                      rw [if_pos hin1, if_pos hin2, if_pos hw9, hcl1, hcl2]
                      have hn8 := cntP_le (fun s_8_ => hdP V rr j_1_ j_2_ (rch (kdI (tk j_1_)) (V (56 + j_1_) 1) + (nI s_8_ - 1))) 3
                      generalize cntP (fun s_8_ => hdP V rr j_1_ j_2_ (rch (kdI (tk j_1_)) (V (56 + j_1_) 1) + (nI s_8_ - 1))) 3 = n_8_ at hb hn8 ⊢
                      rcases (show n_8_ = 0 ∨ n_8_ = 1 ∨ n_8_ = 2 ∨ n_8_ = 3 by omega) with e | e | e | e <;> (subst e; subst hb; first | exact absurd c_6_ (by decide) | exact absurd c_7_ (by decide) | exact absurd c_8_ (by decide) | exact absurd c_10_ (by decide) | (unfold odX; first | (rw [if_pos (by assumption)]; decide) | (rw [if_neg (by assumption)]; decide)))
                    · skip
                      refine j_iload C dX11_odds_138 (lv_at hl 1 rfl) ?_
                      refine j_i2l C dX11_odds_140 rfl ?_
                      refine j_goto (tgt := 147) C dX11_odds_141 (by decide) ?_
                      refine j_lret C ⟨rfl, _, rfl, ?_⟩ dX11_odds_147
                      obtain ⟨hin1, hcl1⟩ := inz ej1 hj1 (by omega)
                      obtain ⟨hin2, hcl2⟩ := inz ej2 hj2 (by omega)
                      refine ⟨hE, ?_⟩
                      rw [if_pos hin1, if_pos hin2, if_pos hw9, hcl1, hcl2]
                      have hn8 := cntP_le (fun s_8_ => hdP V rr j_1_ j_2_ (rch (kdI (tk j_1_)) (V (56 + j_1_) 1) + (nI s_8_ - 1))) 3
                      generalize cntP (fun s_8_ => hdP V rr j_1_ j_2_ (rch (kdI (tk j_1_)) (V (56 + j_1_) 1) + (nI s_8_ - 1))) 3 = n_8_ at hb hn8 ⊢
                      rcases (show n_8_ = 0 ∨ n_8_ = 1 ∨ n_8_ = 2 ∨ n_8_ = 3 by omega) with e | e | e | e <;> (subst e; subst hb; first | exact absurd c_6_ (by decide) | exact absurd c_7_ (by decide) | exact absurd c_8_ (by decide) | exact absurd c_10_ (by decide) | (unfold odX; first | (rw [if_pos (by assumption)]; decide) | (rw [if_neg (by assumption)]; decide)))
                · skip
                  refine j_iconst (v := 1) C dX11_odds_114 (by decide) ?_
                  refine j_goto (tgt := 120) C dX11_odds_115 (by decide) ?_
                  refine j_istore (lv2 := [(8, .int (1)), (7, .int (1)), (0, .ref (ad (55))), (1, .int (z0)), (3, .int (z2)), (4, .ref (ad (56 + j_1_))), (5, .ref (ad (0 + 2 + 3 * j_2_))), (6, .int (b))]) C dX11_odds_120 hl (by decide) rfl (fun ls hl => ?_)
                  refine j_iload C dX11_odds_122 (lv_at hl 1 rfl) ?_
                  refine j_if_eq (tgt := 131) C dX11_odds_124 (by decide) (fun c_11_ => ?_) (fun c_11_ => ?_)
                  · skip
                    refine j_iconst (v := 3) C dX11_odds_131 (by decide) ?_
                    refine j_istore (lv2 := [(9, .int (3)), (8, .int (1)), (7, .int (1)), (0, .ref (ad (55))), (1, .int (z0)), (3, .int (z2)), (4, .ref (ad (56 + j_1_))), (5, .ref (ad (0 + 2 + 3 * j_2_))), (6, .int (b))]) C dX11_odds_132 hl (by decide) rfl (fun ls hl => ?_)
                    refine j_iload_n C dX11_odds_134 rfl (lv_at hl 5 rfl) ?_
                    refine j_if_ne (tgt := 144) C dX11_odds_135 (by decide) (fun c_12_ => ?_) (fun c_12_ => ?_)
                    · skip
                      refine j_iload C dX11_odds_144 (lv_at hl 0 rfl) ?_
                      refine j_i2l C dX11_odds_146 rfl ?_
                      refine j_lret C ⟨rfl, _, rfl, ?_⟩ dX11_odds_147
                      obtain ⟨hin1, hcl1⟩ := inz ej1 hj1 (by omega)
                      obtain ⟨hin2, hcl2⟩ := inz ej2 hj2 (by omega)
                      refine ⟨hE, ?_⟩
                      rw [if_pos hin1, if_pos hin2, if_pos hw9, hcl1, hcl2]
                      have hn8 := cntP_le (fun s_8_ => hdP V rr j_1_ j_2_ (rch (kdI (tk j_1_)) (V (56 + j_1_) 1) + (nI s_8_ - 1))) 3
                      generalize cntP (fun s_8_ => hdP V rr j_1_ j_2_ (rch (kdI (tk j_1_)) (V (56 + j_1_) 1) + (nI s_8_ - 1))) 3 = n_8_ at hb hn8 ⊢
                      rcases (show n_8_ = 0 ∨ n_8_ = 1 ∨ n_8_ = 2 ∨ n_8_ = 3 by omega) with e | e | e | e <;> (subst e; subst hb; first | exact absurd c_6_ (by decide) | exact absurd c_7_ (by decide) | exact absurd c_11_ (by decide) | exact absurd c_12_ (by decide) | (unfold odX; first | (rw [if_pos (by assumption)]; decide) | (rw [if_neg (by assumption)]; decide)))
                    · skip
                      refine j_iload C dX11_odds_138 (lv_at hl 1 rfl) ?_
                      refine j_i2l C dX11_odds_140 rfl ?_
                      refine j_goto (tgt := 147) C dX11_odds_141 (by decide) ?_
                      refine j_lret C ⟨rfl, _, rfl, ?_⟩ dX11_odds_147
                      obtain ⟨hin1, hcl1⟩ := inz ej1 hj1 (by omega)
                      obtain ⟨hin2, hcl2⟩ := inz ej2 hj2 (by omega)
                      refine ⟨hE, ?_⟩
                      rw [if_pos hin1, if_pos hin2, if_pos hw9, hcl1, hcl2]
                      have hn8 := cntP_le (fun s_8_ => hdP V rr j_1_ j_2_ (rch (kdI (tk j_1_)) (V (56 + j_1_) 1) + (nI s_8_ - 1))) 3
                      generalize cntP (fun s_8_ => hdP V rr j_1_ j_2_ (rch (kdI (tk j_1_)) (V (56 + j_1_) 1) + (nI s_8_ - 1))) 3 = n_8_ at hb hn8 ⊢
                      rcases (show n_8_ = 0 ∨ n_8_ = 1 ∨ n_8_ = 2 ∨ n_8_ = 3 by omega) with e | e | e | e <;> (subst e; subst hb; first | exact absurd c_6_ (by decide) | exact absurd c_7_ (by decide) | exact absurd c_11_ (by decide) | exact absurd c_12_ (by decide) | (unfold odX; first | (rw [if_pos (by assumption)]; decide) | (rw [if_neg (by assumption)]; decide)))
                  · skip
                    refine j_iconst (v := 1) C dX11_odds_127 (by decide) ?_
                    refine j_goto (tgt := 132) C dX11_odds_128 (by decide) ?_
                    refine j_istore (lv2 := [(9, .int (1)), (8, .int (1)), (7, .int (1)), (0, .ref (ad (55))), (1, .int (z0)), (3, .int (z2)), (4, .ref (ad (56 + j_1_))), (5, .ref (ad (0 + 2 + 3 * j_2_))), (6, .int (b))]) C dX11_odds_132 hl (by decide) rfl (fun ls hl => ?_)
                    refine j_iload_n C dX11_odds_134 rfl (lv_at hl 5 rfl) ?_
                    refine j_if_ne (tgt := 144) C dX11_odds_135 (by decide) (fun c_13_ => ?_) (fun c_13_ => ?_)
                    · skip
                      refine j_iload C dX11_odds_144 (lv_at hl 0 rfl) ?_
                      refine j_i2l C dX11_odds_146 rfl ?_
                      refine j_lret C ⟨rfl, _, rfl, ?_⟩ dX11_odds_147
                      obtain ⟨hin1, hcl1⟩ := inz ej1 hj1 (by omega)
                      obtain ⟨hin2, hcl2⟩ := inz ej2 hj2 (by omega)
                      refine ⟨hE, ?_⟩
                      rw [if_pos hin1, if_pos hin2, if_pos hw9, hcl1, hcl2]
                      have hn8 := cntP_le (fun s_8_ => hdP V rr j_1_ j_2_ (rch (kdI (tk j_1_)) (V (56 + j_1_) 1) + (nI s_8_ - 1))) 3
                      generalize cntP (fun s_8_ => hdP V rr j_1_ j_2_ (rch (kdI (tk j_1_)) (V (56 + j_1_) 1) + (nI s_8_ - 1))) 3 = n_8_ at hb hn8 ⊢
                      rcases (show n_8_ = 0 ∨ n_8_ = 1 ∨ n_8_ = 2 ∨ n_8_ = 3 by omega) with e | e | e | e <;> (subst e; subst hb; first | exact absurd c_6_ (by decide) | exact absurd c_7_ (by decide) | exact absurd c_11_ (by decide) | exact absurd c_13_ (by decide) | (unfold odX; first | (rw [if_pos (by assumption)]; decide) | (rw [if_neg (by assumption)]; decide)))
                    · skip
                      refine j_iload C dX11_odds_138 (lv_at hl 1 rfl) ?_
                      refine j_i2l C dX11_odds_140 rfl ?_
                      refine j_goto (tgt := 147) C dX11_odds_141 (by decide) ?_
                      refine j_lret C ⟨rfl, _, rfl, ?_⟩ dX11_odds_147
                      obtain ⟨hin1, hcl1⟩ := inz ej1 hj1 (by omega)
                      obtain ⟨hin2, hcl2⟩ := inz ej2 hj2 (by omega)
                      refine ⟨hE, ?_⟩
                      rw [if_pos hin1, if_pos hin2, if_pos hw9, hcl1, hcl2]
                      have hn8 := cntP_le (fun s_8_ => hdP V rr j_1_ j_2_ (rch (kdI (tk j_1_)) (V (56 + j_1_) 1) + (nI s_8_ - 1))) 3
                      generalize cntP (fun s_8_ => hdP V rr j_1_ j_2_ (rch (kdI (tk j_1_)) (V (56 + j_1_) 1) + (nI s_8_ - 1))) 3 = n_8_ at hb hn8 ⊢
                      rcases (show n_8_ = 0 ∨ n_8_ = 1 ∨ n_8_ = 2 ∨ n_8_ = 3 by omega) with e | e | e | e <;> (subst e; subst hb; first | exact absurd c_6_ (by decide) | exact absurd c_7_ (by decide) | exact absurd c_11_ (by decide) | exact absurd c_13_ (by decide) | (unfold odX; first | (rw [if_pos (by assumption)]; decide) | (rw [if_neg (by assumption)]; decide)))
              · skip
                refine j_iload C dX11_odds_95 (lv_at hl 5 rfl) ?_
                refine j_iconst (v := 3) C dX11_odds_97 (by decide) ?_
                refine j_icmp_ne (tgt := 105) C dX11_odds_98 (by decide) (fun c_14_ => ?_) (fun c_14_ => ?_)
                · skip
                  refine j_iconst (v := 0) C dX11_odds_105 (by decide) ?_
                  refine j_istore (lv2 := [(7, .int (0)), (0, .ref (ad (55))), (1, .int (z0)), (3, .int (z2)), (4, .ref (ad (56 + j_1_))), (5, .ref (ad (0 + 2 + 3 * j_2_))), (6, .int (b))]) C dX11_odds_106 hl (by decide) rfl (fun ls hl => ?_)
                  refine j_iload C dX11_odds_108 (lv_at hl 6 rfl) ?_
                  refine j_iconst (v := 3) C dX11_odds_110 (by decide) ?_
                  refine j_icmp_ne (tgt := 118) C dX11_odds_111 (by decide) (fun c_15_ => ?_) (fun c_15_ => ?_)
                  · skip
                    refine j_iload C dX11_odds_118 (lv_at hl 6 rfl) ?_
                    refine j_istore (lv2 := [(8, .int (b)), (7, .int (0)), (0, .ref (ad (55))), (1, .int (z0)), (3, .int (z2)), (4, .ref (ad (56 + j_1_))), (5, .ref (ad (0 + 2 + 3 * j_2_))), (6, .int (b))]) C dX11_odds_120 hl (by decide) rfl (fun ls hl => ?_)
                    refine j_iload C dX11_odds_122 (lv_at hl 1 rfl) ?_
                    refine j_if_eq (tgt := 131) C dX11_odds_124 (by decide) (fun c_16_ => ?_) (fun c_16_ => ?_)
                    · skip
                      refine j_iconst (v := 3) C dX11_odds_131 (by decide) ?_
                      refine j_istore (lv2 := [(9, .int (3)), (8, .int (b)), (7, .int (0)), (0, .ref (ad (55))), (1, .int (z0)), (3, .int (z2)), (4, .ref (ad (56 + j_1_))), (5, .ref (ad (0 + 2 + 3 * j_2_))), (6, .int (b))]) C dX11_odds_132 hl (by decide) rfl (fun ls hl => ?_)
                      refine j_iload_n C dX11_odds_134 rfl (lv_at hl 5 rfl) ?_
                      refine j_if_ne (tgt := 144) C dX11_odds_135 (by decide) (fun c_17_ => ?_) (fun c_17_ => ?_)
                      · skip
                        refine j_iload C dX11_odds_144 (lv_at hl 0 rfl) ?_
                        refine j_i2l C dX11_odds_146 rfl ?_
                        refine j_lret C ⟨rfl, _, rfl, ?_⟩ dX11_odds_147
                        obtain ⟨hin1, hcl1⟩ := inz ej1 hj1 (by omega)
                        obtain ⟨hin2, hcl2⟩ := inz ej2 hj2 (by omega)
                        refine ⟨hE, ?_⟩
                        rw [if_pos hin1, if_pos hin2, if_pos hw9, hcl1, hcl2]
                        have hn8 := cntP_le (fun s_8_ => hdP V rr j_1_ j_2_ (rch (kdI (tk j_1_)) (V (56 + j_1_) 1) + (nI s_8_ - 1))) 3
                        generalize cntP (fun s_8_ => hdP V rr j_1_ j_2_ (rch (kdI (tk j_1_)) (V (56 + j_1_) 1) + (nI s_8_ - 1))) 3 = n_8_ at hb hn8 ⊢
                        rcases (show n_8_ = 0 ∨ n_8_ = 1 ∨ n_8_ = 2 ∨ n_8_ = 3 by omega) with e | e | e | e <;> (subst e; subst hb; first | exact absurd c_6_ (by decide) | exact absurd c_14_ (by decide) | exact absurd c_15_ (by decide) | exact absurd c_16_ (by decide) | exact absurd c_17_ (by decide) | (unfold odX; first | (rw [if_pos (by assumption)]; decide) | (rw [if_neg (by assumption)]; decide)))
                      · skip
                        refine j_iload C dX11_odds_138 (lv_at hl 1 rfl) ?_
                        refine j_i2l C dX11_odds_140 rfl ?_
                        refine j_goto (tgt := 147) C dX11_odds_141 (by decide) ?_
                        refine j_lret C ⟨rfl, _, rfl, ?_⟩ dX11_odds_147
                        obtain ⟨hin1, hcl1⟩ := inz ej1 hj1 (by omega)
                        obtain ⟨hin2, hcl2⟩ := inz ej2 hj2 (by omega)
                        refine ⟨hE, ?_⟩
                        rw [if_pos hin1, if_pos hin2, if_pos hw9, hcl1, hcl2]
                        have hn8 := cntP_le (fun s_8_ => hdP V rr j_1_ j_2_ (rch (kdI (tk j_1_)) (V (56 + j_1_) 1) + (nI s_8_ - 1))) 3
                        generalize cntP (fun s_8_ => hdP V rr j_1_ j_2_ (rch (kdI (tk j_1_)) (V (56 + j_1_) 1) + (nI s_8_ - 1))) 3 = n_8_ at hb hn8 ⊢
                        rcases (show n_8_ = 0 ∨ n_8_ = 1 ∨ n_8_ = 2 ∨ n_8_ = 3 by omega) with e | e | e | e <;> (subst e; subst hb; first | exact absurd c_6_ (by decide) | exact absurd c_14_ (by decide) | exact absurd c_15_ (by decide) | exact absurd c_16_ (by decide) | exact absurd c_17_ (by decide) | (unfold odX; first | (rw [if_pos (by assumption)]; decide) | (rw [if_neg (by assumption)]; decide)))
                    · skip
                      refine j_iconst (v := 1) C dX11_odds_127 (by decide) ?_
                      refine j_goto (tgt := 132) C dX11_odds_128 (by decide) ?_
                      refine j_istore (lv2 := [(9, .int (1)), (8, .int (b)), (7, .int (0)), (0, .ref (ad (55))), (1, .int (z0)), (3, .int (z2)), (4, .ref (ad (56 + j_1_))), (5, .ref (ad (0 + 2 + 3 * j_2_))), (6, .int (b))]) C dX11_odds_132 hl (by decide) rfl (fun ls hl => ?_)
                      refine j_iload_n C dX11_odds_134 rfl (lv_at hl 5 rfl) ?_
                      refine j_if_ne (tgt := 144) C dX11_odds_135 (by decide) (fun c_18_ => ?_) (fun c_18_ => ?_)
                      · skip
                        refine j_iload C dX11_odds_144 (lv_at hl 0 rfl) ?_
                        refine j_i2l C dX11_odds_146 rfl ?_
                        refine j_lret C ⟨rfl, _, rfl, ?_⟩ dX11_odds_147
                        obtain ⟨hin1, hcl1⟩ := inz ej1 hj1 (by omega)
                        obtain ⟨hin2, hcl2⟩ := inz ej2 hj2 (by omega)
                        refine ⟨hE, ?_⟩
                        rw [if_pos hin1, if_pos hin2, if_pos hw9, hcl1, hcl2]
                        have hn8 := cntP_le (fun s_8_ => hdP V rr j_1_ j_2_ (rch (kdI (tk j_1_)) (V (56 + j_1_) 1) + (nI s_8_ - 1))) 3
                        generalize cntP (fun s_8_ => hdP V rr j_1_ j_2_ (rch (kdI (tk j_1_)) (V (56 + j_1_) 1) + (nI s_8_ - 1))) 3 = n_8_ at hb hn8 ⊢
                        rcases (show n_8_ = 0 ∨ n_8_ = 1 ∨ n_8_ = 2 ∨ n_8_ = 3 by omega) with e | e | e | e <;> (subst e; subst hb; first | exact absurd c_6_ (by decide) | exact absurd c_14_ (by decide) | exact absurd c_15_ (by decide) | exact absurd c_16_ (by decide) | exact absurd c_18_ (by decide) | (unfold odX; first | (rw [if_pos (by assumption)]; decide) | (rw [if_neg (by assumption)]; decide)))
                      · skip
                        refine j_iload C dX11_odds_138 (lv_at hl 1 rfl) ?_
                        refine j_i2l C dX11_odds_140 rfl ?_
                        refine j_goto (tgt := 147) C dX11_odds_141 (by decide) ?_
                        refine j_lret C ⟨rfl, _, rfl, ?_⟩ dX11_odds_147
                        obtain ⟨hin1, hcl1⟩ := inz ej1 hj1 (by omega)
                        obtain ⟨hin2, hcl2⟩ := inz ej2 hj2 (by omega)
                        refine ⟨hE, ?_⟩
                        rw [if_pos hin1, if_pos hin2, if_pos hw9, hcl1, hcl2]
                        have hn8 := cntP_le (fun s_8_ => hdP V rr j_1_ j_2_ (rch (kdI (tk j_1_)) (V (56 + j_1_) 1) + (nI s_8_ - 1))) 3
                        generalize cntP (fun s_8_ => hdP V rr j_1_ j_2_ (rch (kdI (tk j_1_)) (V (56 + j_1_) 1) + (nI s_8_ - 1))) 3 = n_8_ at hb hn8 ⊢
                        rcases (show n_8_ = 0 ∨ n_8_ = 1 ∨ n_8_ = 2 ∨ n_8_ = 3 by omega) with e | e | e | e <;> (subst e; subst hb; first | exact absurd c_6_ (by decide) | exact absurd c_14_ (by decide) | exact absurd c_15_ (by decide) | exact absurd c_16_ (by decide) | exact absurd c_18_ (by decide) | (unfold odX; first | (rw [if_pos (by assumption)]; decide) | (rw [if_neg (by assumption)]; decide)))
                  · skip
                    refine j_iconst (v := 1) C dX11_odds_114 (by decide) ?_
                    refine j_goto (tgt := 120) C dX11_odds_115 (by decide) ?_
                    refine j_istore (lv2 := [(8, .int (1)), (7, .int (0)), (0, .ref (ad (55))), (1, .int (z0)), (3, .int (z2)), (4, .ref (ad (56 + j_1_))), (5, .ref (ad (0 + 2 + 3 * j_2_))), (6, .int (b))]) C dX11_odds_120 hl (by decide) rfl (fun ls hl => ?_)
                    refine j_iload C dX11_odds_122 (lv_at hl 1 rfl) ?_
                    refine j_if_eq (tgt := 131) C dX11_odds_124 (by decide) (fun c_19_ => ?_) (fun c_19_ => ?_)
                    · skip
                      refine j_iconst (v := 3) C dX11_odds_131 (by decide) ?_
                      refine j_istore (lv2 := [(9, .int (3)), (8, .int (1)), (7, .int (0)), (0, .ref (ad (55))), (1, .int (z0)), (3, .int (z2)), (4, .ref (ad (56 + j_1_))), (5, .ref (ad (0 + 2 + 3 * j_2_))), (6, .int (b))]) C dX11_odds_132 hl (by decide) rfl (fun ls hl => ?_)
                      refine j_iload_n C dX11_odds_134 rfl (lv_at hl 5 rfl) ?_
                      refine j_if_ne (tgt := 144) C dX11_odds_135 (by decide) (fun c_20_ => ?_) (fun c_20_ => ?_)
                      · skip
                        refine j_iload C dX11_odds_144 (lv_at hl 0 rfl) ?_
                        refine j_i2l C dX11_odds_146 rfl ?_
                        refine j_lret C ⟨rfl, _, rfl, ?_⟩ dX11_odds_147
                        obtain ⟨hin1, hcl1⟩ := inz ej1 hj1 (by omega)
                        obtain ⟨hin2, hcl2⟩ := inz ej2 hj2 (by omega)
                        refine ⟨hE, ?_⟩
                        rw [if_pos hin1, if_pos hin2, if_pos hw9, hcl1, hcl2]
                        have hn8 := cntP_le (fun s_8_ => hdP V rr j_1_ j_2_ (rch (kdI (tk j_1_)) (V (56 + j_1_) 1) + (nI s_8_ - 1))) 3
                        generalize cntP (fun s_8_ => hdP V rr j_1_ j_2_ (rch (kdI (tk j_1_)) (V (56 + j_1_) 1) + (nI s_8_ - 1))) 3 = n_8_ at hb hn8 ⊢
                        rcases (show n_8_ = 0 ∨ n_8_ = 1 ∨ n_8_ = 2 ∨ n_8_ = 3 by omega) with e | e | e | e <;> (subst e; subst hb; first | exact absurd c_6_ (by decide) | exact absurd c_14_ (by decide) | exact absurd c_15_ (by decide) | exact absurd c_19_ (by decide) | exact absurd c_20_ (by decide) | (unfold odX; first | (rw [if_pos (by assumption)]; decide) | (rw [if_neg (by assumption)]; decide)))
                      · skip
                        refine j_iload C dX11_odds_138 (lv_at hl 1 rfl) ?_
                        refine j_i2l C dX11_odds_140 rfl ?_
                        refine j_goto (tgt := 147) C dX11_odds_141 (by decide) ?_
                        refine j_lret C ⟨rfl, _, rfl, ?_⟩ dX11_odds_147
                        obtain ⟨hin1, hcl1⟩ := inz ej1 hj1 (by omega)
                        obtain ⟨hin2, hcl2⟩ := inz ej2 hj2 (by omega)
                        refine ⟨hE, ?_⟩
                        rw [if_pos hin1, if_pos hin2, if_pos hw9, hcl1, hcl2]
                        have hn8 := cntP_le (fun s_8_ => hdP V rr j_1_ j_2_ (rch (kdI (tk j_1_)) (V (56 + j_1_) 1) + (nI s_8_ - 1))) 3
                        generalize cntP (fun s_8_ => hdP V rr j_1_ j_2_ (rch (kdI (tk j_1_)) (V (56 + j_1_) 1) + (nI s_8_ - 1))) 3 = n_8_ at hb hn8 ⊢
                        rcases (show n_8_ = 0 ∨ n_8_ = 1 ∨ n_8_ = 2 ∨ n_8_ = 3 by omega) with e | e | e | e <;> (subst e; subst hb; first | exact absurd c_6_ (by decide) | exact absurd c_14_ (by decide) | exact absurd c_15_ (by decide) | exact absurd c_19_ (by decide) | exact absurd c_20_ (by decide) | (unfold odX; first | (rw [if_pos (by assumption)]; decide) | (rw [if_neg (by assumption)]; decide)))
                    · skip
                      refine j_iconst (v := 1) C dX11_odds_127 (by decide) ?_
                      refine j_goto (tgt := 132) C dX11_odds_128 (by decide) ?_
                      refine j_istore (lv2 := [(9, .int (1)), (8, .int (1)), (7, .int (0)), (0, .ref (ad (55))), (1, .int (z0)), (3, .int (z2)), (4, .ref (ad (56 + j_1_))), (5, .ref (ad (0 + 2 + 3 * j_2_))), (6, .int (b))]) C dX11_odds_132 hl (by decide) rfl (fun ls hl => ?_)
                      refine j_iload_n C dX11_odds_134 rfl (lv_at hl 5 rfl) ?_
                      refine j_if_ne (tgt := 144) C dX11_odds_135 (by decide) (fun c_21_ => ?_) (fun c_21_ => ?_)
                      · skip
                        refine j_iload C dX11_odds_144 (lv_at hl 0 rfl) ?_
                        refine j_i2l C dX11_odds_146 rfl ?_
                        refine j_lret C ⟨rfl, _, rfl, ?_⟩ dX11_odds_147
                        obtain ⟨hin1, hcl1⟩ := inz ej1 hj1 (by omega)
                        obtain ⟨hin2, hcl2⟩ := inz ej2 hj2 (by omega)
                        refine ⟨hE, ?_⟩
                        rw [if_pos hin1, if_pos hin2, if_pos hw9, hcl1, hcl2]
                        have hn8 := cntP_le (fun s_8_ => hdP V rr j_1_ j_2_ (rch (kdI (tk j_1_)) (V (56 + j_1_) 1) + (nI s_8_ - 1))) 3
                        generalize cntP (fun s_8_ => hdP V rr j_1_ j_2_ (rch (kdI (tk j_1_)) (V (56 + j_1_) 1) + (nI s_8_ - 1))) 3 = n_8_ at hb hn8 ⊢
                        rcases (show n_8_ = 0 ∨ n_8_ = 1 ∨ n_8_ = 2 ∨ n_8_ = 3 by omega) with e | e | e | e <;> (subst e; subst hb; first | exact absurd c_6_ (by decide) | exact absurd c_14_ (by decide) | exact absurd c_15_ (by decide) | exact absurd c_19_ (by decide) | exact absurd c_21_ (by decide) | (unfold odX; first | (rw [if_pos (by assumption)]; decide) | (rw [if_neg (by assumption)]; decide)))
                      · skip
                        refine j_iload C dX11_odds_138 (lv_at hl 1 rfl) ?_
                        refine j_i2l C dX11_odds_140 rfl ?_
                        refine j_goto (tgt := 147) C dX11_odds_141 (by decide) ?_
                        refine j_lret C ⟨rfl, _, rfl, ?_⟩ dX11_odds_147
                        obtain ⟨hin1, hcl1⟩ := inz ej1 hj1 (by omega)
                        obtain ⟨hin2, hcl2⟩ := inz ej2 hj2 (by omega)
                        refine ⟨hE, ?_⟩
                        rw [if_pos hin1, if_pos hin2, if_pos hw9, hcl1, hcl2]
                        have hn8 := cntP_le (fun s_8_ => hdP V rr j_1_ j_2_ (rch (kdI (tk j_1_)) (V (56 + j_1_) 1) + (nI s_8_ - 1))) 3
                        generalize cntP (fun s_8_ => hdP V rr j_1_ j_2_ (rch (kdI (tk j_1_)) (V (56 + j_1_) 1) + (nI s_8_ - 1))) 3 = n_8_ at hb hn8 ⊢
                        rcases (show n_8_ = 0 ∨ n_8_ = 1 ∨ n_8_ = 2 ∨ n_8_ = 3 by omega) with e | e | e | e <;> (subst e; subst hb; first | exact absurd c_6_ (by decide) | exact absurd c_14_ (by decide) | exact absurd c_15_ (by decide) | exact absurd c_19_ (by decide) | exact absurd c_21_ (by decide) | (unfold odX; first | (rw [if_pos (by assumption)]; decide) | (rw [if_neg (by assumption)]; decide)))
                · skip
                  refine j_iconst (v := 1) C dX11_odds_101 (by decide) ?_
                  refine j_goto (tgt := 106) C dX11_odds_102 (by decide) ?_
                  refine j_istore (lv2 := [(7, .int (1)), (0, .ref (ad (55))), (1, .int (z0)), (3, .int (z2)), (4, .ref (ad (56 + j_1_))), (5, .ref (ad (0 + 2 + 3 * j_2_))), (6, .int (b))]) C dX11_odds_106 hl (by decide) rfl (fun ls hl => ?_)
                  refine j_iload C dX11_odds_108 (lv_at hl 6 rfl) ?_
                  refine j_iconst (v := 3) C dX11_odds_110 (by decide) ?_
                  refine j_icmp_ne (tgt := 118) C dX11_odds_111 (by decide) (fun c_22_ => ?_) (fun c_22_ => ?_)
                  · skip
                    refine j_iload C dX11_odds_118 (lv_at hl 6 rfl) ?_
                    refine j_istore (lv2 := [(8, .int (b)), (7, .int (1)), (0, .ref (ad (55))), (1, .int (z0)), (3, .int (z2)), (4, .ref (ad (56 + j_1_))), (5, .ref (ad (0 + 2 + 3 * j_2_))), (6, .int (b))]) C dX11_odds_120 hl (by decide) rfl (fun ls hl => ?_)
                    refine j_iload C dX11_odds_122 (lv_at hl 1 rfl) ?_
                    refine j_if_eq (tgt := 131) C dX11_odds_124 (by decide) (fun c_23_ => ?_) (fun c_23_ => ?_)
                    · skip
                      refine j_iconst (v := 3) C dX11_odds_131 (by decide) ?_
                      refine j_istore (lv2 := [(9, .int (3)), (8, .int (b)), (7, .int (1)), (0, .ref (ad (55))), (1, .int (z0)), (3, .int (z2)), (4, .ref (ad (56 + j_1_))), (5, .ref (ad (0 + 2 + 3 * j_2_))), (6, .int (b))]) C dX11_odds_132 hl (by decide) rfl (fun ls hl => ?_)
                      refine j_iload_n C dX11_odds_134 rfl (lv_at hl 5 rfl) ?_
                      refine j_if_ne (tgt := 144) C dX11_odds_135 (by decide) (fun c_24_ => ?_) (fun c_24_ => ?_)
                      · skip
                        refine j_iload C dX11_odds_144 (lv_at hl 0 rfl) ?_
                        refine j_i2l C dX11_odds_146 rfl ?_
                        refine j_lret C ⟨rfl, _, rfl, ?_⟩ dX11_odds_147
                        obtain ⟨hin1, hcl1⟩ := inz ej1 hj1 (by omega)
                        obtain ⟨hin2, hcl2⟩ := inz ej2 hj2 (by omega)
                        refine ⟨hE, ?_⟩
                        rw [if_pos hin1, if_pos hin2, if_pos hw9, hcl1, hcl2]
                        have hn8 := cntP_le (fun s_8_ => hdP V rr j_1_ j_2_ (rch (kdI (tk j_1_)) (V (56 + j_1_) 1) + (nI s_8_ - 1))) 3
                        generalize cntP (fun s_8_ => hdP V rr j_1_ j_2_ (rch (kdI (tk j_1_)) (V (56 + j_1_) 1) + (nI s_8_ - 1))) 3 = n_8_ at hb hn8 ⊢
                        rcases (show n_8_ = 0 ∨ n_8_ = 1 ∨ n_8_ = 2 ∨ n_8_ = 3 by omega) with e | e | e | e <;> (subst e; subst hb; first | exact absurd c_6_ (by decide) | exact absurd c_14_ (by decide) | exact absurd c_22_ (by decide) | exact absurd c_23_ (by decide) | exact absurd c_24_ (by decide) | (unfold odX; first | (rw [if_pos (by assumption)]; decide) | (rw [if_neg (by assumption)]; decide)))
                      · skip
                        refine j_iload C dX11_odds_138 (lv_at hl 1 rfl) ?_
                        refine j_i2l C dX11_odds_140 rfl ?_
                        refine j_goto (tgt := 147) C dX11_odds_141 (by decide) ?_
                        refine j_lret C ⟨rfl, _, rfl, ?_⟩ dX11_odds_147
                        obtain ⟨hin1, hcl1⟩ := inz ej1 hj1 (by omega)
                        obtain ⟨hin2, hcl2⟩ := inz ej2 hj2 (by omega)
                        refine ⟨hE, ?_⟩
                        rw [if_pos hin1, if_pos hin2, if_pos hw9, hcl1, hcl2]
                        have hn8 := cntP_le (fun s_8_ => hdP V rr j_1_ j_2_ (rch (kdI (tk j_1_)) (V (56 + j_1_) 1) + (nI s_8_ - 1))) 3
                        generalize cntP (fun s_8_ => hdP V rr j_1_ j_2_ (rch (kdI (tk j_1_)) (V (56 + j_1_) 1) + (nI s_8_ - 1))) 3 = n_8_ at hb hn8 ⊢
                        rcases (show n_8_ = 0 ∨ n_8_ = 1 ∨ n_8_ = 2 ∨ n_8_ = 3 by omega) with e | e | e | e <;> (subst e; subst hb; first | exact absurd c_6_ (by decide) | exact absurd c_14_ (by decide) | exact absurd c_22_ (by decide) | exact absurd c_23_ (by decide) | exact absurd c_24_ (by decide) | (unfold odX; first | (rw [if_pos (by assumption)]; decide) | (rw [if_neg (by assumption)]; decide)))
                    · skip
                      refine j_iconst (v := 1) C dX11_odds_127 (by decide) ?_
                      refine j_goto (tgt := 132) C dX11_odds_128 (by decide) ?_
                      refine j_istore (lv2 := [(9, .int (1)), (8, .int (b)), (7, .int (1)), (0, .ref (ad (55))), (1, .int (z0)), (3, .int (z2)), (4, .ref (ad (56 + j_1_))), (5, .ref (ad (0 + 2 + 3 * j_2_))), (6, .int (b))]) C dX11_odds_132 hl (by decide) rfl (fun ls hl => ?_)
                      refine j_iload_n C dX11_odds_134 rfl (lv_at hl 5 rfl) ?_
                      refine j_if_ne (tgt := 144) C dX11_odds_135 (by decide) (fun c_25_ => ?_) (fun c_25_ => ?_)
                      · skip
                        refine j_iload C dX11_odds_144 (lv_at hl 0 rfl) ?_
                        refine j_i2l C dX11_odds_146 rfl ?_
                        refine j_lret C ⟨rfl, _, rfl, ?_⟩ dX11_odds_147
                        obtain ⟨hin1, hcl1⟩ := inz ej1 hj1 (by omega)
                        obtain ⟨hin2, hcl2⟩ := inz ej2 hj2 (by omega)
                        refine ⟨hE, ?_⟩
                        rw [if_pos hin1, if_pos hin2, if_pos hw9, hcl1, hcl2]
                        have hn8 := cntP_le (fun s_8_ => hdP V rr j_1_ j_2_ (rch (kdI (tk j_1_)) (V (56 + j_1_) 1) + (nI s_8_ - 1))) 3
                        generalize cntP (fun s_8_ => hdP V rr j_1_ j_2_ (rch (kdI (tk j_1_)) (V (56 + j_1_) 1) + (nI s_8_ - 1))) 3 = n_8_ at hb hn8 ⊢
                        rcases (show n_8_ = 0 ∨ n_8_ = 1 ∨ n_8_ = 2 ∨ n_8_ = 3 by omega) with e | e | e | e <;> (subst e; subst hb; first | exact absurd c_6_ (by decide) | exact absurd c_14_ (by decide) | exact absurd c_22_ (by decide) | exact absurd c_23_ (by decide) | exact absurd c_25_ (by decide) | (unfold odX; first | (rw [if_pos (by assumption)]; decide) | (rw [if_neg (by assumption)]; decide)))
                      · skip
                        refine j_iload C dX11_odds_138 (lv_at hl 1 rfl) ?_
                        refine j_i2l C dX11_odds_140 rfl ?_
                        refine j_goto (tgt := 147) C dX11_odds_141 (by decide) ?_
                        refine j_lret C ⟨rfl, _, rfl, ?_⟩ dX11_odds_147
                        obtain ⟨hin1, hcl1⟩ := inz ej1 hj1 (by omega)
                        obtain ⟨hin2, hcl2⟩ := inz ej2 hj2 (by omega)
                        refine ⟨hE, ?_⟩
                        rw [if_pos hin1, if_pos hin2, if_pos hw9, hcl1, hcl2]
                        have hn8 := cntP_le (fun s_8_ => hdP V rr j_1_ j_2_ (rch (kdI (tk j_1_)) (V (56 + j_1_) 1) + (nI s_8_ - 1))) 3
                        generalize cntP (fun s_8_ => hdP V rr j_1_ j_2_ (rch (kdI (tk j_1_)) (V (56 + j_1_) 1) + (nI s_8_ - 1))) 3 = n_8_ at hb hn8 ⊢
                        rcases (show n_8_ = 0 ∨ n_8_ = 1 ∨ n_8_ = 2 ∨ n_8_ = 3 by omega) with e | e | e | e <;> (subst e; subst hb; first | exact absurd c_6_ (by decide) | exact absurd c_14_ (by decide) | exact absurd c_22_ (by decide) | exact absurd c_23_ (by decide) | exact absurd c_25_ (by decide) | (unfold odX; first | (rw [if_pos (by assumption)]; decide) | (rw [if_neg (by assumption)]; decide)))
                  · skip
                    refine j_iconst (v := 1) C dX11_odds_114 (by decide) ?_
                    refine j_goto (tgt := 120) C dX11_odds_115 (by decide) ?_
                    refine j_istore (lv2 := [(8, .int (1)), (7, .int (1)), (0, .ref (ad (55))), (1, .int (z0)), (3, .int (z2)), (4, .ref (ad (56 + j_1_))), (5, .ref (ad (0 + 2 + 3 * j_2_))), (6, .int (b))]) C dX11_odds_120 hl (by decide) rfl (fun ls hl => ?_)
                    refine j_iload C dX11_odds_122 (lv_at hl 1 rfl) ?_
                    refine j_if_eq (tgt := 131) C dX11_odds_124 (by decide) (fun c_26_ => ?_) (fun c_26_ => ?_)
                    · skip
                      refine j_iconst (v := 3) C dX11_odds_131 (by decide) ?_
                      refine j_istore (lv2 := [(9, .int (3)), (8, .int (1)), (7, .int (1)), (0, .ref (ad (55))), (1, .int (z0)), (3, .int (z2)), (4, .ref (ad (56 + j_1_))), (5, .ref (ad (0 + 2 + 3 * j_2_))), (6, .int (b))]) C dX11_odds_132 hl (by decide) rfl (fun ls hl => ?_)
                      refine j_iload_n C dX11_odds_134 rfl (lv_at hl 5 rfl) ?_
                      refine j_if_ne (tgt := 144) C dX11_odds_135 (by decide) (fun c_27_ => ?_) (fun c_27_ => ?_)
                      · skip
                        refine j_iload C dX11_odds_144 (lv_at hl 0 rfl) ?_
                        refine j_i2l C dX11_odds_146 rfl ?_
                        refine j_lret C ⟨rfl, _, rfl, ?_⟩ dX11_odds_147
                        obtain ⟨hin1, hcl1⟩ := inz ej1 hj1 (by omega)
                        obtain ⟨hin2, hcl2⟩ := inz ej2 hj2 (by omega)
                        refine ⟨hE, ?_⟩
                        rw [if_pos hin1, if_pos hin2, if_pos hw9, hcl1, hcl2]
                        have hn8 := cntP_le (fun s_8_ => hdP V rr j_1_ j_2_ (rch (kdI (tk j_1_)) (V (56 + j_1_) 1) + (nI s_8_ - 1))) 3
                        generalize cntP (fun s_8_ => hdP V rr j_1_ j_2_ (rch (kdI (tk j_1_)) (V (56 + j_1_) 1) + (nI s_8_ - 1))) 3 = n_8_ at hb hn8 ⊢
                        rcases (show n_8_ = 0 ∨ n_8_ = 1 ∨ n_8_ = 2 ∨ n_8_ = 3 by omega) with e | e | e | e <;> (subst e; subst hb; first | exact absurd c_6_ (by decide) | exact absurd c_14_ (by decide) | exact absurd c_22_ (by decide) | exact absurd c_26_ (by decide) | exact absurd c_27_ (by decide) | (unfold odX; first | (rw [if_pos (by assumption)]; decide) | (rw [if_neg (by assumption)]; decide)))
                      · skip
                        refine j_iload C dX11_odds_138 (lv_at hl 1 rfl) ?_
                        refine j_i2l C dX11_odds_140 rfl ?_
                        refine j_goto (tgt := 147) C dX11_odds_141 (by decide) ?_
                        refine j_lret C ⟨rfl, _, rfl, ?_⟩ dX11_odds_147
                        obtain ⟨hin1, hcl1⟩ := inz ej1 hj1 (by omega)
                        obtain ⟨hin2, hcl2⟩ := inz ej2 hj2 (by omega)
                        refine ⟨hE, ?_⟩
                        rw [if_pos hin1, if_pos hin2, if_pos hw9, hcl1, hcl2]
                        have hn8 := cntP_le (fun s_8_ => hdP V rr j_1_ j_2_ (rch (kdI (tk j_1_)) (V (56 + j_1_) 1) + (nI s_8_ - 1))) 3
                        generalize cntP (fun s_8_ => hdP V rr j_1_ j_2_ (rch (kdI (tk j_1_)) (V (56 + j_1_) 1) + (nI s_8_ - 1))) 3 = n_8_ at hb hn8 ⊢
                        rcases (show n_8_ = 0 ∨ n_8_ = 1 ∨ n_8_ = 2 ∨ n_8_ = 3 by omega) with e | e | e | e <;> (subst e; subst hb; first | exact absurd c_6_ (by decide) | exact absurd c_14_ (by decide) | exact absurd c_22_ (by decide) | exact absurd c_26_ (by decide) | exact absurd c_27_ (by decide) | (unfold odX; first | (rw [if_pos (by assumption)]; decide) | (rw [if_neg (by assumption)]; decide)))
                    · skip
                      refine j_iconst (v := 1) C dX11_odds_127 (by decide) ?_
                      refine j_goto (tgt := 132) C dX11_odds_128 (by decide) ?_
                      refine j_istore (lv2 := [(9, .int (1)), (8, .int (1)), (7, .int (1)), (0, .ref (ad (55))), (1, .int (z0)), (3, .int (z2)), (4, .ref (ad (56 + j_1_))), (5, .ref (ad (0 + 2 + 3 * j_2_))), (6, .int (b))]) C dX11_odds_132 hl (by decide) rfl (fun ls hl => ?_)
                      refine j_iload_n C dX11_odds_134 rfl (lv_at hl 5 rfl) ?_
                      refine j_if_ne (tgt := 144) C dX11_odds_135 (by decide) (fun c_28_ => ?_) (fun c_28_ => ?_)
                      · skip
                        refine j_iload C dX11_odds_144 (lv_at hl 0 rfl) ?_
                        refine j_i2l C dX11_odds_146 rfl ?_
                        refine j_lret C ⟨rfl, _, rfl, ?_⟩ dX11_odds_147
                        obtain ⟨hin1, hcl1⟩ := inz ej1 hj1 (by omega)
                        obtain ⟨hin2, hcl2⟩ := inz ej2 hj2 (by omega)
                        refine ⟨hE, ?_⟩
                        rw [if_pos hin1, if_pos hin2, if_pos hw9, hcl1, hcl2]
                        have hn8 := cntP_le (fun s_8_ => hdP V rr j_1_ j_2_ (rch (kdI (tk j_1_)) (V (56 + j_1_) 1) + (nI s_8_ - 1))) 3
                        generalize cntP (fun s_8_ => hdP V rr j_1_ j_2_ (rch (kdI (tk j_1_)) (V (56 + j_1_) 1) + (nI s_8_ - 1))) 3 = n_8_ at hb hn8 ⊢
                        rcases (show n_8_ = 0 ∨ n_8_ = 1 ∨ n_8_ = 2 ∨ n_8_ = 3 by omega) with e | e | e | e <;> (subst e; subst hb; first | exact absurd c_6_ (by decide) | exact absurd c_14_ (by decide) | exact absurd c_22_ (by decide) | exact absurd c_26_ (by decide) | exact absurd c_28_ (by decide) | (unfold odX; first | (rw [if_pos (by assumption)]; decide) | (rw [if_neg (by assumption)]; decide)))
                      · skip
                        refine j_iload C dX11_odds_138 (lv_at hl 1 rfl) ?_
                        refine j_i2l C dX11_odds_140 rfl ?_
                        refine j_goto (tgt := 147) C dX11_odds_141 (by decide) ?_
                        refine j_lret C ⟨rfl, _, rfl, ?_⟩ dX11_odds_147
                        obtain ⟨hin1, hcl1⟩ := inz ej1 hj1 (by omega)
                        obtain ⟨hin2, hcl2⟩ := inz ej2 hj2 (by omega)
                        refine ⟨hE, ?_⟩
                        rw [if_pos hin1, if_pos hin2, if_pos hw9, hcl1, hcl2]
                        have hn8 := cntP_le (fun s_8_ => hdP V rr j_1_ j_2_ (rch (kdI (tk j_1_)) (V (56 + j_1_) 1) + (nI s_8_ - 1))) 3
                        generalize cntP (fun s_8_ => hdP V rr j_1_ j_2_ (rch (kdI (tk j_1_)) (V (56 + j_1_) 1) + (nI s_8_ - 1))) 3 = n_8_ at hb hn8 ⊢
                        rcases (show n_8_ = 0 ∨ n_8_ = 1 ∨ n_8_ = 2 ∨ n_8_ = 3 by omega) with e | e | e | e <;> (subst e; subst hb; first | exact absurd c_6_ (by decide) | exact absurd c_14_ (by decide) | exact absurd c_22_ (by decide) | exact absurd c_26_ (by decide) | exact absurd c_28_ (by decide) | (unfold odX; first | (rw [if_pos (by assumption)]; decide) | (rw [if_neg (by assumption)]; decide)))
            · have n_5_ := Int32.not_lt.mp c_5_
              have hlt : sn < 3 := by
                rcases (show sn = 0 ∨ sn = 1 ∨ sn = 2 ∨ sn = 3 by omega) with e | e | e | e
                · omega
                · omega
                · omega
                · rw [hz, e] at c_5_; exact absurd (by decide) c_5_
              have hXi := XI_gb hE hX
              refine j_aload C dX11_odds_52 (lv_at hl 4 rfl) ?_
              refine j_iload_n C dX11_odds_54 rfl (lv_at hl 1 rfl) ?_
              refine j_aload C dX11_odds_55 (lv_at hl 4 rfl) ?_
              refine j_aload C dX11_odds_57 (lv_at hl 3 rfl) ?_
              refine j_callT (k := 56 + j_1_) C [] [.ref (ad (0 + 2 + 3 * j_2_)), .int (z0), .ref (ad (0 + 2 + 3 * j_2_))] (k_X6_reach l ad tk nt Vi j_1_ hj1 (XI_T hX hj1) ) v_RX11_134 o_RX11_134_3 o_RX11_134_8 rfl (xt hj1) (xT (XI_T hX hj1)) ⟨rfl, rfl, Nat.le_of_ble_eq_true rfl, Nat.le_of_ble_eq_true rfl⟩ rfl hl.1 rfl (Nat.le_of_ble_eq_true rfl) ⟨Nat.le_of_ble_eq_true rfl, Nat.le_of_ble_eq_true rfl⟩ dX11_odds_59 (kI fun x_29_ U29 h_29_ => ?_)
              obtain ⟨eU29, h_29_⟩ := h_29_
              have eU29 := eU29.symm
              subst eU29
              refine j_iload C dX11_odds_62 (lv_at hl 6 rfl) ?_
              refine j_iadd C dX11_odds_64 ?_
              refine j_aload_n C dX11_odds_65 rfl (lv_at hl 0 rfl) ?_
              refine j_getR (k := 55) (k2 := 0) C (f_RX11_12_11) (xl (by decide)) (rfl) (rfl) dX11_odds_66 ?_
              refine j_getI (k := 0) C (f_RX11_147_0) (xl (xC (tk := tk) (nt := nt) (k := 0) (Or.inl rfl)).1.1) ((xC (tk := tk) (nt := nt) (k := 0) (Or.inl rfl)).2.1) dX11_odds_69 ?_
              refine j_callV (k := 0 + 2 + 3 * j_2_) C [.int (x_29_ + z), .int (Vi 0 0)] [.int (z0), .ref (ad (0 + 2 + 3 * j_2_))] (k_X2_nearness l ad tk nt Vi (0 + 2 + 3 * j_2_) (xCg (nt := nt) (Or.inl rfl) (by omega : j_2_ < 4)).1 (x_29_ + z) (Vi 0 0) ) v_RX11_150 (xl (xG (tk := tk) (nt := nt) (xCg (nt := nt) (Or.inl rfl) (by omega : j_2_ < 4)).1).1.1) ((xG (tk := tk) (nt := nt) (xCg (nt := nt) (Or.inl rfl) (by omega : j_2_ < 4)).1).2.1) rfl ⟨rfl, rfl, Nat.le_of_ble_eq_true rfl, Nat.le_of_ble_eq_true rfl⟩ rfl hl.1 rfl (Nat.le_of_ble_eq_true rfl) ⟨Nat.le_of_ble_eq_true rfl, Nat.le_of_ble_eq_true rfl⟩ dX11_odds_72 (kI fun x_30_ U30 h_30_ => ?_)
              obtain ⟨eU30, h_30_⟩ := h_30_
              have eU30 := eU30.symm
              subst eU30
              refine j_callV (k := 0 + 2 + 3 * j_2_) C [.int (z0), .int (x_30_)] [] (k_X2_isHadBy l ad tk nt Vi (0 + 2 + 3 * j_2_) (xCg (nt := nt) (Or.inl rfl) (by omega : j_2_ < 4)).1 (rr j_2_) (hXi.1.2.2 j_2_ hj2).1 (hXi.1.2.2 j_2_ hj2).2 (z0) (x_30_)) v_RX11_224 (xl (xG (tk := tk) (nt := nt) (xCg (nt := nt) (Or.inl rfl) (by omega : j_2_ < 4)).1).1.1) ((xG (tk := tk) (nt := nt) (xCg (nt := nt) (Or.inl rfl) (by omega : j_2_ < 4)).1).2.1) rfl ⟨rfl, rfl, Nat.le_of_ble_eq_true rfl, Nat.le_of_ble_eq_true rfl⟩ rfl hl.1 rfl (Nat.le_of_ble_eq_true rfl) ⟨Nat.le_of_ble_eq_true rfl, Nat.le_of_ble_eq_true rfl⟩ dX11_odds_75 (kI fun x_31_ U31 h_31_ => ?_)
              obtain ⟨eU31, h_31_⟩ := h_31_
              have hd9 : x_31_ = 0 ↔ ¬ hdP V rr j_1_ j_2_ (rch (kdI (tk j_1_)) (V (56 + j_1_) 1) + (nI sn - 1)) := by
                rw [h_31_, bI_0, ← hdP_gb hE]
                unfold hdP
                rw [h_30_, h_29_, ej1, hz, hE.row (a := 56 + j_1_) (fun g2 _ => by omega)]
              have hE2 := hE.tr (gbE_had hj2 eU31)
              refine j_if_eq (tgt := 84) C dX11_odds_78 (by decide) (fun c_32_ => ?_) (fun c_32_ => ?_)
              · skip
                refine j_iinc (v := z + 1) (lv2 := [(7, .int (z + 1)), (0, .ref (ad (55))), (1, .int (z0)), (3, .int (z2)), (4, .ref (ad (56 + j_1_))), (5, .ref (ad (0 + 2 + 3 * j_2_))), (6, .int (b))]) C dX11_odds_84 hl (k0 := 6) rfl rfl (by decide) rfl (fun ls hl => ?_)
                refine j_goto (tgt := 46) C dX11_odds_87 (by decide) ?_
                exact ih_loop (sn + 1) U31 (b) (z + 1) (by omega) hE2 (by rw [cntP_n (hd9.mp c_32_)]; exact hb) (by rw [hz, nI_pred, Int32.sub_add_cancel]) (by omega) ls (lv_sub hl [1, 2, 3, 4, 5, 6, 0] rfl)
              · skip
                refine j_iinc (v := b + 1) (lv2 := [(6, .int (b + 1)), (0, .ref (ad (55))), (1, .int (z0)), (3, .int (z2)), (4, .ref (ad (56 + j_1_))), (5, .ref (ad (0 + 2 + 3 * j_2_))), (7, .int (z))]) C dX11_odds_81 hl (k0 := 5) rfl rfl (by decide) rfl (fun ls hl => ?_)
                refine j_iinc (v := z + 1) (lv2 := [(7, .int (z + 1)), (6, .int (b + 1)), (0, .ref (ad (55))), (1, .int (z0)), (3, .int (z2)), (4, .ref (ad (56 + j_1_))), (5, .ref (ad (0 + 2 + 3 * j_2_)))]) C dX11_odds_84 hl (k0 := 6) rfl rfl (by decide) rfl (fun ls hl => ?_)
                refine j_goto (tgt := 46) C dX11_odds_87 (by decide) ?_
                exact ih_loop (sn + 1) U31 (b + 1) (z + 1) (by omega) hE2 (by rw [cntP_y (Classical.byContradiction (fun q => c_32_ (hd9.mpr q))), hb, nI_1]) (by rw [hz, nI_pred, Int32.sub_add_cancel]) (by omega) ls (lv_sub hl [2, 3, 4, 5, 6, 1, 0] rfl)
        exact loop 4 0 V 0 (-1) (by omega) gbE.rf rfl (by decide) (by omega) ls (lv_sub hl [4, 5, 7, 3, 2, 1, 0] rfl)
      · skip
        have b4 := bI_0.mp (h_3_ ▸ c_4_)
        refine j_ldc2 C wj_RX11_222 dX11_odds_36 ?_
        refine j_lret C ⟨rfl, _, rfl, ?_⟩ dX11_odds_39
        obtain ⟨hin1, hcl1⟩ := inz ej1 hj1 (by omega)
        obtain ⟨hin2, hcl2⟩ := inz ej2 hj2 (by omega)
        refine ⟨gbE.rf, ?_⟩
        simp only [if_pos hin1, if_pos hin2, if_neg b4]
    · subst ev2
      refine j_astoreN (lv2 := [(5, .null), (4, .ref (ad (56 + j_1_))), (0, .ref (ad (55))), (1, .int (z0)), (2, .int (z1)), (3, .int (z2))]) C dX11_odds_15 hl (by decide) rfl (fun ls hl => ?_)
      refine j_aload C dX11_odds_17 (lv_at hl 1 rfl) ?_
      refine j_ifnull C dX11_odds_19 ?_
      refine j_aloadN C dX11_odds_22 (lv_at hl 0 rfl) ?_
      refine j_ifnullN (tgt := 36) C dX11_odds_24 (by decide) ?_
      refine j_ldc2 C wj_RX11_222 dX11_odds_36 ?_
      refine j_lret C ⟨rfl, _, rfl, ?_⟩ dX11_odds_39
      obtain ⟨hin1, hcl1⟩ := inz ej1 hj1 (by omega)
      have hot2 := outR ho2
      refine ⟨gbE.rf, ?_⟩
      simp only [if_pos hin1, if_neg hot2]
  · subst ev1
    refine j_astoreN (lv2 := [(4, .null), (0, .ref (ad (55))), (1, .int (z0)), (2, .int (z1)), (3, .int (z2))]) C dX11_odds_5 hl (by decide) rfl (fun ls hl => ?_)
    refine j_aload_n C dX11_odds_7 rfl (lv_at hl 1 rfl) ?_
    refine j_getR (k := 55) (k2 := 0) C (f_RX11_12_11) (xl (by decide)) (rfl) (rfl) dX11_odds_8 ?_
    refine j_iload_n C dX11_odds_11 rfl (lv_at hl 3 rfl) ?_
    refine j_callV (k := 0) C [.int (z1)] [] (k_X0_girlAt l ad tk nt V 0 (Or.inl rfl) ng hX.1.1 hX.1.2.1 (z1)) v_RX11_99 (xl (xC (tk := tk) (nt := nt) (k := 0) (Or.inl rfl)).1.1) ((xC (tk := tk) (nt := nt) (k := 0) (Or.inl rfl)).2.1) rfl ⟨rfl, rfl, Nat.le_of_ble_eq_true rfl, Nat.le_of_ble_eq_true rfl⟩ rfl hl.1 rfl (Nat.le_of_ble_eq_true rfl) ⟨Nat.le_of_ble_eq_true rfl, Nat.le_of_ble_eq_true rfl⟩ dX11_odds_12 (kA fun x_33_ U33 h_33_ => ?_)
    obtain ⟨eU33, h_33_⟩ := h_33_
    have eU33 := eU33.symm
    subst eU33
    rcases h_33_ with ⟨j_33_, hj33, ej33, ev33⟩ | ⟨ho33, ev33⟩
    · subst ev33
      refine j_astore (lv2 := [(5, .ref (ad (0 + 2 + 3 * j_33_))), (4, .null), (0, .ref (ad (55))), (1, .int (z0)), (2, .int (z1)), (3, .int (z2))]) C dX11_odds_15 hl (by decide) rfl (fun ls hl => ?_)
      refine j_aloadN C dX11_odds_17 (lv_at hl 1 rfl) ?_
      refine j_ifnullN (tgt := 36) C dX11_odds_19 (by decide) ?_
      refine j_ldc2 C wj_RX11_222 dX11_odds_36 ?_
      refine j_lret C ⟨rfl, _, rfl, ?_⟩ dX11_odds_39
      have hot1 := outR ho1
      obtain ⟨hin33, hcl33⟩ := inz ej33 hj33 (by omega)
      refine ⟨gbE.rf, ?_⟩
      simp only [if_neg hot1, if_pos hin33]
    · subst ev33
      refine j_astoreN (lv2 := [(5, .null), (4, .null), (0, .ref (ad (55))), (1, .int (z0)), (2, .int (z1)), (3, .int (z2))]) C dX11_odds_15 hl (by decide) rfl (fun ls hl => ?_)
      refine j_aloadN C dX11_odds_17 (lv_at hl 1 rfl) ?_
      refine j_ifnullN (tgt := 36) C dX11_odds_19 (by decide) ?_
      refine j_ldc2 C wj_RX11_222 dX11_odds_36 ?_
      refine j_lret C ⟨rfl, _, rfl, ?_⟩ dX11_odds_39
      have hot1 := outR ho1
      have hot33 := outR ho33
      refine ⟨gbE.rf, ?_⟩
      simp only [if_neg hot1, if_neg hot33]
