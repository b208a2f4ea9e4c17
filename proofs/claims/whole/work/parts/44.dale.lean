theorem k_ff2 (l : Launch) (ad tk : Nat → Nat) (nt : Nat) (V : Vt) (k : Nat) (hg : isH k) (za zb : Int32) (m9 i n : Nat) (ea : za = nI i) (eb : zb = nI n) (hn : V k 1 = nI m9) (h_60_ : m9 ≤ 60) (hin : i + n ≤ m9) : Ct l yX9_firstFault cX9_firstFault 5 (some .int) rm_X9_firstFault (xS ad tk nt) V [.ref (ad (43)), .ref (ad (k)), .int za, .int zb] (rI fun x V2 => frT V V2 ∧ ((∃ b, auN (au0 V) (fun p => V (k + 1) (i + p)) n = some b ∧ auOk b ∧ auR V2 b ∧ x = if b.1 = 7 then -9 else nI n) ∨ (∃ p b, p < n ∧ auN (au0 V) (fun p => V (k + 1) (i + p)) p = some b ∧ auS b (V (k + 1) (i + p)) = none ∧ x = nI p))) := by
  subst ea eb
  exact k_X9_firstFault l ad tk nt V k hg m9 i n hn h_60_ hin
/-- the fault that the text's row comes to -/
def daF (la z n : Int32) (hc : Bool) : Int32 := if la = -1 then 1 else if la = z then (if n < 0 then 4 else if hc then 0 else 3) else 2
/-- a dale that is told rightly -/
def daY (ad : Nat → Nat) (W : Vt) (c : Nat → Int32) (n : Nat) (x : Int32) (σ2 : Sh) (V2 : Vt) : Prop := ∃ (b : Au) (U : Vt) (ad' : Nat → Nat), auN (au0 W) c n = some b ∧ b.1 = 7 ∧ auOk b ∧ x = nI b.2.2.2.1 ∧ frT W U ∧ auR U b ∧ (∀ j, j < 56 → ad' j = ad j) ∧ σ2 = xS ad' (fun t => knd (b.2.2.2.2.2.2.1 t)) b.2.2.2.1 ∧ V2 = mkV (stL U 0 b.2.2.1 b.2.2.1) b.2.2.2.2.2.2.2 b.2.2.2.1
def daN (W : Vt) (c : Nat → Int32) (n : Nat) (x : Int32) : Prop := (∃ b, auN (au0 W) c n = some b ∧ ¬ b.1 = 7 ∧ x = -100 - nI n) ∨ ∃ p b, p < n ∧ auN (au0 W) c p = some b ∧ auS b (c p) = none ∧ x = -100 - nI p
abbrev rm_X11_dale : Room := { frames := 6, cells := 5, slots := 10, locals := 129 }
set_option maxHeartbeats 4000000 in
set_option maxRecDepth 100000 in
theorem k_X11_dale (l : Launch) (ad tk : Nat → Nat) (nt : Nat) (V : Vt) (ng : Nat) (rr : Nat → Nat) (c_0_ : Nat) (hX : XI tk nt V ng rr c_0_) (z0 z1 z2 z3 : Int32) : CtG l yX11_dale cX11_dale 8 (some .int) rm_X11_dale 5 10 (xS ad tk nt) V [.ref (ad (55)), .int (z0), .int (z1), .int (z2), .int (z3)] (fun r σ2 V2 => ∃ x : Int32, r = some (.int x) ∧ (if ¬ z0 < 0 ∧ z0 < nI 4 then (if 0 ≤ z1 ∧ z1 ≤ 2 then (if daF ((up2 V 55 9 0) (34 + 2 * z0.toNatClampNeg) 0) z1 z3 (decide (0 ≤ z2 ∧ z2 ≤ (up2 V 55 9 0) (34 + 2 * z0.toNatClampNeg) 1 ∧ 0 ≤ z3 ∧ z3 ≤ (up2 V 55 9 0) (34 + 2 * z0.toNatClampNeg) 1 - z2)) = 0 then (daY ad (up2 V 55 9 0) (fun j => (up2 V 55 9 0) ((34 + 2 * z0.toNatClampNeg) + 1) (z2.toNatClampNeg + j)) z3.toNatClampNeg x σ2 V2 ∨ (daN (up2 V 55 9 0) (fun j => (up2 V 55 9 0) ((34 + 2 * z0.toNatClampNeg) + 1) (z2.toNatClampNeg + j)) z3.toNatClampNeg x ∧ σ2 = xS ad tk nt ∧ frT (up2 V 55 9 0) V2)) else (x = -10 - daF ((up2 V 55 9 0) (34 + 2 * z0.toNatClampNeg) 0) z1 z3 (decide (0 ≤ z2 ∧ z2 ≤ (up2 V 55 9 0) (34 + 2 * z0.toNatClampNeg) 1 ∧ 0 ≤ z3 ∧ z3 ≤ (up2 V 55 9 0) (34 + 2 * z0.toNatClampNeg) 1 - z2)) ∧ σ2 = xS ad tk nt ∧ V2 = up2 (up2 V 55 9 0) 55 9 (daF ((up2 V 55 9 0) (34 + 2 * z0.toNatClampNeg) 0) z1 z3 (decide (0 ≤ z2 ∧ z2 ≤ (up2 V 55 9 0) (34 + 2 * z0.toNatClampNeg) 1 ∧ 0 ≤ z3 ∧ z3 ≤ (up2 V 55 9 0) (34 + 2 * z0.toNatClampNeg) 1 - z2))))) else (x = -2 ∧ σ2 = xS ad tk nt ∧ V2 = (up2 V 55 9 0))) else (x = -1 ∧ σ2 = xS ad tk nt ∧ V2 = (up2 V 55 9 0)))) := by
  refine CtG_of (by decide) (Nat.le_of_ble_eq_true rfl) ?_
  intro p e s m below meth c A D cy ls C hl
  have hl : lv_has ls 8 [(0, .ref (ad (55))), (1, .int (z0)), (2, .int (z1)), (3, .int (z2)), (4, .int (z3))] := hl
  have ng4 := hX.1.2.1
  have nt5 := hX.2.2.1
  refine j_aload_n C dX11_dale_0 rfl (lv_at hl 0 rfl) ?_
  refine j_iconst (v := 0) C dX11_dale_1 (by decide) ?_
  refine j_putI (k := 55) C (f_RX11_66_11) p_11_9 (xl (by decide)) (rfl) dX11_dale_2 (fun V1 eV1 => ?_)
  have hX1 : XI tk nt V1 ng rr c_0_ := by rw [eV1]; exact XI_f hX
  refine j_aload_n C dX11_dale_5 rfl (lv_at hl 0 rfl) ?_
  refine j_iload_n C dX11_dale_6 rfl (lv_at hl 1 rfl) ?_
  refine j_callV (k := 55) C [.int (z0)] [] (k_X11_sheetOf l ad tk nt V1  (z0)) v_RX11_70 (xl (by decide)) (rfl) rfl ⟨rfl, rfl, Nat.le_of_ble_eq_true rfl, Nat.le_of_ble_eq_true rfl⟩ rfl hl.1 rfl (Nat.le_of_ble_eq_true rfl) ⟨Nat.le_of_ble_eq_true rfl, Nat.le_of_ble_eq_true rfl⟩ dX11_dale_7 (kA fun x_1_ U1 h_1_ => ?_)
  obtain ⟨eU1, h_1_⟩ := h_1_
  have eU1 := eU1.symm
  subst eU1
  rcases h_1_ with ⟨j_1_, hj1, ej1, ev1⟩ | ⟨ho1, ev1⟩
  · subst ev1
    obtain ⟨n_8_, hn8, en8⟩ := h60_n hX1 hj1
    refine j_astore (lv2 := [(5, .ref (ad (34 + 2 * j_1_))), (0, .ref (ad (55))), (1, .int (z0)), (2, .int (z1)), (3, .int (z2)), (4, .int (z3))]) C dX11_dale_10 hl (by decide) rfl (fun ls hl => ?_)
    refine j_aload C dX11_dale_12 (lv_at hl 0 rfl) ?_
    refine j_ifnonnull (tgt := 19) C dX11_dale_14 (by decide) ?_
    refine j_iload_n C dX11_dale_19 rfl (lv_at hl 3 rfl) ?_
    refine j_callS C [.int (z1)] [] (k_X11_isLane l (xS ad tk nt) V1 (z1)) v_RX11_74 ⟨rfl, rfl, Nat.le_of_ble_eq_true rfl, Nat.le_of_ble_eq_true rfl⟩ rfl hl.1 rfl (Nat.le_of_ble_eq_true rfl) ⟨Nat.le_of_ble_eq_true rfl, Nat.le_of_ble_eq_true rfl⟩ dX11_dale_20 (kI fun x_2_ U2 h_2_ => ?_)
    obtain ⟨eU2, h_2_⟩ := h_2_
    have eU2 := eU2.symm
    subst eU2
    refine j_if_ne (tgt := 29) C dX11_dale_23 (by decide) (fun c_3_ => ?_) (fun c_3_ => ?_)
    · skip
      have b3 := Decidable.not_not.mp (mt bI_0.mpr (h_2_ ▸ c_3_))
      refine j_aload C dX11_dale_29 (lv_at hl 0 rfl) ?_
      refine j_iload_n C dX11_dale_31 rfl (lv_at hl 3 rfl) ?_
      refine j_callV (k := 34 + 2 * j_1_) C [.int (z1)] [] (k_X7_faultAs l ad tk nt V1 (34 + 2 * j_1_) (isH_j hj1)  (z1)) v_RX11_78 (xl (xH (tk := tk) (nt := nt) (isH_j hj1)).1.1) ((xH (tk := tk) (nt := nt) (isH_j hj1)).2.1) rfl ⟨rfl, rfl, Nat.le_of_ble_eq_true rfl, Nat.le_of_ble_eq_true rfl⟩ rfl hl.1 rfl (Nat.le_of_ble_eq_true rfl) ⟨Nat.le_of_ble_eq_true rfl, Nat.le_of_ble_eq_true rfl⟩ dX11_dale_32 (kI fun x_4_ U4 h_4_ => ?_)
      obtain ⟨eU4, h_4_⟩ := h_4_
      have eU4 := eU4.symm
      subst eU4
      skip
      refine j_istore (lv2 := [(6, .int (x_4_)), (5, .ref (ad (34 + 2 * j_1_))), (0, .ref (ad (55))), (1, .int (z0)), (2, .int (z1)), (3, .int (z2)), (4, .int (z3))]) C dX11_dale_35 hl (by decide) rfl (fun ls hl => ?_)
      refine j_iload C dX11_dale_37 (lv_at hl 0 rfl) ?_
      refine j_if_ne (tgt := 50) C dX11_dale_39 (by decide) (fun c_5_ => ?_) (fun c_5_ => ?_)
      · skip
        refine j_iload C dX11_dale_50 (lv_at hl 0 rfl) ?_
        refine j_if_ne (tgt := 69) C dX11_dale_52 (by decide) (fun c_6_ => ?_) (fun c_6_ => ?_)
        · skip
          refine j_iload C dX11_dale_69 (lv_at hl 0 rfl) ?_
          refine j_if_eq (tgt := 81) C dX11_dale_71 (by decide) (fun c_7_ => ?_) (fun c_7_ => ?_)
          · skip
            exact absurd c_7_ c_5_
          · skip
            refine j_aload_n C dX11_dale_74 rfl (lv_at hl 2 rfl) ?_
            refine j_iload C dX11_dale_75 (lv_at hl 0 rfl) ?_
            refine j_callV (k := 55) C [.int (x_4_)] [] (k_X11_comeTo l ad tk nt V1  (x_4_)) v_RX11_86 (xl (by decide)) (rfl) rfl ⟨rfl, rfl, Nat.le_of_ble_eq_true rfl, Nat.le_of_ble_eq_true rfl⟩ rfl hl.1 rfl (Nat.le_of_ble_eq_true rfl) ⟨Nat.le_of_ble_eq_true rfl, Nat.le_of_ble_eq_true rfl⟩ dX11_dale_77 (kI fun x_8_ U8 h_8_ => ?_)
            obtain ⟨eU8, h_8_⟩ := h_8_
            refine j_more (c_2_ := 5) (s_2_ := 10) (by decide) (by decide) ?_
            refine j_iret C ⟨_, rfl, ?_⟩ dX11_dale_80
            simp only [← eV1]
            obtain ⟨hin1, hcl1⟩ := inz ej1 hj1 (by omega)
            have ec : daF (V1 (34 + 2 * j_1_) 0) z1 z3 (decide (0 ≤ z2 ∧ z2 ≤ V1 (34 + 2 * j_1_) 1 ∧ 0 ≤ z3 ∧ z3 ≤ V1 (34 + 2 * j_1_) 1 - z2)) = x_4_ := by
              rw [h_4_]
              unfold daF
              rw [h_4_] at c_5_
              split
              · rfl
              · split
                · rename_i qa qb
                  rw [if_neg qa, if_pos qb] at c_5_
                  exact absurd rfl c_5_
                · rfl
            rw [if_pos hin1, hcl1, if_pos b3, ec, if_neg c_7_]
            exact ⟨h_8_, by trivial, eU8⟩
        · skip
          exact absurd c_6_ c_5_
      · skip
        refine j_iload C dX11_dale_42 (lv_at hl 6 rfl) ?_
        refine j_if_ge (tgt := 50) C dX11_dale_44 (by decide) (fun c_9_ => ?_) (fun c_9_ => ?_)
        · have n_9_ := Int32.not_lt.mpr c_9_
          refine j_iload C dX11_dale_50 (lv_at hl 0 rfl) ?_
          refine j_if_ne (tgt := 69) C dX11_dale_52 (by decide) (fun c_10_ => ?_) (fun c_10_ => ?_)
          · skip
            exact absurd c_5_ c_10_
          · skip
            refine j_aload C dX11_dale_55 (lv_at hl 1 rfl) ?_
            refine j_iload_n C dX11_dale_57 rfl (lv_at hl 5 rfl) ?_
            refine j_iload C dX11_dale_58 (lv_at hl 6 rfl) ?_
            refine j_callV (k := 34 + 2 * j_1_) C [.int (z2), .int (z3)] [] (k_X7_reaches l ad tk nt V1 (34 + 2 * j_1_) (isH_j hj1)  (z2) (z3)) v_RX11_82 (xl (xH (tk := tk) (nt := nt) (isH_j hj1)).1.1) ((xH (tk := tk) (nt := nt) (isH_j hj1)).2.1) rfl ⟨rfl, rfl, Nat.le_of_ble_eq_true rfl, Nat.le_of_ble_eq_true rfl⟩ rfl hl.1 rfl (Nat.le_of_ble_eq_true rfl) ⟨Nat.le_of_ble_eq_true rfl, Nat.le_of_ble_eq_true rfl⟩ dX11_dale_60 (kI fun x_11_ U11 h_11_ => ?_)
            obtain ⟨eU11, h_11_⟩ := h_11_
            have eU11 := eU11.symm
            subst eU11
            refine j_if_ne (tgt := 69) C dX11_dale_63 (by decide) (fun c_12_ => ?_) (fun c_12_ => ?_)
            · skip
              have b12 := Decidable.not_not.mp (mt bI_0.mpr (h_11_ ▸ c_12_))
              obtain ⟨i8, k8, ei8, ek8, hik8⟩ := re60 en8 hn8 b12
              refine j_iload C dX11_dale_69 (lv_at hl 0 rfl) ?_
              refine j_if_eq (tgt := 81) C dX11_dale_71 (by decide) (fun c_13_ => ?_) (fun c_13_ => ?_)
              · skip
                refine j_aload_n C dX11_dale_81 rfl (lv_at hl 2 rfl) ?_
                refine j_getR (k := 55) (k2 := 43) C (f_RX11_47_11) (xl (by decide)) (rfl) (rfl) dX11_dale_82 ?_
                refine j_aload C dX11_dale_85 (lv_at hl 1 rfl) ?_
                refine j_iload_n C dX11_dale_87 rfl (lv_at hl 5 rfl) ?_
                refine j_iload C dX11_dale_88 (lv_at hl 6 rfl) ?_
                refine j_callV (k := 43) C [.ref (ad (34 + 2 * j_1_)), .int (z2), .int (z3)] [] (k_ff2 l ad tk nt V1 (34 + 2 * j_1_) (isH_j hj1) (z2) (z3) n_8_ i8 k8 ei8 ek8 en8 hn8 hik8) v_RX11_89 (xl (by decide)) (rfl) rfl ⟨rfl, rfl, Nat.le_of_ble_eq_true rfl, Nat.le_of_ble_eq_true rfl⟩ rfl hl.1 rfl (Nat.le_of_ble_eq_true rfl) ⟨Nat.le_of_ble_eq_true rfl, Nat.le_of_ble_eq_true rfl⟩ dX11_dale_90 (kI fun x_14_ U14 h_14_ => ?_)
                obtain ⟨eU14, h_14_⟩ := h_14_
                skip
                refine j_istore (lv2 := [(7, .int (x_14_)), (6, .int (x_4_)), (5, .ref (ad (34 + 2 * j_1_))), (0, .ref (ad (55))), (1, .int (z0)), (2, .int (z1)), (3, .int (z2)), (4, .int (z3))]) C dX11_dale_93 hl (by decide) rfl (fun ls hl => ?_)
                refine j_iload C dX11_dale_95 (lv_at hl 0 rfl) ?_
                refine j_bipush (v := (-9)) C dX11_dale_97 (by decide) ?_
                refine j_icmp_eq (tgt := 108) C dX11_dale_99 (by decide) (fun c_15_ => ?_) (fun c_15_ => ?_)
                · skip
                  obtain ⟨b9, hN9, hO9, hR9, ex9⟩ := h_14_.resolve_right (fun ⟨p9, _, hp9, _, _, ex9⟩ => absurd (ex9.symm.trans c_15_) (m9_nI (by omega)))
                  have h_79_ : b9.1 = 7 := by
                    by_cases q : b9.1 = 7
                    · exact q
                    · rw [if_neg q] at ex9
                      exact absurd (ex9.symm.trans c_15_) (m9_nI (by omega))
                  have hfr9 := eU14
                  refine j_aload_n C dX11_dale_108 rfl (lv_at hl 3 rfl) ?_
                  refine j_callV (k := 55) (ci := 11) C [] [] (k_X11_makeAnew l ad tk nt U14 nt5 (fun t ht => XI_T hX1 ht) b9.2.2.1 b9.2.2.2.1 hR9.2.2.1 hO9.2.1 hR9.2.2.2.1 hO9.2.2.1) v_RX11_93 (xl (by decide)) rfl rfl ⟨rfl, rfl, Nat.le_of_ble_eq_true rfl, Nat.le_of_ble_eq_true rfl⟩ rfl hl.1 rfl (Nat.le_of_ble_eq_true rfl) ⟨Nat.le_of_ble_eq_true rfl, Nat.le_of_ble_eq_true rfl⟩ dX11_dale_109 ?_
                  rintro r σ2 V2 ⟨rfl, ad2, hA2, rfl, rfl⟩
                  refine j_aload_n C dX11_dale_112 rfl (lv_at hl 3 rfl) ?_
                  refine j_getIa (N := 56 + b9.2.2.2.1) (kd := xk (fun t => knd (U14 46 t))) (rf := xg b9.2.2.2.1) (ln := xlen) (ad := ad2) (k := 55) C f_RX11_96_11 (by omega) rfl (hA2 55 (by decide)) dX11_dale_113 ?_
                  refine j_iret C ⟨_, rfl, ?_⟩ dX11_dale_116
                  simp only [← eV1]
                  obtain ⟨hin1, hcl1⟩ := inz ej1 hj1 (by omega)
                  have el : ¬ V1 (34 + 2 * j_1_) 0 = -1 ∧ V1 (34 + 2 * j_1_) 0 = z1 := by
                    rw [h_4_] at c_5_
                    split at c_5_
                    · exact absurd c_5_ (by decide)
                    · split at c_5_
                      · exact ⟨by assumption, by assumption⟩
                      · exact absurd c_5_ (by decide)
                  have ec : daF (V1 (34 + 2 * j_1_) 0) z1 z3 (decide (0 ≤ z2 ∧ z2 ≤ V1 (34 + 2 * j_1_) 1 ∧ 0 ≤ z3 ∧ z3 ≤ V1 (34 + 2 * j_1_) 1 - z2)) = 0 := by
                    unfold daF
                    rw [if_neg el.1, if_pos el.2, if_neg (Int32.not_lt.mpr c_9_), if_pos (by simpa using b12)]
                  have e32 : z2.toNatClampNeg = i8 := by rw [ei8, nI_clamp (by omega)]
                  have e33 : z3.toNatClampNeg = k8 := by rw [ek8, nI_clamp (by omega)]
                  rw [if_pos hin1, hcl1, if_pos b3, ec, if_pos rfl, e32, e33]
                  refine Or.inl ⟨b9, U14, ad2, hN9, h_79_, hO9, ?_, hfr9, hR9, hA2, ?_, ?_⟩
                  · show mkV _ _ _ 55 8 = _
                    unfold mkV
                    rw [if_pos (by decide), up2_k _ _ (by decide), up2_s]
                  · rw [hR9.2.2.2.2.2.2.1]
                  · rw [hR9.2.2.2.2.2.2.2]
                · skip
                  refine j_bipush (v := (-100)) C dX11_dale_102 (by decide) ?_
                  refine j_iload C dX11_dale_104 (lv_at hl 0 rfl) ?_
                  refine j_isub C dX11_dale_106 ?_
                  refine j_more (c_2_ := 5) (s_2_ := 10) (by decide) (by decide) ?_
                  refine j_iret C ⟨_, rfl, ?_⟩ dX11_dale_107
                  simp only [← eV1]
                  obtain ⟨hin1, hcl1⟩ := inz ej1 hj1 (by omega)
                  have el : ¬ V1 (34 + 2 * j_1_) 0 = -1 ∧ V1 (34 + 2 * j_1_) 0 = z1 := by
                    rw [h_4_] at c_5_
                    split at c_5_
                    · exact absurd c_5_ (by decide)
                    · split at c_5_
                      · exact ⟨by assumption, by assumption⟩
                      · exact absurd c_5_ (by decide)
                  have ec : daF (V1 (34 + 2 * j_1_) 0) z1 z3 (decide (0 ≤ z2 ∧ z2 ≤ V1 (34 + 2 * j_1_) 1 ∧ 0 ≤ z3 ∧ z3 ≤ V1 (34 + 2 * j_1_) 1 - z2)) = 0 := by
                    unfold daF
                    rw [if_neg el.1, if_pos el.2, if_neg (Int32.not_lt.mpr c_9_), if_pos (by simpa using b12)]
                  have e32 : z2.toNatClampNeg = i8 := by rw [ei8, nI_clamp (by omega)]
                  have e33 : z3.toNatClampNeg = k8 := by rw [ek8, nI_clamp (by omega)]
                  rw [if_pos hin1, hcl1, if_pos b3, ec, if_pos rfl, e32, e33]
                  refine Or.inr ⟨?_, by trivial, eU14⟩
                  rcases h_14_ with ⟨b9, hN9, hO9, hR9, ex9⟩ | ⟨p9, b9, hp9, hN9, hs9, ex9⟩
                  · refine Or.inl ⟨b9, hN9, fun q => c_15_ (by rw [ex9, if_pos q]), ?_⟩
                    rw [ex9, if_neg (fun q => c_15_ (by rw [ex9, if_pos q]))]
                  · exact Or.inr ⟨p9, b9, hp9, hN9, hs9, by rw [ex9]⟩
              · skip
                exact absurd c_5_ c_13_
            · skip
              have b12 := bI_0.mp (h_11_ ▸ c_12_)
              refine j_iconst (v := 3) C dX11_dale_66 (by decide) ?_
              refine j_istore (lv2 := [(6, .int (3)), (5, .ref (ad (34 + 2 * j_1_))), (0, .ref (ad (55))), (1, .int (z0)), (2, .int (z1)), (3, .int (z2)), (4, .int (z3))]) C dX11_dale_67 hl (by decide) rfl (fun ls hl => ?_)
              refine j_iload C dX11_dale_69 (lv_at hl 0 rfl) ?_
              refine j_if_eq (tgt := 81) C dX11_dale_71 (by decide) (fun c_16_ => ?_) (fun c_16_ => ?_)
              · skip
                exact absurd c_16_ (by decide)
              · skip
                refine j_aload_n C dX11_dale_74 rfl (lv_at hl 2 rfl) ?_
                refine j_iload C dX11_dale_75 (lv_at hl 0 rfl) ?_
                refine j_callV (k := 55) C [.int (3)] [] (k_X11_comeTo l ad tk nt V1  (3)) v_RX11_86 (xl (by decide)) (rfl) rfl ⟨rfl, rfl, Nat.le_of_ble_eq_true rfl, Nat.le_of_ble_eq_true rfl⟩ rfl hl.1 rfl (Nat.le_of_ble_eq_true rfl) ⟨Nat.le_of_ble_eq_true rfl, Nat.le_of_ble_eq_true rfl⟩ dX11_dale_77 (kI fun x_17_ U17 h_17_ => ?_)
                obtain ⟨eU17, h_17_⟩ := h_17_
                refine j_more (c_2_ := 5) (s_2_ := 10) (by decide) (by decide) ?_
                refine j_iret C ⟨_, rfl, ?_⟩ dX11_dale_80
                simp only [← eV1]
                obtain ⟨hin1, hcl1⟩ := inz ej1 hj1 (by omega)
                have el : ¬ V1 (34 + 2 * j_1_) 0 = -1 ∧ V1 (34 + 2 * j_1_) 0 = z1 := by
                  rw [h_4_] at c_5_
                  split at c_5_
                  · exact absurd c_5_ (by decide)
                  · split at c_5_
                    · exact ⟨by assumption, by assumption⟩
                    · exact absurd c_5_ (by decide)
                have ec : daF (V1 (34 + 2 * j_1_) 0) z1 z3 (decide (0 ≤ z2 ∧ z2 ≤ V1 (34 + 2 * j_1_) 1 ∧ 0 ≤ z3 ∧ z3 ≤ V1 (34 + 2 * j_1_) 1 - z2)) = 3 := by
                  unfold daF
                  rw [if_neg el.1, if_pos el.2, if_neg (Int32.not_lt.mpr c_9_), if_neg (by simpa using b12)]
                rw [if_pos hin1, hcl1, if_pos b3, ec, if_neg (by decide)]
                exact ⟨h_17_, by trivial, eU17⟩
        · have n_9_ := Int32.not_le.mp c_9_
          refine j_iconst (v := 4) C dX11_dale_47 (by decide) ?_
          refine j_istore (lv2 := [(6, .int (4)), (5, .ref (ad (34 + 2 * j_1_))), (0, .ref (ad (55))), (1, .int (z0)), (2, .int (z1)), (3, .int (z2)), (4, .int (z3))]) C dX11_dale_48 hl (by decide) rfl (fun ls hl => ?_)
          refine j_iload C dX11_dale_50 (lv_at hl 0 rfl) ?_
          refine j_if_ne (tgt := 69) C dX11_dale_52 (by decide) (fun c_18_ => ?_) (fun c_18_ => ?_)
          · skip
            refine j_iload C dX11_dale_69 (lv_at hl 0 rfl) ?_
            refine j_if_eq (tgt := 81) C dX11_dale_71 (by decide) (fun c_19_ => ?_) (fun c_19_ => ?_)
            · skip
              exact absurd c_19_ (by decide)
            · skip
              refine j_aload_n C dX11_dale_74 rfl (lv_at hl 2 rfl) ?_
              refine j_iload C dX11_dale_75 (lv_at hl 0 rfl) ?_
              refine j_callV (k := 55) C [.int (4)] [] (k_X11_comeTo l ad tk nt V1  (4)) v_RX11_86 (xl (by decide)) (rfl) rfl ⟨rfl, rfl, Nat.le_of_ble_eq_true rfl, Nat.le_of_ble_eq_true rfl⟩ rfl hl.1 rfl (Nat.le_of_ble_eq_true rfl) ⟨Nat.le_of_ble_eq_true rfl, Nat.le_of_ble_eq_true rfl⟩ dX11_dale_77 (kI fun x_20_ U20 h_20_ => ?_)
              obtain ⟨eU20, h_20_⟩ := h_20_
              refine j_more (c_2_ := 5) (s_2_ := 10) (by decide) (by decide) ?_
              refine j_iret C ⟨_, rfl, ?_⟩ dX11_dale_80
              simp only [← eV1]
              obtain ⟨hin1, hcl1⟩ := inz ej1 hj1 (by omega)
              have el : ¬ V1 (34 + 2 * j_1_) 0 = -1 ∧ V1 (34 + 2 * j_1_) 0 = z1 := by
                rw [h_4_] at c_5_
                split at c_5_
                · exact absurd c_5_ (by decide)
                · split at c_5_
                  · exact ⟨by assumption, by assumption⟩
                  · exact absurd c_5_ (by decide)
              have ec : daF (V1 (34 + 2 * j_1_) 0) z1 z3 (decide (0 ≤ z2 ∧ z2 ≤ V1 (34 + 2 * j_1_) 1 ∧ 0 ≤ z3 ∧ z3 ≤ V1 (34 + 2 * j_1_) 1 - z2)) = 4 := by
                unfold daF
                rw [if_neg el.1, if_pos el.2, if_pos (Int32.not_le.mp c_9_)]
              rw [if_pos hin1, hcl1, if_pos b3, ec, if_neg (by decide)]
              exact ⟨h_20_, by trivial, eU20⟩
          · skip
            exact absurd c_18_ (by decide)
    · skip
      have b3 := bI_0.mp (h_2_ ▸ c_3_)
      refine j_bipush (v := (-2)) C dX11_dale_26 (by decide) ?_
      refine j_more (c_2_ := 5) (s_2_ := 10) (by decide) (by decide) ?_
      refine j_iret C ⟨_, rfl, ?_⟩ dX11_dale_28
      simp only [← eV1]
      obtain ⟨hin1, hcl1⟩ := inz ej1 hj1 (by omega)
      rw [if_pos hin1, hcl1, if_neg b3]
      exact ⟨by trivial, by trivial, by trivial⟩
  · subst ev1
    refine j_astoreN (lv2 := [(5, .null), (0, .ref (ad (55))), (1, .int (z0)), (2, .int (z1)), (3, .int (z2)), (4, .int (z3))]) C dX11_dale_10 hl (by decide) rfl (fun ls hl => ?_)
    refine j_aloadN C dX11_dale_12 (lv_at hl 0 rfl) ?_
    refine j_ifnonnullN C dX11_dale_14 ?_
    refine j_iconst (v := (-1)) C dX11_dale_17 (by decide) ?_
    refine j_more (c_2_ := 5) (s_2_ := 10) (by decide) (by decide) ?_
    refine j_iret C ⟨_, rfl, ?_⟩ dX11_dale_18
    simp only [← eV1]
    rw [if_neg (outR ho1)]
    exact ⟨by trivial, by trivial, by trivial⟩
