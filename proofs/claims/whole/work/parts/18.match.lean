def inL (V : Vt) (tn gn t w : Nat) : Nat → Vt
  | 0 => V
  | k + 1 => up2 (inL V tn gn t w k) 53 (t * 16 + k) (wWI (inL V tn gn t w k) tn t k (fbI (inL V tn gn t w k) tn gn t k w))
def ouL (V : Vt) (tn gn : Nat) (ws : Nat → Nat) : Nat → Vt
  | 0 => V
  | m + 1 => inL (ouL V tn gn ws m) tn gn (tn - 1 - m) (ws (tn - 1 - m)) (2 ^ gn)
def giL (V : Vt) (tn gn : Nat) (ws : Nat → Nat) : Nat → Vt × Nat
  | 0 => (V, 0)
  | t + 1 => (up2 (giL V tn gn ws t).1 51 t (fbI (giL V tn gn ws t).1 tn gn t (giL V tn gn ws t).2 (ws t)), if fbI (giL V tn gn ws t).1 tn gn t (giL V tn gn ws t).2 (ws t) = -9 then (giL V tn gn ws t).2 else (giL V tn gn ws t).2 ||| 2 ^ (fbI (giL V tn gn ws t).1 tn gn t (giL V tn gn ws t).2 (ws t)).toNatClampNeg)
theorem inL_o {V : Vt} {tn gn t w a : Nat} (h : a ≠ 53) : ∀ k, inL V tn gn t w k a = V a
  | 0 => rfl
  | k + 1 => by rw [inL, up2_k _ _ h, inL_o h k]
theorem ouL_o {V : Vt} {tn gn a : Nat} {ws : Nat → Nat} (h : a ≠ 53) : ∀ m, ouL V tn gn ws m a = V a
  | 0 => rfl
  | m + 1 => by rw [ouL, inL_o h, ouL_o h m]
theorem giL_o {V : Vt} {tn gn a : Nat} {ws : Nat → Nat} (h : a ≠ 51) : ∀ t, (giL V tn gn ws t).1 a = V a
  | 0 => rfl
  | t + 1 => by rw [giL]; dsimp only; rw [up2_k _ _ h, giL_o h t]
theorem giL_lt {V : Vt} {tn gn : Nat} {ws : Nat → Nat} (hg : gn ≤ 4) : ∀ t, (giL V tn gn ws t).2 < 16
  | 0 => by show 0 < 16; decide
  | t + 1 => by
    rw [giL]
    dsimp only
    have ih := giL_lt (V := V) (tn := tn) (ws := ws) hg t
    rcases fbI_rng (giL V tn gn ws t).1 tn gn t (giL V tn gn ws t).2 (ws t) with h | ⟨q, hq, h⟩
    · rw [if_pos h]; exact ih
    · rw [h, if_neg (m9_nI (by omega)), nI_clamp (by omega)]
      exact or16 ih (by omega)
theorem p16 {g : Nat} (h : g ≤ 4) : 2 ^ g ≤ 16 ∧ 2 ^ g < 2 ^ 31 := by
  rcases (show g = 0 ∨ g = 1 ∨ g = 2 ∨ g = 3 ∨ g = 4 by omega) with rfl | rfl | rfl | rfl | rfl <;> decide
abbrev rm_X4_noteWorthX : Nat := 0
abbrev rm_X4_noteWorth : Room := { frames := 0, cells := 0, slots := 0, locals := 0 }
set_option maxHeartbeats 4000000 in
set_option maxRecDepth 100000 in
theorem k_X4_noteWorth (l : Launch) (ad tk : Nat → Nat) (nt : Nat) (V : Vt) (z0 z1 z2 : Int32) (t k9 : Nat) (e0 : z0 = nI t) (e1 : z1 = nI k9) (ht : t < 5) (hk9 : k9 < 16)  : Ct l yX4_noteWorth cX4_noteWorth 5 none rm_X4_noteWorth (xS ad tk nt) V [.ref (ad (48)), .int (z0), .int (z1), .int (z2)] (rU fun V2 => V2 = up2 V 53 (t * 16 + k9) z2) := by
  refine Ct_of (by decide) (Nat.le_of_ble_eq_true rfl) ?_
  intro p e s m below meth c A D cy ls C hl
  have hl : lv_has ls 5 [(0, .ref (ad (48))), (1, .int (z0)), (2, .int (z1)), (3, .int (z2))] := hl
  refine j_iload_n C dX4_noteWorth_0 rfl (lv_at hl 1 rfl) ?_
  refine j_bipush (v := 16) C dX4_noteWorth_1 (by decide) ?_
  refine j_imul C dX4_noteWorth_3 ?_
  refine j_iload_n C dX4_noteWorth_4 rfl (lv_at hl 2 rfl) ?_
  refine j_iadd C dX4_noteWorth_5 ?_
  refine j_istore (lv2 := [(4, .int ((z0 * 16) + z1)), (0, .ref (ad (48))), (1, .int (z0)), (2, .int (z1)), (3, .int (z2))]) C dX4_noteWorth_6 hl (by decide) rfl (fun ls hl => ?_)
  refine j_iload C dX4_noteWorth_8 (lv_at hl 0 rfl) ?_
  refine j_if_lt (tgt := 31) C dX4_noteWorth_10 (by decide) (fun c_1_ => ?_) (fun c_1_ => ?_)
  · have n_1_ := Int32.not_le.mpr c_1_
    refine j_vret C ⟨rfl, rfl, ?_⟩ dX4_noteWorth_31
    exfalso
    rw [e0, e1, tkI] at *
    first | exact absurd (by assumption) (nI_pos (n := t * 16 + k9) (by omega)) | exact absurd (nI_lt (b := 80) (show t * 16 + k9 < 80 by omega) (by decide)) (by assumption)
  · have n_1_ := Int32.not_lt.mp c_1_
    refine j_iload C dX4_noteWorth_13 (lv_at hl 0 rfl) ?_
    refine j_aload_n C dX4_noteWorth_15 rfl (lv_at hl 1 rfl) ?_
    refine j_getR (k := 48) (k2 := 53) C (f_RX4_24_4) (xl (by decide)) (rfl) (rfl) dX4_noteWorth_16 ?_
    refine j_alen (k := 53) (n := 80) C (xl (by decide)) (Or.inl (rfl)) (rfl) dX4_noteWorth_19 ?_
    refine j_icmp_ge (tgt := 31) C dX4_noteWorth_20 (by decide) (fun c_2_ => ?_) (fun c_2_ => ?_)
    · have n_2_ := Int32.not_lt.mpr c_2_
      refine j_vret C ⟨rfl, rfl, ?_⟩ dX4_noteWorth_31
      exfalso
      rw [e0, e1, tkI] at *
      first | exact absurd (by assumption) (nI_pos (n := t * 16 + k9) (by omega)) | exact absurd (nI_lt (b := 80) (show t * 16 + k9 < 80 by omega) (by decide)) (by assumption)
    · have n_2_ := Int32.not_le.mp c_2_
      refine j_aload_n C dX4_noteWorth_23 rfl (lv_at hl 1 rfl) ?_
      refine j_getR (k := 48) (k2 := 53) C (f_RX4_24_4) (xl (by decide)) (rfl) (rfl) dX4_noteWorth_24 ?_
      refine j_iload C dX4_noteWorth_27 (lv_at hl 0 rfl) ?_
      refine j_iload_n C dX4_noteWorth_29 rfl (lv_at hl 4 rfl) ?_
      refine j_iast (k := 53) (n := 80) C (xl (by decide)) (rfl) (rfl) (by rw [e0, e1, tkI]; exact vp_in_nI (by omega) (by decide)) dX4_noteWorth_30 (fun V1 eV1 => ?_)
      refine j_vret C ⟨rfl, rfl, ?_⟩ dX4_noteWorth_31
      rw [eV1, e0, e1, tkI, nI_clamp (by omega)]
abbrev rm_X4_matchUp : Room := { frames := 5, cells := 0, slots := 0, locals := 114 }
set_option maxHeartbeats 4000000 in
set_option maxRecDepth 100000 in
theorem k_X4_matchUp (l : Launch) (ad tk : Nat → Nat) (nt : Nat) (V : Vt) (tn : Nat) (hTn : V 48 0 = nI tn) (t5 : tn ≤ 5) (gn : Nat) (hGn : V 48 1 = nI gn) (g4 : gn ≤ 4) (ws : Nat → Nat) (hws : ∀ t, t < tn → V 50 t = nI (ws t) ∧ ws t < 16)  : Ct l yX4_matchUp cX4_matchUp 4 none rm_X4_matchUp (xS ad tk nt) V [.ref (ad (48))] (rU fun V2 => V2 = (giL (ouL V tn gn ws tn) tn gn ws tn).1) := by
  refine Ct_of (by decide) (Nat.le_of_ble_eq_true rfl) ?_
  intro p e s m below meth c A D cy ls C hl
  have hl : lv_has ls 4 [(0, .ref (ad (48)))] := hl
  refine j_aload_n C dX4_matchUp_0 rfl (lv_at hl 0 rfl) ?_
  refine j_getI (k := 48) C (f_RX4_27_4) (xl (by decide)) (rfl) dX4_matchUp_1 ?_
  refine j_iconst (v := 1) C dX4_matchUp_4 (by decide) ?_
  refine j_isub C dX4_matchUp_5 ?_
  refine j_istore_n (lv2 := [(1, .int ((V 48 0) - 1)), (0, .ref (ad (48)))]) C dX4_matchUp_6 rfl hl (by decide) rfl (fun ls hl => ?_)
  have l_o : ∀ (n_9_ : Nat) (d : Nat) (Vo : Vt) (z : Int32), d ≤ tn → Vo = ouL V tn gn ws (tn - d) → z = nI d - 1 → d < n_9_ → ∀ (ls : Array Slot), lv_has ls 4 [(0, .ref (ad (48))), (1, .int (z))] → J p l e rm_X4_matchUp s m [.ref (ad (48))].toArray below meth c A D cy 0 0 (MQ below (gPost D cy A (fun o9 σ2 V2 => σ2 = xS ad tk nt ∧ (rU fun V2 => V2 = (giL (ouL V tn gn ws tn) tn gn ws tn).1) o9 V2)) [.ref (ad (48))].toArray s 0 0 A) (xS ad tk nt) Vo (F0 m 7 ls []) := by
    intro n_9_
    induction n_9_ with
    | zero =>
      intro d Vo z hd hVo hz hm
      exact absurd hm (by omega)
    | succ n_9_ ih_l_o =>
      intro d Vo z hd hVo hz hm ls hl
      refine j_iload_n C dX4_matchUp_7 rfl (lv_at hl 1 rfl) ?_
      refine j_if_lt (tgt := 53) C dX4_matchUp_8 (by decide) (fun c_1_ => ?_) (fun c_1_ => ?_)
      · have n_1_ := Int32.not_le.mpr c_1_
        obtain rfl : d = 0 := by
          cases d with
          | zero => rfl
          | succ q => exact absurd c_1_ (by rw [hz, nI_pred]; exact nI_pos (by omega))
        rw [Nat.sub_zero] at hVo
        refine j_iconst (v := 0) C dX4_matchUp_53 (by decide) ?_
        refine j_istore_n (lv2 := [(1, .int (0)), (0, .ref (ad (48)))]) C dX4_matchUp_54 rfl hl (by decide) rfl (fun ls hl => ?_)
        refine j_iconst (v := 0) C dX4_matchUp_55 (by decide) ?_
        refine j_istore_n (lv2 := [(2, .int (0)), (1, .int (0)), (0, .ref (ad (48)))]) C dX4_matchUp_56 rfl hl (by decide) rfl (fun ls hl => ?_)
        have l_s : ∀ (n_9_ : Nat) (t : Nat) (Vg : Vt) (kk : Nat) (zk : Int32), t ≤ tn → Vg = (giL (ouL V tn gn ws tn) tn gn ws t).1 → kk = (giL (ouL V tn gn ws tn) tn gn ws t).2 → zk = nI kk → tn - t < n_9_ → ∀ (ls : Array Slot), lv_has ls 4 [(0, .ref (ad (48))), (1, .int (zk)), (2, .int (nI t))] → J p l e rm_X4_matchUp s m [.ref (ad (48))].toArray below meth c A D cy 0 0 (MQ below (gPost D cy A (fun o9 σ2 V2 => σ2 = xS ad tk nt ∧ (rU fun V2 => V2 = (giL (ouL V tn gn ws tn) tn gn ws tn).1) o9 V2)) [.ref (ad (48))].toArray s 0 0 A) (xS ad tk nt) Vg (F0 m 57 ls []) := by
          intro n_9_
          induction n_9_ with
          | zero =>
            intro t Vg kk zk hi hVg hkk hzk hm
            exact absurd hm (by omega)
          | succ n_9_ ih_l_s =>
            intro t Vg kk zk hi hVg hkk hzk hm ls hl
            refine j_iload_n C dX4_matchUp_57 rfl (lv_at hl 2 rfl) ?_
            refine j_aload_n C dX4_matchUp_58 rfl (lv_at hl 0 rfl) ?_
            refine j_getI (k := 48) C (f_RX4_27_4) (xl (by decide)) (rfl) dX4_matchUp_59 ?_
            refine j_icmp_ge (tgt := 100) C dX4_matchUp_62 (by decide) (fun c_2_ => ?_) (fun c_2_ => ?_)
            · have n_2_ := Int32.not_lt.mpr c_2_
              obtain rfl : t = tn := by rw [show Vg 48 0 = nI tn from (by rw [hVg, giL_o (by decide), ouL_o (by decide)]; exact hTn)] at c_2_; have q := leN (by omega) (by omega) c_2_; omega
              refine j_vret C ⟨rfl, rfl, ?_⟩ dX4_matchUp_100
              exact hVg
            · have n_2_ := Int32.not_le.mp c_2_
              have hlt : t < tn := by rw [show Vg 48 0 = nI tn from (by rw [hVg, giL_o (by decide), ouL_o (by decide)]; exact hTn)] at c_2_; exact ltN (by omega) c_2_
              refine j_aload_n C dX4_matchUp_65 rfl (lv_at hl 0 rfl) ?_
              refine j_iload_n C dX4_matchUp_66 rfl (lv_at hl 2 rfl) ?_
              refine j_iload_n C dX4_matchUp_67 rfl (lv_at hl 1 rfl) ?_
              refine j_callV (k := 48) C [.int (nI t), .int (zk)] [] (k_X4_firstBest l ad tk nt Vg (nI t) (zk) tn (by rw [hVg, giL_o (by decide), ouL_o (by decide)]; exact hTn) t5 gn (by rw [hVg, giL_o (by decide), ouL_o (by decide)]; exact hGn) g4 t kk (ws t) rfl hzk (by omega) (by rw [hkk]; exact giL_lt g4 t) (by rw [hVg, giL_o (by decide), ouL_o (by decide)]; exact (hws t hlt).1) (hws t hlt).2) v_RX4_50 (xl (by decide)) (rfl) rfl ⟨rfl, rfl, Nat.le_of_ble_eq_true rfl, Nat.le_of_ble_eq_true rfl⟩ rfl hl.1 rfl (Nat.le_of_ble_eq_true rfl) ⟨Nat.le_of_ble_eq_true rfl, Nat.le_of_ble_eq_true rfl⟩ dX4_matchUp_68 (kI fun x_3_ U3 h_3_ => ?_)
              obtain ⟨eU3, h_3_⟩ := h_3_
              have eU3 := eU3.symm
              subst eU3
              have efb := h_3_.symm
              have erng : x_3_ = -9 ∨ ∃ q, q < gn ∧ x_3_ = nI q := by rw [h_3_]; exact fbI_rng ..
              refine j_istore_n (lv2 := [(3, .int (x_3_)), (0, .ref (ad (48))), (1, .int (zk)), (2, .int (nI t))]) C dX4_matchUp_71 rfl hl (by decide) rfl (fun ls hl => ?_)
              refine j_aload_n C dX4_matchUp_72 rfl (lv_at hl 1 rfl) ?_
              refine j_iload_n C dX4_matchUp_73 rfl (lv_at hl 3 rfl) ?_
              refine j_iload_n C dX4_matchUp_74 rfl (lv_at hl 0 rfl) ?_
              refine j_callV (k := 48) C [.int (nI t), .int (x_3_)] [] (k_X4_giveGirl l ad tk nt Vg (nI t) (x_3_) t rfl (by omega)) v_RX4_61 (xl (by decide)) (rfl) rfl ⟨rfl, rfl, Nat.le_of_ble_eq_true rfl, Nat.le_of_ble_eq_true rfl⟩ rfl hl.1 rfl (Nat.le_of_ble_eq_true rfl) ⟨Nat.le_of_ble_eq_true rfl, Nat.le_of_ble_eq_true rfl⟩ dX4_matchUp_75 (kU fun U4 h_4_ => ?_)
              refine j_iload_n C dX4_matchUp_78 rfl (lv_at hl 2 rfl) ?_
              refine j_iload_n C dX4_matchUp_79 rfl (lv_at hl 0 rfl) ?_
              refine j_bipush (v := (-9)) C dX4_matchUp_80 (by decide) ?_
              refine j_icmp_ne (tgt := 89) C dX4_matchUp_82 (by decide) (fun c_5_ => ?_) (fun c_5_ => ?_)
              · skip
                obtain ⟨q9, hq9, eq9⟩ := erng.elim (fun q => absurd q c_5_) id
                refine j_iconst (v := 1) C dX4_matchUp_89 (by decide) ?_
                refine j_iload_n C dX4_matchUp_90 rfl (lv_at hl 0 rfl) ?_
                refine j_ishl C dX4_matchUp_91 ?_
                refine j_ior C dX4_matchUp_92 ?_
                refine j_istore_n (lv2 := [(1, .int (zk ||| (1 <<< (x_3_ &&& 31)))), (3, .int (x_3_)), (0, .ref (ad (48))), (2, .int (nI t))]) C dX4_matchUp_93 rfl hl (by decide) rfl (fun ls hl => ?_)
                refine j_iinc (v := nI (t + 1)) (lv2 := [(2, .int (nI (t + 1))), (1, .int (zk ||| (1 <<< (x_3_ &&& 31)))), (3, .int (x_3_)), (0, .ref (ad (48)))]) C dX4_matchUp_94 hl (k0 := 3) rfl (nI_1 _) (by decide) rfl (fun ls hl => ?_)
                refine j_goto (tgt := 57) C dX4_matchUp_97 (by decide) ?_
                exact ih_l_s (t + 1) U4 (kk ||| 2 ^ q9) (zk ||| (1 <<< (x_3_ &&& 31))) (by omega) (by rw [giL, ← hVg, ← hkk]; rw [h_4_, efb]) (by rw [giL, ← hVg, ← hkk]; rw [efb, if_neg c_5_, eq9, nI_clamp (by omega)]) (by rw [hzk, eq9, sh1 (by omega), orI]) (by omega) ls (lv_sub hl [3, 1, 0] rfl)
              · skip
                skip
                refine j_iconst (v := 0) C dX4_matchUp_85 (by decide) ?_
                refine j_goto (tgt := 92) C dX4_matchUp_86 (by decide) ?_
                refine j_ior C dX4_matchUp_92 ?_
                refine j_istore_n (lv2 := [(1, .int (zk ||| 0)), (3, .int (x_3_)), (0, .ref (ad (48))), (2, .int (nI t))]) C dX4_matchUp_93 rfl hl (by decide) rfl (fun ls hl => ?_)
                refine j_iinc (v := nI (t + 1)) (lv2 := [(2, .int (nI (t + 1))), (1, .int (zk ||| 0)), (3, .int (x_3_)), (0, .ref (ad (48)))]) C dX4_matchUp_94 hl (k0 := 3) rfl (nI_1 _) (by decide) rfl (fun ls hl => ?_)
                refine j_goto (tgt := 57) C dX4_matchUp_97 (by decide) ?_
                exact ih_l_s (t + 1) U4 kk (zk ||| 0) (by omega) (by rw [giL, ← hVg, ← hkk]; rw [h_4_, efb]) (by rw [giL, ← hVg, ← hkk]; rw [efb, if_pos c_5_]) (by rw [hzk, show (0 : Int32) = nI 0 from rfl, orI, Nat.or_zero]) (by omega) ls (lv_sub hl [3, 1, 0] rfl)
        exact l_s (tn + 1) 0 Vo 0 0 (by omega) (by rw [hVo]; rfl) rfl rfl (by omega) ls (lv_sub hl [2, 1, 0] rfl)
      · have n_1_ := Int32.not_lt.mp c_1_
        obtain ⟨d8, rfl⟩ : ∃ d8, d = d8 + 1 := by
          cases d with
          | zero => exact absurd (by rw [hz]; decide) c_1_
          | succ q => exact ⟨q, rfl⟩
        have ez : z = nI d8 := by rw [hz, nI_pred]
        have hp16 := p16 g4
        refine j_iconst (v := 0) C dX4_matchUp_11 (by decide) ?_
        refine j_istore_n (lv2 := [(2, .int (0)), (0, .ref (ad (48))), (1, .int (z))]) C dX4_matchUp_12 rfl hl (by decide) rfl (fun ls hl => ?_)
        have l_i : ∀ (n_9_ : Nat) (k : Nat) (Vi : Vt), k ≤ 2 ^ gn → Vi = inL Vo tn gn d8 (ws d8) k → 2 ^ gn - k < n_9_ → ∀ (ls : Array Slot), lv_has ls 4 [(0, .ref (ad (48))), (1, .int (z)), (2, .int (nI k))] → J p l e rm_X4_matchUp s m [.ref (ad (48))].toArray below meth c A D cy 0 0 (MQ below (gPost D cy A (fun o9 σ2 V2 => σ2 = xS ad tk nt ∧ (rU fun V2 => V2 = (giL (ouL V tn gn ws tn) tn gn ws tn).1) o9 V2)) [.ref (ad (48))].toArray s 0 0 A) (xS ad tk nt) Vi (F0 m 13 ls []) := by
          intro n_9_
          induction n_9_ with
          | zero =>
            intro k Vi hk hVi hm
            exact absurd hm (by omega)
          | succ n_9_ ih_l_i =>
            intro k Vi hk hVi hm ls hl
            refine j_iload_n C dX4_matchUp_13 rfl (lv_at hl 2 rfl) ?_
            refine j_iconst (v := 1) C dX4_matchUp_14 (by decide) ?_
            refine j_aload_n C dX4_matchUp_15 rfl (lv_at hl 0 rfl) ?_
            refine j_getI (k := 48) C (f_RX4_31_4) (xl (by decide)) (rfl) dX4_matchUp_16 ?_
            refine j_ishl C dX4_matchUp_19 ?_
            refine j_icmp_ge (tgt := 47) C dX4_matchUp_20 (by decide) (fun c_6_ => ?_) (fun c_6_ => ?_)
            · have n_6_ := Int32.not_lt.mpr c_6_
              have ek9 : k = 2 ^ gn := by rw [show Vi 48 1 = nI gn from (by rw [hVi, inL_o (by decide), hVo, ouL_o (by decide)]; exact hGn), sh1 (by omega)] at c_6_; have q := leN (by omega) hp16.2 c_6_; omega
              rw [ek9] at hVi
              refine j_iinc (v := z + (-1)) (lv2 := [(1, .int (z + (-1))), (0, .ref (ad (48))), (2, .int (nI k))]) C dX4_matchUp_47 hl (k0 := 1) rfl rfl (by decide) rfl (fun ls hl => ?_)
              refine j_goto (tgt := 7) C dX4_matchUp_50 (by decide) ?_
              exact ih_l_o d8 Vi (z + (-1)) (by omega) (by rw [hVi, hVo, show tn - d8 = (tn - (d8 + 1)) + 1 by omega, ouL, show tn - 1 - (tn - (d8 + 1)) = d8 by omega]) (by rw [ez]; exact (Int32.sub_eq_add_neg ..).symm) (by omega) ls (lv_sub hl [1, 0] rfl)
            · have n_6_ := Int32.not_le.mp c_6_
              have hlt : k < 2 ^ gn := by rw [show Vi 48 1 = nI gn from (by rw [hVi, inL_o (by decide), hVo, ouL_o (by decide)]; exact hGn), sh1 (by omega)] at c_6_; exact ltN (by omega) c_6_
              refine j_aload_n C dX4_matchUp_23 rfl (lv_at hl 0 rfl) ?_
              refine j_iload_n C dX4_matchUp_24 rfl (lv_at hl 1 rfl) ?_
              refine j_iload_n C dX4_matchUp_25 rfl (lv_at hl 2 rfl) ?_
              refine j_aload_n C dX4_matchUp_26 rfl (lv_at hl 0 rfl) ?_
              refine j_iload_n C dX4_matchUp_27 rfl (lv_at hl 1 rfl) ?_
              refine j_iload_n C dX4_matchUp_28 rfl (lv_at hl 2 rfl) ?_
              refine j_aload_n C dX4_matchUp_29 rfl (lv_at hl 0 rfl) ?_
              refine j_iload_n C dX4_matchUp_30 rfl (lv_at hl 1 rfl) ?_
              refine j_iload_n C dX4_matchUp_31 rfl (lv_at hl 2 rfl) ?_
              refine j_callV (k := 48) C [.int (z), .int (nI k)] [.int (nI k), .int (z), .ref (ad (48)), .int (nI k), .int (z), .ref (ad (48))] (k_X4_firstBest l ad tk nt Vi (z) (nI k) tn (by rw [hVi, inL_o (by decide), hVo, ouL_o (by decide)]; exact hTn) t5 gn (by rw [hVi, inL_o (by decide), hVo, ouL_o (by decide)]; exact hGn) g4 d8 k (ws d8) ez rfl (by omega) (by omega) (by rw [hVi, inL_o (by decide), hVo, ouL_o (by decide)]; exact (hws d8 (by omega)).1) (hws d8 (by omega)).2) v_RX4_50 (xl (by decide)) (rfl) rfl ⟨rfl, rfl, Nat.le_of_ble_eq_true rfl, Nat.le_of_ble_eq_true rfl⟩ rfl hl.1 rfl (Nat.le_of_ble_eq_true rfl) ⟨Nat.le_of_ble_eq_true rfl, Nat.le_of_ble_eq_true rfl⟩ dX4_matchUp_32 (kI fun x_7_ U7 h_7_ => ?_)
              obtain ⟨eU7, h_7_⟩ := h_7_
              have eU7 := eU7.symm
              subst eU7
              refine j_callV (k := 48) C [.int (z), .int (nI k), .int (x_7_)] [.int (nI k), .int (z), .ref (ad (48))] (k_X4_worthWith l ad tk nt Vi (z) (nI k) (x_7_) tn (by rw [hVi, inL_o (by decide), hVo, ouL_o (by decide)]; exact hTn) t5 d8 k ez rfl (by omega) (by omega) (by rw [h_7_]; rcases fbI_rng Vi tn gn d8 k (ws d8) with q | ⟨q1, q2, q3⟩; exact Or.inl q; exact Or.inr ⟨q1, by omega, q3⟩)) v_RX4_53 (xl (by decide)) (rfl) rfl ⟨rfl, rfl, Nat.le_of_ble_eq_true rfl, Nat.le_of_ble_eq_true rfl⟩ rfl hl.1 rfl (Nat.le_of_ble_eq_true rfl) ⟨Nat.le_of_ble_eq_true rfl, Nat.le_of_ble_eq_true rfl⟩ dX4_matchUp_35 (kI fun x_8_ U8 h_8_ => ?_)
              obtain ⟨eU8, h_8_⟩ := h_8_
              have eU8 := eU8.symm
              subst eU8
              refine j_callV (k := 48) C [.int (z), .int (nI k), .int (x_8_)] [] (k_X4_noteWorth l ad tk nt Vi (z) (nI k) (x_8_) d8 k ez rfl (by omega) (by omega)) v_RX4_57 (xl (by decide)) (rfl) rfl ⟨rfl, rfl, Nat.le_of_ble_eq_true rfl, Nat.le_of_ble_eq_true rfl⟩ rfl hl.1 rfl (Nat.le_of_ble_eq_true rfl) ⟨Nat.le_of_ble_eq_true rfl, Nat.le_of_ble_eq_true rfl⟩ dX4_matchUp_38 (kU fun U9 h_9_ => ?_)
              refine j_iinc (v := nI (k + 1)) (lv2 := [(2, .int (nI (k + 1))), (0, .ref (ad (48))), (1, .int (z))]) C dX4_matchUp_41 hl (k0 := 2) rfl (nI_1 _) (by decide) rfl (fun ls hl => ?_)
              refine j_goto (tgt := 13) C dX4_matchUp_44 (by decide) ?_
              exact ih_l_i (k + 1) U9 (by omega) (by rw [inL, ← hVi, h_9_, h_8_, h_7_]) (by omega) ls (lv_sub hl [1, 2, 0] rfl)
        exact l_i (2 ^ gn + 1) 0 Vo (Nat.zero_le _) rfl (by rw [Nat.sub_zero]; exact Nat.lt_succ_self _) ls (lv_sub hl [1, 2, 0] rfl)
  exact l_o (tn + 1) tn V (V 48 0 - 1) (by omega) (by rw [Nat.sub_self, ouL]) (by rw [hTn]) (by omega) ls (lv_sub hl [1, 0] rfl)
