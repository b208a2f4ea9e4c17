theorem up2_up2 (V : Vt) (k i : Nat) (x y : Int32) : up2 (up2 V k i x) k i y = up2 V k i y := by
  funext a j
  unfold up2
  by_cases h : a = k ∧ j = i
  · rw [if_pos h, if_pos h]
  · rw [if_neg h, if_neg h, if_neg h]
theorem up2_self (V : Vt) (k i : Nat) : up2 V k i (V k i) = V := by
  funext a j
  unfold up2
  by_cases h : a = k ∧ j = i
  · rw [if_pos h, h.1, h.2]
  · rw [if_neg h]
theorem MI_cong {V V2 : Vt} {ng : Nat} {rr : Nat → Nat} {nt c_0_ : Nat} (hr : ∀ a, a = 8 ∨ a = 21 ∨ a = 22 ∨ a = 2 → V2 a = V a) (h_6_ : V2 0 6 = V 0 6) (h_7_ : V2 0 7 = V 0 7) (h_34_ : V2 0 34 = V 0 34) (h : MI V ng rr nt c_0_) : MI V2 ng rr nt c_0_ := by
  obtain ⟨a, b, c, d, e, f, g, i, j⟩ := h
  refine ⟨h_6_.trans a, b, h_7_.trans c, d, fun q hq => ?_, h_34_.trans f, g, fun r hr2 => ?_, fun k hk => ?_⟩
  · rw [hr 8 (by decide)]; exact e q hq
  · rw [hr 21 (by decide), hr 22 (by decide)]; exact i r hr2
  · rw [hr 2 (by decide)]; exact j k hk
theorem MI_up {V : Vt} {ng : Nat} {rr : Nat → Nat} {nt c_0_ a i : Nat} {x : Int32} (ha : a = 4 ∨ a = 5 ∨ a = 6 ∨ a = 7) (h : MI V ng rr nt c_0_) : MI (up2 V a i x) ng rr nt c_0_ :=
  MI_cong (fun b hb => up2_k _ _ (by omega)) (congrFun (up2_k _ _ (by omega)) _) (congrFun (up2_k _ _ (by omega)) _) (congrFun (up2_k _ _ (by omega)) _) h
/-- all readings are so -/
def soM (V : Vt) (c_0_ : Nat) : Prop := ∀ r, r < c_0_ → nrM V (V 21 r).toNatClampNeg (V 22 r).toNatClampNeg = V 23 r
theorem soM_s {V : Vt} {i t g : Nat} (h : soM V i) (et : V 21 i = nI t) (eg : V 22 i = nI g) (ht : t < 100) (hg : g < 100) (e : nrM V t g = V 23 i) : soM V (i + 1) := by
  intro r hr
  by_cases q : r = i
  · rw [q, et, eg, nI_clamp (by omega), nI_clamp (by omega)]; exact e
  · exact h r (by omega)
abbrev rm_X12_areSo : Room := { frames := 2, cells := 0, slots := 0, locals := 45 }
set_option maxHeartbeats 4000000 in
set_option maxRecDepth 100000 in
theorem k_X12_areSo (l : Launch) (ad : Nat → Nat) (V : Vt) (ng : Nat) (rr : Nat → Nat) (nt c_0_ : Nat) (hM : MI V ng rr nt c_0_)  : Ct l yX12_areSo cX12_areSo 2 (some .boolean) rm_X12_areSo (mS ad) V [.ref (ad (0))] (rI fun x V2 => V2 = V ∧ ((x = 1 ∧ soM V c_0_) ∨ (x = 0 ∧ ¬ soM V c_0_))) := by
  refine Ct_of (by decide) (Nat.le_of_ble_eq_true rfl) ?_
  intro p e s m below meth c A D cy ls C hl
  have hl : lv_has ls 2 [(0, .ref (ad (0)))] := hl
  have ng4 := hM.2.1
  have nt5 := hM.2.2.2.1
  have hc8 := hM.2.2.2.2.2.2.1
  refine j_iconst (v := 0) C dX12_areSo_0 (by decide) ?_
  refine j_istore_n (lv2 := [(1, .int (0)), (0, .ref (ad (0)))]) C dX12_areSo_1 rfl hl (by decide) rfl (fun ls hl => ?_)
  have loop : ∀ (n_9_ : Nat) (i : Nat), i ≤ c_0_ → soM V i → c_0_ - i < n_9_ → ∀ (ls : Array Slot), lv_has ls 2 [(0, .ref (ad (0))), (1, .int (nI i))] → J p l e rm_X12_areSo s m [.ref (ad (0))].toArray below meth c A D cy 0 0 (MQ below (gPost D cy A (fun o9 σ2 V2 => σ2 = mS ad ∧ (rI fun x V2 => V2 = V ∧ ((x = 1 ∧ soM V c_0_) ∨ (x = 0 ∧ ¬ soM V c_0_))) o9 V2)) [.ref (ad (0))].toArray s 0 0 A) (mS ad) V (F0 m 2 ls []) := by
    intro n_9_
    induction n_9_ with
    | zero =>
      intro i hi hS hm
      exact absurd hm (by omega)
    | succ n_9_ ih_loop =>
      intro i hi hS hm ls hl
      refine j_iload_n C dX12_areSo_2 rfl (lv_at hl 1 rfl) ?_
      refine j_aload_n C dX12_areSo_3 rfl (lv_at hl 0 rfl) ?_
      refine j_getI (k := 0) C (f_RX12_135_12) (ml (by decide)) (rfl) dX12_areSo_4 ?_
      refine j_icmp_ge (tgt := 43) C dX12_areSo_7 (by decide) (fun c_1_ => ?_) (fun c_1_ => ?_)
      · have n_1_ := Int32.not_lt.mpr c_1_
        have q1 := cLe (hM.2.2.2.2.2.1) (rfl) (by omega) (by omega) c_1_
        refine j_iconst (v := 1) C dX12_areSo_43 (by decide) ?_
        refine j_zret C rfl ⟨rfl, _, rfl, ?_⟩ dX12_areSo_44
        obtain rfl : i = c_0_ := by omega
        exact ⟨rfl, Or.inl ⟨rfl, hS⟩⟩
      · have n_1_ := Int32.not_le.mp c_1_
        have q1 := cNe (hM.2.2.2.2.2.1) (rfl) (by omega) (by omega) c_1_
        obtain ⟨⟨t9, ht9, et9⟩, g9, hg9, eg9⟩ := hM.2.2.2.2.2.2.2.1 i (by omega)
        refine j_aload_n C dX12_areSo_10 rfl (lv_at hl 0 rfl) ?_
        refine j_aload_n C dX12_areSo_11 rfl (lv_at hl 0 rfl) ?_
        refine j_getR (k := 0) (k2 := 21) C (f_RX12_70_12) (ml (by decide)) (rfl) (rfl) dX12_areSo_12 ?_
        refine j_iload_n C dX12_areSo_15 rfl (lv_at hl 1 rfl) ?_
        refine j_ialdE (k := 21) (n := 8) (t := i) C (ml (by decide)) (rfl) (rfl) (rfl) (by omega) (by decide) dX12_areSo_16 ?_
        refine j_aload_n C dX12_areSo_17 rfl (lv_at hl 0 rfl) ?_
        refine j_getR (k := 0) (k2 := 22) C (f_RX12_73_12) (ml (by decide)) (rfl) (rfl) dX12_areSo_18 ?_
        refine j_iload_n C dX12_areSo_21 rfl (lv_at hl 1 rfl) ?_
        refine j_ialdE (k := 22) (n := 8) (t := i) C (ml (by decide)) (rfl) (rfl) (rfl) (by omega) (by decide) dX12_areSo_22 ?_
        refine j_callV (k := 0) C [.int (V 21 i), .int (V 22 i)] [] (k_X12_measureOf l ad V (V 21 i) (V 22 i) t9 (et9) (by omega) g9 (eg9) (by omega) ) v_RX12_179 (ml (by decide)) (rfl) rfl ⟨rfl, rfl, Nat.le_of_ble_eq_true rfl, Nat.le_of_ble_eq_true rfl⟩ rfl hl.1 rfl (Nat.le_of_ble_eq_true rfl) ⟨Nat.le_of_ble_eq_true rfl, Nat.le_of_ble_eq_true rfl⟩ dX12_areSo_23 (kI fun x_2_ U2 h_2_ => ?_)
        obtain ⟨eU2, h_2_⟩ := h_2_
        have eU2 := eU2.symm
        subst eU2
        refine j_aload_n C dX12_areSo_26 rfl (lv_at hl 0 rfl) ?_
        refine j_getR (k := 0) (k2 := 23) C (f_RX12_76_12) (ml (by decide)) (rfl) (rfl) dX12_areSo_27 ?_
        refine j_iload_n C dX12_areSo_30 rfl (lv_at hl 1 rfl) ?_
        refine j_ialdE (k := 23) (n := 8) (t := i) C (ml (by decide)) (rfl) (rfl) (rfl) (by omega) (by decide) dX12_areSo_31 ?_
        refine j_icmp_eq (tgt := 37) C dX12_areSo_32 (by decide) (fun c_3_ => ?_) (fun c_3_ => ?_)
        · skip
          refine j_iinc (v := nI (i + 1)) (lv2 := [(1, .int (nI (i + 1))), (0, .ref (ad (0)))]) C dX12_areSo_37 hl (k0 := 1) rfl (nI_1 _) (by decide) rfl (fun ls hl => ?_)
          refine j_goto (tgt := 2) C dX12_areSo_40 (by decide) ?_
          exact ih_loop (i + 1) (by omega) (soM_s hS et9 eg9 (by omega) (by omega) (h_2_.symm.trans c_3_)) (by omega) ls (lv_sub hl [1, 0] rfl)
        · skip
          refine j_iconst (v := 0) C dX12_areSo_35 (by decide) ?_
          refine j_zret C rfl ⟨rfl, _, rfl, ?_⟩ dX12_areSo_36
          refine ⟨rfl, Or.inr ⟨rfl, fun q => ?_⟩⟩
          have q2 := q i (by omega)
          rw [et9, eg9, nI_clamp (by omega), nI_clamp (by omega)] at q2
          exact c_3_ (h_2_.trans q2)
  exact loop (c_0_ + 1) 0 (by omega) (fun r h => absurd h (by omega)) (by omega) ls (lv_sub hl [1, 0] rfl)
abbrev rm_X12_leans : Room := { frames := 3, cells := 0, slots := 0, locals := 66 }
set_option maxHeartbeats 4000000 in
set_option maxRecDepth 100000 in
theorem k_X12_leans (l : Launch) (ad : Nat → Nat) (V : Vt) (z0 : Int32) (ng : Nat) (rr : Nat → Nat) (nt c_0_ : Nat) (hM : MI V ng rr nt c_0_)  : Ct l yX12_leans cX12_leans 5 (some .int) rm_X12_leans (mS ad) V [.ref (ad (0)), .int (z0)] (rI fun x V2 => V2 = V ∧ x = if ¬ z0 < 0 ∧ z0 < nI ng then setP (fun v => 0 ≤ v ∧ soM (up2 V 5 z0.toNatClampNeg (nI v)) c_0_) 10 else -1) := by
  refine Ct_of (by decide) (Nat.le_of_ble_eq_true rfl) ?_
  intro p e s m below meth c A D cy ls C hl
  have hl : lv_has ls 5 [(0, .ref (ad (0))), (1, .int (z0))] := hl
  have ng4 := hM.2.1
  have nt5 := hM.2.2.2.1
  refine j_aload_n C dX12_leans_0 rfl (lv_at hl 0 rfl) ?_
  refine j_iload_n C dX12_leans_1 rfl (lv_at hl 1 rfl) ?_
  refine j_callV (k := 0) C [.int (z0)] [] (k_X12_isGirl l ad V (z0)  ng hM.1 (by omega)) v_RX12_161 (ml (by decide)) (rfl) rfl ⟨rfl, rfl, Nat.le_of_ble_eq_true rfl, Nat.le_of_ble_eq_true rfl⟩ rfl hl.1 rfl (Nat.le_of_ble_eq_true rfl) ⟨Nat.le_of_ble_eq_true rfl, Nat.le_of_ble_eq_true rfl⟩ dX12_leans_2 (kI fun x_1_ U1 h_1_ => ?_)
  obtain ⟨eU1, h_1_⟩ := h_1_
  have eU1 := eU1.symm
  subst eU1
  rcases h_1_ with ⟨j_1_, hj1, ej1, ex1⟩ | ⟨ho1, ex1⟩
  · subst ex1
    refine j_if_ne (tgt := 10) C dX12_leans_5 (by decide) (fun c_2_ => ?_) (fun c_2_ => ?_)
    · skip
      refine j_aload_n C dX12_leans_10 rfl (lv_at hl 0 rfl) ?_
      refine j_getR (k := 0) (k2 := 5) C (f_RX12_22_12) (ml (by decide)) (rfl) (rfl) dX12_leans_11 ?_
      refine j_iload_n C dX12_leans_14 rfl (lv_at hl 1 rfl) ?_
      refine j_ialdE (k := 5) (n := 4) (t := j_1_) C (ml (by decide)) (rfl) (rfl) (ej1) (by omega) (by decide) dX12_leans_15 ?_
      refine j_istore_n (lv2 := [(2, .int (V 5 j_1_)), (0, .ref (ad (0))), (1, .int (z0))]) C dX12_leans_16 rfl hl (by decide) rfl (fun ls hl => ?_)
      refine j_iconst (v := 0) C dX12_leans_17 (by decide) ?_
      refine j_istore_n (lv2 := [(3, .int (0)), (2, .int (V 5 j_1_)), (0, .ref (ad (0))), (1, .int (z0))]) C dX12_leans_18 rfl hl (by decide) rfl (fun ls hl => ?_)
      refine j_iconst (v := 0) C dX12_leans_19 (by decide) ?_
      refine j_istore (lv2 := [(4, .int (0)), (3, .int (0)), (2, .int (V 5 j_1_)), (0, .ref (ad (0))), (1, .int (z0))]) C dX12_leans_20 hl (by decide) rfl (fun ls hl => ?_)
      have loop : ∀ (n_9_ : Nat) (v : Nat) (b : Int32) (y : Int32) (Vi : Vt), 0 ≤ v ∧ v ≤ 10 → Vi = up2 V 5 j_1_ y → b = setP (fun v => 0 ≤ v ∧ soM (up2 V 5 j_1_ (nI v)) c_0_) v → 10 - v < n_9_ → ∀ (ls : Array Slot), lv_has ls 5 [(0, .ref (ad (0))), (1, .int (z0)), (2, .int (V 5 j_1_)), (3, .int (b)), (4, .int (nI v))] → J p l e rm_X12_leans s m [.ref (ad (0)), .int (z0)].toArray below meth c A D cy 0 0 (MQ below (gPost D cy A (fun o9 σ2 V2 => σ2 = mS ad ∧ (rI fun x V2 => V2 = V ∧ x = if ¬ z0 < 0 ∧ z0 < nI ng then setP (fun v => 0 ≤ v ∧ soM (up2 V 5 z0.toNatClampNeg (nI v)) c_0_) 10 else -1) o9 V2)) [.ref (ad (0)), .int (z0)].toArray s 0 0 A) (mS ad) Vi (F0 m 22 ls []) := by
        intro n_9_
        induction n_9_ with
        | zero =>
          intro v b y Vi hv hV hb hm
          exact absurd hm (by omega)
        | succ n_9_ ih_loop =>
          intro v b y Vi hv hV hb hm ls hl
          refine j_iload C dX12_leans_22 (lv_at hl 4 rfl) ?_
          refine j_bipush (v := 9) C dX12_leans_24 (by decide) ?_
          refine j_icmp_gt (tgt := 61) C dX12_leans_26 (by decide) (fun c_3_ => ?_) (fun c_3_ => ?_)
          · have n_3_ := Int32.not_le.mpr c_3_
            have q3 := cLt (show (9 : Int32) = nI 9 from rfl) (rfl) (by omega) (by omega) c_3_
            refine j_aload_n C dX12_leans_61 rfl (lv_at hl 0 rfl) ?_
            refine j_getR (k := 0) (k2 := 5) C (f_RX12_22_12) (ml (by decide)) (rfl) (rfl) dX12_leans_62 ?_
            refine j_iload_n C dX12_leans_65 rfl (lv_at hl 1 rfl) ?_
            refine j_iload_n C dX12_leans_66 rfl (lv_at hl 2 rfl) ?_
            refine j_iastE (k := 5) (n := 4) (t := j_1_) C (ml (by decide)) (rfl) (rfl) (ej1) (by omega) (by decide) dX12_leans_67 (fun V1 eV1 => ?_)
            refine j_iload_n C dX12_leans_68 rfl (lv_at hl 3 rfl) ?_
            refine j_iret C ⟨rfl, _, rfl, ?_⟩ dX12_leans_69
            obtain rfl : v = 10 := by omega
            obtain ⟨hin1, hcl1⟩ := inz ej1 hj1 (by omega)
            refine ⟨by rw [eV1, hV, up2_up2, up2_self], ?_⟩
            rw [if_pos hin1, hcl1]
            exact hb
          · have n_3_ := Int32.not_lt.mp c_3_
            have q3 := cNl (show (9 : Int32) = nI 9 from rfl) (rfl) (by omega) (by omega) c_3_
            refine j_aload_n C dX12_leans_29 rfl (lv_at hl 0 rfl) ?_
            refine j_getR (k := 0) (k2 := 5) C (f_RX12_22_12) (ml (by decide)) (rfl) (rfl) dX12_leans_30 ?_
            refine j_iload_n C dX12_leans_33 rfl (lv_at hl 1 rfl) ?_
            refine j_iload C dX12_leans_34 (lv_at hl 4 rfl) ?_
            refine j_iastE (k := 5) (n := 4) (t := j_1_) C (ml (by decide)) (rfl) (rfl) (ej1) (by omega) (by decide) dX12_leans_36 (fun V2 eV2 => ?_)
            have e9 : V2 = up2 V 5 j_1_ (nI v) := by rw [eV2, hV, up2_up2]
            refine j_iload_n C dX12_leans_37 rfl (lv_at hl 3 rfl) ?_
            refine j_aload_n C dX12_leans_38 rfl (lv_at hl 0 rfl) ?_
            refine j_callV (k := 0) C [] [.int (b)] (k_X12_areSo l ad V2   ng rr nt c_0_ (by rw [e9]; exact MI_up (by decide) hM)) v_RX12_241 (ml (by decide)) (rfl) rfl ⟨rfl, rfl, Nat.le_of_ble_eq_true rfl, Nat.le_of_ble_eq_true rfl⟩ rfl hl.1 rfl (Nat.le_of_ble_eq_true rfl) ⟨Nat.le_of_ble_eq_true rfl, Nat.le_of_ble_eq_true rfl⟩ dX12_leans_39 (kI fun x_4_ U4 h_4_ => ?_)
            obtain ⟨eU4, h_4_⟩ := h_4_
            have eU4 := eU4.symm
            subst eU4
            rcases h_4_ with ⟨ex4, hs4⟩ | ⟨ex4, hs4⟩
            · subst ex4
              refine j_if_eq (tgt := 52) C dX12_leans_42 (by decide) (fun c_5_ => ?_) (fun c_5_ => ?_)
              · exact absurd c_5_ (by decide)
              · skip
                refine j_iconst (v := 1) C dX12_leans_45 (by decide) ?_
                refine j_iload C dX12_leans_46 (lv_at hl 4 rfl) ?_
                refine j_ishl C dX12_leans_48 ?_
                refine j_goto (tgt := 53) C dX12_leans_49 (by decide) ?_
                refine j_ior C dX12_leans_53 ?_
                refine j_istore_n (lv2 := [(3, .int (b ||| (1 <<< ((nI v) &&& 31)))), (0, .ref (ad (0))), (1, .int (z0)), (2, .int (V 5 j_1_)), (4, .int (nI v))]) C dX12_leans_54 rfl hl (by decide) rfl (fun ls hl => ?_)
                refine j_iinc (v := nI (v + 1)) (lv2 := [(4, .int (nI (v + 1))), (3, .int (b ||| (1 <<< ((nI v) &&& 31)))), (0, .ref (ad (0))), (1, .int (z0)), (2, .int (V 5 j_1_))]) C dX12_leans_55 hl (k0 := 4) rfl (nI_1 _) (by decide) rfl (fun ls hl => ?_)
                refine j_goto (tgt := 22) C dX12_leans_58 (by decide) ?_
                exact ih_loop (v + 1) (b ||| (1 <<< ((nI v) &&& 31))) (nI v) V2 (by omega) e9 (by rw [setP_y ⟨by omega, e9 ▸ hs4⟩, ← hb]) (by omega) ls (lv_sub hl [2, 3, 4, 1, 0] rfl)
            · subst ex4
              refine j_if_eq (tgt := 52) C dX12_leans_42 (by decide) (fun c_6_ => ?_) (fun c_6_ => ?_)
              · skip
                refine j_iconst (v := 0) C dX12_leans_52 (by decide) ?_
                refine j_ior C dX12_leans_53 ?_
                refine j_istore_n (lv2 := [(3, .int (b ||| 0)), (0, .ref (ad (0))), (1, .int (z0)), (2, .int (V 5 j_1_)), (4, .int (nI v))]) C dX12_leans_54 rfl hl (by decide) rfl (fun ls hl => ?_)
                refine j_iinc (v := nI (v + 1)) (lv2 := [(4, .int (nI (v + 1))), (3, .int (b ||| 0)), (0, .ref (ad (0))), (1, .int (z0)), (2, .int (V 5 j_1_))]) C dX12_leans_55 hl (k0 := 4) rfl (nI_1 _) (by decide) rfl (fun ls hl => ?_)
                refine j_goto (tgt := 22) C dX12_leans_58 (by decide) ?_
                exact ih_loop (v + 1) (b ||| 0) (nI v) V2 (by omega) e9 (by rw [setP_n (fun q => hs4 (e9 ▸ q.2)), ← hb]; exact Int32.or_zero) (by omega) ls (lv_sub hl [2, 3, 4, 1, 0] rfl)
              · exact absurd rfl c_6_
      exact loop 11 0 0 (V 5 j_1_) V (by omega) (by rw [up2_self]) (by rfl) (by omega) ls (lv_sub hl [3, 4, 2, 1, 0] rfl)
    · exact absurd c_2_ (by decide)
  · subst ex1
    refine j_if_ne (tgt := 10) C dX12_leans_5 (by decide) (fun c_7_ => ?_) (fun c_7_ => ?_)
    · exact absurd rfl c_7_
    · skip
      refine j_iconst (v := (-1)) C dX12_leans_8 (by decide) ?_
      refine j_iret C ⟨rfl, _, rfl, ?_⟩ dX12_leans_9
      have hot1 := outR ho1
      exact ⟨rfl, by rw [if_neg hot1]⟩
abbrev rm_X12_arms : Room := { frames := 3, cells := 0, slots := 0, locals := 66 }
set_option maxHeartbeats 4000000 in
set_option maxRecDepth 100000 in
theorem k_X12_arms (l : Launch) (ad : Nat → Nat) (V : Vt) (z0 : Int32) (ng : Nat) (rr : Nat → Nat) (nt c_0_ : Nat) (hM : MI V ng rr nt c_0_)  : Ct l yX12_arms cX12_arms 5 (some .int) rm_X12_arms (mS ad) V [.ref (ad (0)), .int (z0)] (rI fun x V2 => V2 = V ∧ x = if ¬ z0 < 0 ∧ z0 < nI nt then setP (fun v => 1 ≤ v ∧ soM (up2 V 7 z0.toNatClampNeg (nI v)) c_0_) 10 else -1) := by
  refine Ct_of (by decide) (Nat.le_of_ble_eq_true rfl) ?_
  intro p e s m below meth c A D cy ls C hl
  have hl : lv_has ls 5 [(0, .ref (ad (0))), (1, .int (z0))] := hl
  have ng4 := hM.2.1
  have nt5 := hM.2.2.2.1
  refine j_aload_n C dX12_arms_0 rfl (lv_at hl 0 rfl) ?_
  refine j_iload_n C dX12_arms_1 rfl (lv_at hl 1 rfl) ?_
  refine j_callV (k := 0) C [.int (z0)] [] (k_X12_isThrower l ad V (z0)  nt hM.2.2.1 hM.2.2.2.1) v_RX12_170 (ml (by decide)) (rfl) rfl ⟨rfl, rfl, Nat.le_of_ble_eq_true rfl, Nat.le_of_ble_eq_true rfl⟩ rfl hl.1 rfl (Nat.le_of_ble_eq_true rfl) ⟨Nat.le_of_ble_eq_true rfl, Nat.le_of_ble_eq_true rfl⟩ dX12_arms_2 (kI fun x_1_ U1 h_1_ => ?_)
  obtain ⟨eU1, h_1_⟩ := h_1_
  have eU1 := eU1.symm
  subst eU1
  rcases h_1_ with ⟨j_1_, hj1, ej1, ex1⟩ | ⟨ho1, ex1⟩
  · subst ex1
    refine j_if_ne (tgt := 10) C dX12_arms_5 (by decide) (fun c_2_ => ?_) (fun c_2_ => ?_)
    · skip
      refine j_aload_n C dX12_arms_10 rfl (lv_at hl 0 rfl) ?_
      refine j_getR (k := 0) (k2 := 7) C (f_RX12_28_12) (ml (by decide)) (rfl) (rfl) dX12_arms_11 ?_
      refine j_iload_n C dX12_arms_14 rfl (lv_at hl 1 rfl) ?_
      refine j_ialdE (k := 7) (n := 5) (t := j_1_) C (ml (by decide)) (rfl) (rfl) (ej1) (by omega) (by decide) dX12_arms_15 ?_
      refine j_istore_n (lv2 := [(2, .int (V 7 j_1_)), (0, .ref (ad (0))), (1, .int (z0))]) C dX12_arms_16 rfl hl (by decide) rfl (fun ls hl => ?_)
      refine j_iconst (v := 0) C dX12_arms_17 (by decide) ?_
      refine j_istore_n (lv2 := [(3, .int (0)), (2, .int (V 7 j_1_)), (0, .ref (ad (0))), (1, .int (z0))]) C dX12_arms_18 rfl hl (by decide) rfl (fun ls hl => ?_)
      refine j_iconst (v := 1) C dX12_arms_19 (by decide) ?_
      refine j_istore (lv2 := [(4, .int (1)), (3, .int (0)), (2, .int (V 7 j_1_)), (0, .ref (ad (0))), (1, .int (z0))]) C dX12_arms_20 hl (by decide) rfl (fun ls hl => ?_)
      have loop : ∀ (n_9_ : Nat) (v : Nat) (b : Int32) (y : Int32) (Vi : Vt), 1 ≤ v ∧ v ≤ 10 → Vi = up2 V 7 j_1_ y → b = setP (fun v => 1 ≤ v ∧ soM (up2 V 7 j_1_ (nI v)) c_0_) v → 10 - v < n_9_ → ∀ (ls : Array Slot), lv_has ls 5 [(0, .ref (ad (0))), (1, .int (z0)), (2, .int (V 7 j_1_)), (3, .int (b)), (4, .int (nI v))] → J p l e rm_X12_arms s m [.ref (ad (0)), .int (z0)].toArray below meth c A D cy 0 0 (MQ below (gPost D cy A (fun o9 σ2 V2 => σ2 = mS ad ∧ (rI fun x V2 => V2 = V ∧ x = if ¬ z0 < 0 ∧ z0 < nI nt then setP (fun v => 1 ≤ v ∧ soM (up2 V 7 z0.toNatClampNeg (nI v)) c_0_) 10 else -1) o9 V2)) [.ref (ad (0)), .int (z0)].toArray s 0 0 A) (mS ad) Vi (F0 m 22 ls []) := by
        intro n_9_
        induction n_9_ with
        | zero =>
          intro v b y Vi hv hV hb hm
          exact absurd hm (by omega)
        | succ n_9_ ih_loop =>
          intro v b y Vi hv hV hb hm ls hl
          refine j_iload C dX12_arms_22 (lv_at hl 4 rfl) ?_
          refine j_bipush (v := 9) C dX12_arms_24 (by decide) ?_
          refine j_icmp_gt (tgt := 61) C dX12_arms_26 (by decide) (fun c_3_ => ?_) (fun c_3_ => ?_)
          · have n_3_ := Int32.not_le.mpr c_3_
            have q3 := cLt (show (9 : Int32) = nI 9 from rfl) (rfl) (by omega) (by omega) c_3_
            refine j_aload_n C dX12_arms_61 rfl (lv_at hl 0 rfl) ?_
            refine j_getR (k := 0) (k2 := 7) C (f_RX12_28_12) (ml (by decide)) (rfl) (rfl) dX12_arms_62 ?_
            refine j_iload_n C dX12_arms_65 rfl (lv_at hl 1 rfl) ?_
            refine j_iload_n C dX12_arms_66 rfl (lv_at hl 2 rfl) ?_
            refine j_iastE (k := 7) (n := 5) (t := j_1_) C (ml (by decide)) (rfl) (rfl) (ej1) (by omega) (by decide) dX12_arms_67 (fun V1 eV1 => ?_)
            refine j_iload_n C dX12_arms_68 rfl (lv_at hl 3 rfl) ?_
            refine j_iret C ⟨rfl, _, rfl, ?_⟩ dX12_arms_69
            obtain rfl : v = 10 := by omega
            obtain ⟨hin1, hcl1⟩ := inz ej1 hj1 (by omega)
            refine ⟨by rw [eV1, hV, up2_up2, up2_self], ?_⟩
            rw [if_pos hin1, hcl1]
            exact hb
          · have n_3_ := Int32.not_lt.mp c_3_
            have q3 := cNl (show (9 : Int32) = nI 9 from rfl) (rfl) (by omega) (by omega) c_3_
            refine j_aload_n C dX12_arms_29 rfl (lv_at hl 0 rfl) ?_
            refine j_getR (k := 0) (k2 := 7) C (f_RX12_28_12) (ml (by decide)) (rfl) (rfl) dX12_arms_30 ?_
            refine j_iload_n C dX12_arms_33 rfl (lv_at hl 1 rfl) ?_
            refine j_iload C dX12_arms_34 (lv_at hl 4 rfl) ?_
            refine j_iastE (k := 7) (n := 5) (t := j_1_) C (ml (by decide)) (rfl) (rfl) (ej1) (by omega) (by decide) dX12_arms_36 (fun V2 eV2 => ?_)
            have e9 : V2 = up2 V 7 j_1_ (nI v) := by rw [eV2, hV, up2_up2]
            refine j_iload_n C dX12_arms_37 rfl (lv_at hl 3 rfl) ?_
            refine j_aload_n C dX12_arms_38 rfl (lv_at hl 0 rfl) ?_
            refine j_callV (k := 0) C [] [.int (b)] (k_X12_areSo l ad V2   ng rr nt c_0_ (by rw [e9]; exact MI_up (by decide) hM)) v_RX12_241 (ml (by decide)) (rfl) rfl ⟨rfl, rfl, Nat.le_of_ble_eq_true rfl, Nat.le_of_ble_eq_true rfl⟩ rfl hl.1 rfl (Nat.le_of_ble_eq_true rfl) ⟨Nat.le_of_ble_eq_true rfl, Nat.le_of_ble_eq_true rfl⟩ dX12_arms_39 (kI fun x_4_ U4 h_4_ => ?_)
            obtain ⟨eU4, h_4_⟩ := h_4_
            have eU4 := eU4.symm
            subst eU4
            rcases h_4_ with ⟨ex4, hs4⟩ | ⟨ex4, hs4⟩
            · subst ex4
              refine j_if_eq (tgt := 52) C dX12_arms_42 (by decide) (fun c_5_ => ?_) (fun c_5_ => ?_)
              · exact absurd c_5_ (by decide)
              · skip
                refine j_iconst (v := 1) C dX12_arms_45 (by decide) ?_
                refine j_iload C dX12_arms_46 (lv_at hl 4 rfl) ?_
                refine j_ishl C dX12_arms_48 ?_
                refine j_goto (tgt := 53) C dX12_arms_49 (by decide) ?_
                refine j_ior C dX12_arms_53 ?_
                refine j_istore_n (lv2 := [(3, .int (b ||| (1 <<< ((nI v) &&& 31)))), (0, .ref (ad (0))), (1, .int (z0)), (2, .int (V 7 j_1_)), (4, .int (nI v))]) C dX12_arms_54 rfl hl (by decide) rfl (fun ls hl => ?_)
                refine j_iinc (v := nI (v + 1)) (lv2 := [(4, .int (nI (v + 1))), (3, .int (b ||| (1 <<< ((nI v) &&& 31)))), (0, .ref (ad (0))), (1, .int (z0)), (2, .int (V 7 j_1_))]) C dX12_arms_55 hl (k0 := 4) rfl (nI_1 _) (by decide) rfl (fun ls hl => ?_)
                refine j_goto (tgt := 22) C dX12_arms_58 (by decide) ?_
                exact ih_loop (v + 1) (b ||| (1 <<< ((nI v) &&& 31))) (nI v) V2 (by omega) e9 (by rw [setP_y ⟨by omega, e9 ▸ hs4⟩, ← hb]) (by omega) ls (lv_sub hl [2, 3, 4, 1, 0] rfl)
            · subst ex4
              refine j_if_eq (tgt := 52) C dX12_arms_42 (by decide) (fun c_6_ => ?_) (fun c_6_ => ?_)
              · skip
                refine j_iconst (v := 0) C dX12_arms_52 (by decide) ?_
                refine j_ior C dX12_arms_53 ?_
                refine j_istore_n (lv2 := [(3, .int (b ||| 0)), (0, .ref (ad (0))), (1, .int (z0)), (2, .int (V 7 j_1_)), (4, .int (nI v))]) C dX12_arms_54 rfl hl (by decide) rfl (fun ls hl => ?_)
                refine j_iinc (v := nI (v + 1)) (lv2 := [(4, .int (nI (v + 1))), (3, .int (b ||| 0)), (0, .ref (ad (0))), (1, .int (z0)), (2, .int (V 7 j_1_))]) C dX12_arms_55 hl (k0 := 4) rfl (nI_1 _) (by decide) rfl (fun ls hl => ?_)
                refine j_goto (tgt := 22) C dX12_arms_58 (by decide) ?_
                exact ih_loop (v + 1) (b ||| 0) (nI v) V2 (by omega) e9 (by rw [setP_n (fun q => hs4 (e9 ▸ q.2)), ← hb]; exact Int32.or_zero) (by omega) ls (lv_sub hl [2, 3, 4, 1, 0] rfl)
              · exact absurd rfl c_6_
      exact loop 11 1 0 (V 7 j_1_) V (by omega) (by rw [up2_self]) (by exact (setP_n (P := (fun v => 1 ≤ v ∧ soM (up2 V 7 j_1_ (nI v)) c_0_)) (g := 0) (fun q => absurd q.1 (by decide))).symm) (by omega) ls (lv_sub hl [3, 4, 2, 1, 0] rfl)
    · exact absurd c_2_ (by decide)
  · subst ex1
    refine j_if_ne (tgt := 10) C dX12_arms_5 (by decide) (fun c_7_ => ?_) (fun c_7_ => ?_)
    · exact absurd rfl c_7_
    · skip
      refine j_iconst (v := (-1)) C dX12_arms_8 (by decide) ?_
      refine j_iret C ⟨rfl, _, rfl, ?_⟩ dX12_arms_9
      have hot1 := outR ho1
      exact ⟨rfl, by rw [if_neg hot1]⟩
abbrev rm_X12_kinds : Room := { frames := 3, cells := 0, slots := 0, locals := 66 }
set_option maxHeartbeats 4000000 in
set_option maxRecDepth 100000 in
theorem k_X12_kinds (l : Launch) (ad : Nat → Nat) (V : Vt) (z0 : Int32) (ng : Nat) (rr : Nat → Nat) (nt c_0_ : Nat) (hM : MI V ng rr nt c_0_)  : Ct l yX12_kinds cX12_kinds 5 (some .int) rm_X12_kinds (mS ad) V [.ref (ad (0)), .int (z0)] (rI fun x V2 => V2 = V ∧ x = if ¬ z0 < 0 ∧ z0 < nI nt then setP (fun v => 0 ≤ v ∧ soM (up2 V 6 z0.toNatClampNeg (nI v)) c_0_) 3 else -1) := by
  refine Ct_of (by decide) (Nat.le_of_ble_eq_true rfl) ?_
  intro p e s m below meth c A D cy ls C hl
  have hl : lv_has ls 5 [(0, .ref (ad (0))), (1, .int (z0))] := hl
  have ng4 := hM.2.1
  have nt5 := hM.2.2.2.1
  refine j_aload_n C dX12_kinds_0 rfl (lv_at hl 0 rfl) ?_
  refine j_iload_n C dX12_kinds_1 rfl (lv_at hl 1 rfl) ?_
  refine j_callV (k := 0) C [.int (z0)] [] (k_X12_isThrower l ad V (z0)  nt hM.2.2.1 hM.2.2.2.1) v_RX12_170 (ml (by decide)) (rfl) rfl ⟨rfl, rfl, Nat.le_of_ble_eq_true rfl, Nat.le_of_ble_eq_true rfl⟩ rfl hl.1 rfl (Nat.le_of_ble_eq_true rfl) ⟨Nat.le_of_ble_eq_true rfl, Nat.le_of_ble_eq_true rfl⟩ dX12_kinds_2 (kI fun x_1_ U1 h_1_ => ?_)
  obtain ⟨eU1, h_1_⟩ := h_1_
  have eU1 := eU1.symm
  subst eU1
  rcases h_1_ with ⟨j_1_, hj1, ej1, ex1⟩ | ⟨ho1, ex1⟩
  · subst ex1
    refine j_if_ne (tgt := 10) C dX12_kinds_5 (by decide) (fun c_2_ => ?_) (fun c_2_ => ?_)
    · skip
      refine j_aload_n C dX12_kinds_10 rfl (lv_at hl 0 rfl) ?_
      refine j_getR (k := 0) (k2 := 6) C (f_RX12_25_12) (ml (by decide)) (rfl) (rfl) dX12_kinds_11 ?_
      refine j_iload_n C dX12_kinds_14 rfl (lv_at hl 1 rfl) ?_
      refine j_ialdE (k := 6) (n := 5) (t := j_1_) C (ml (by decide)) (rfl) (rfl) (ej1) (by omega) (by decide) dX12_kinds_15 ?_
      refine j_istore_n (lv2 := [(2, .int (V 6 j_1_)), (0, .ref (ad (0))), (1, .int (z0))]) C dX12_kinds_16 rfl hl (by decide) rfl (fun ls hl => ?_)
      refine j_iconst (v := 0) C dX12_kinds_17 (by decide) ?_
      refine j_istore_n (lv2 := [(3, .int (0)), (2, .int (V 6 j_1_)), (0, .ref (ad (0))), (1, .int (z0))]) C dX12_kinds_18 rfl hl (by decide) rfl (fun ls hl => ?_)
      refine j_iconst (v := 0) C dX12_kinds_19 (by decide) ?_
      refine j_istore (lv2 := [(4, .int (0)), (3, .int (0)), (2, .int (V 6 j_1_)), (0, .ref (ad (0))), (1, .int (z0))]) C dX12_kinds_20 hl (by decide) rfl (fun ls hl => ?_)
      have loop : ∀ (n_9_ : Nat) (v : Nat) (b : Int32) (y : Int32) (Vi : Vt), 0 ≤ v ∧ v ≤ 3 → Vi = up2 V 6 j_1_ y → b = setP (fun v => 0 ≤ v ∧ soM (up2 V 6 j_1_ (nI v)) c_0_) v → 3 - v < n_9_ → ∀ (ls : Array Slot), lv_has ls 5 [(0, .ref (ad (0))), (1, .int (z0)), (2, .int (V 6 j_1_)), (3, .int (b)), (4, .int (nI v))] → J p l e rm_X12_kinds s m [.ref (ad (0)), .int (z0)].toArray below meth c A D cy 0 0 (MQ below (gPost D cy A (fun o9 σ2 V2 => σ2 = mS ad ∧ (rI fun x V2 => V2 = V ∧ x = if ¬ z0 < 0 ∧ z0 < nI nt then setP (fun v => 0 ≤ v ∧ soM (up2 V 6 z0.toNatClampNeg (nI v)) c_0_) 3 else -1) o9 V2)) [.ref (ad (0)), .int (z0)].toArray s 0 0 A) (mS ad) Vi (F0 m 22 ls []) := by
        intro n_9_
        induction n_9_ with
        | zero =>
          intro v b y Vi hv hV hb hm
          exact absurd hm (by omega)
        | succ n_9_ ih_loop =>
          intro v b y Vi hv hV hb hm ls hl
          refine j_iload C dX12_kinds_22 (lv_at hl 4 rfl) ?_
          refine j_iconst (v := 3) C dX12_kinds_24 (by decide) ?_
          refine j_icmp_ge (tgt := 60) C dX12_kinds_25 (by decide) (fun c_3_ => ?_) (fun c_3_ => ?_)
          · have n_3_ := Int32.not_lt.mpr c_3_
            have q3 := cLe (show (3 : Int32) = nI 3 from rfl) (rfl) (by omega) (by omega) c_3_
            refine j_aload_n C dX12_kinds_60 rfl (lv_at hl 0 rfl) ?_
            refine j_getR (k := 0) (k2 := 6) C (f_RX12_25_12) (ml (by decide)) (rfl) (rfl) dX12_kinds_61 ?_
            refine j_iload_n C dX12_kinds_64 rfl (lv_at hl 1 rfl) ?_
            refine j_iload_n C dX12_kinds_65 rfl (lv_at hl 2 rfl) ?_
            refine j_iastE (k := 6) (n := 5) (t := j_1_) C (ml (by decide)) (rfl) (rfl) (ej1) (by omega) (by decide) dX12_kinds_66 (fun V1 eV1 => ?_)
            refine j_iload_n C dX12_kinds_67 rfl (lv_at hl 3 rfl) ?_
            refine j_iret C ⟨rfl, _, rfl, ?_⟩ dX12_kinds_68
            obtain rfl : v = 3 := by omega
            obtain ⟨hin1, hcl1⟩ := inz ej1 hj1 (by omega)
            refine ⟨by rw [eV1, hV, up2_up2, up2_self], ?_⟩
            rw [if_pos hin1, hcl1]
            exact hb
          · have n_3_ := Int32.not_le.mp c_3_
            have q3 := cNe (show (3 : Int32) = nI 3 from rfl) (rfl) (by omega) (by omega) c_3_
            refine j_aload_n C dX12_kinds_28 rfl (lv_at hl 0 rfl) ?_
            refine j_getR (k := 0) (k2 := 6) C (f_RX12_25_12) (ml (by decide)) (rfl) (rfl) dX12_kinds_29 ?_
            refine j_iload_n C dX12_kinds_32 rfl (lv_at hl 1 rfl) ?_
            refine j_iload C dX12_kinds_33 (lv_at hl 4 rfl) ?_
            refine j_iastE (k := 6) (n := 5) (t := j_1_) C (ml (by decide)) (rfl) (rfl) (ej1) (by omega) (by decide) dX12_kinds_35 (fun V2 eV2 => ?_)
            have e9 : V2 = up2 V 6 j_1_ (nI v) := by rw [eV2, hV, up2_up2]
            refine j_iload_n C dX12_kinds_36 rfl (lv_at hl 3 rfl) ?_
            refine j_aload_n C dX12_kinds_37 rfl (lv_at hl 0 rfl) ?_
            refine j_callV (k := 0) C [] [.int (b)] (k_X12_areSo l ad V2   ng rr nt c_0_ (by rw [e9]; exact MI_up (by decide) hM)) v_RX12_241 (ml (by decide)) (rfl) rfl ⟨rfl, rfl, Nat.le_of_ble_eq_true rfl, Nat.le_of_ble_eq_true rfl⟩ rfl hl.1 rfl (Nat.le_of_ble_eq_true rfl) ⟨Nat.le_of_ble_eq_true rfl, Nat.le_of_ble_eq_true rfl⟩ dX12_kinds_38 (kI fun x_4_ U4 h_4_ => ?_)
            obtain ⟨eU4, h_4_⟩ := h_4_
            have eU4 := eU4.symm
            subst eU4
            rcases h_4_ with ⟨ex4, hs4⟩ | ⟨ex4, hs4⟩
            · subst ex4
              refine j_if_eq (tgt := 51) C dX12_kinds_41 (by decide) (fun c_5_ => ?_) (fun c_5_ => ?_)
              · exact absurd c_5_ (by decide)
              · skip
                refine j_iconst (v := 1) C dX12_kinds_44 (by decide) ?_
                refine j_iload C dX12_kinds_45 (lv_at hl 4 rfl) ?_
                refine j_ishl C dX12_kinds_47 ?_
                refine j_goto (tgt := 52) C dX12_kinds_48 (by decide) ?_
                refine j_ior C dX12_kinds_52 ?_
                refine j_istore_n (lv2 := [(3, .int (b ||| (1 <<< ((nI v) &&& 31)))), (0, .ref (ad (0))), (1, .int (z0)), (2, .int (V 6 j_1_)), (4, .int (nI v))]) C dX12_kinds_53 rfl hl (by decide) rfl (fun ls hl => ?_)
                refine j_iinc (v := nI (v + 1)) (lv2 := [(4, .int (nI (v + 1))), (3, .int (b ||| (1 <<< ((nI v) &&& 31)))), (0, .ref (ad (0))), (1, .int (z0)), (2, .int (V 6 j_1_))]) C dX12_kinds_54 hl (k0 := 4) rfl (nI_1 _) (by decide) rfl (fun ls hl => ?_)
                refine j_goto (tgt := 22) C dX12_kinds_57 (by decide) ?_
                exact ih_loop (v + 1) (b ||| (1 <<< ((nI v) &&& 31))) (nI v) V2 (by omega) e9 (by rw [setP_y ⟨by omega, e9 ▸ hs4⟩, ← hb]) (by omega) ls (lv_sub hl [2, 3, 4, 1, 0] rfl)
            · subst ex4
              refine j_if_eq (tgt := 51) C dX12_kinds_41 (by decide) (fun c_6_ => ?_) (fun c_6_ => ?_)
              · skip
                refine j_iconst (v := 0) C dX12_kinds_51 (by decide) ?_
                refine j_ior C dX12_kinds_52 ?_
                refine j_istore_n (lv2 := [(3, .int (b ||| 0)), (0, .ref (ad (0))), (1, .int (z0)), (2, .int (V 6 j_1_)), (4, .int (nI v))]) C dX12_kinds_53 rfl hl (by decide) rfl (fun ls hl => ?_)
                refine j_iinc (v := nI (v + 1)) (lv2 := [(4, .int (nI (v + 1))), (3, .int (b ||| 0)), (0, .ref (ad (0))), (1, .int (z0)), (2, .int (V 6 j_1_))]) C dX12_kinds_54 hl (k0 := 4) rfl (nI_1 _) (by decide) rfl (fun ls hl => ?_)
                refine j_goto (tgt := 22) C dX12_kinds_57 (by decide) ?_
                exact ih_loop (v + 1) (b ||| 0) (nI v) V2 (by omega) e9 (by rw [setP_n (fun q => hs4 (e9 ▸ q.2)), ← hb]; exact Int32.or_zero) (by omega) ls (lv_sub hl [2, 3, 4, 1, 0] rfl)
              · exact absurd rfl c_6_
      exact loop 4 0 0 (V 6 j_1_) V (by omega) (by rw [up2_self]) (by rfl) (by omega) ls (lv_sub hl [3, 4, 2, 1, 0] rfl)
    · exact absurd c_2_ (by decide)
  · subst ex1
    refine j_if_ne (tgt := 10) C dX12_kinds_5 (by decide) (fun c_7_ => ?_) (fun c_7_ => ?_)
    · exact absurd rfl c_7_
    · skip
      refine j_iconst (v := (-1)) C dX12_kinds_8 (by decide) ?_
      refine j_iret C ⟨rfl, _, rfl, ?_⟩ dX12_kinds_9
      have hot1 := outR ho1
      exact ⟨rfl, by rw [if_neg hot1]⟩
abbrev rm_X12_even : Room := { frames := 2, cells := 0, slots := 0, locals := 45 }
set_option maxHeartbeats 4000000 in
set_option maxRecDepth 100000 in
theorem k_X12_even (l : Launch) (ad : Nat → Nat) (V : Vt) (z0 z1 z2 : Int32) (ng : Nat) (rr : Nat → Nat) (nt c_0_ : Nat) (hM : MI V ng rr nt c_0_)  : Ct l yX12_even cX12_even 9 (some .int) rm_X12_even (mS ad) V [.ref (ad (0)), .int (z0), .int (z1), .int (z2)] (rI fun x V2 => V2 = V ∧ x = if ¬ z0 < 0 ∧ z0 < nI nt then (if ¬ z1 < 0 ∧ z1 < nI nt then (if z0 = z1 then -1 else (if ¬ z2 < 0 ∧ z2 < nI ng then evI (rchM (V 6 z0.toNatClampNeg) (V 7 z0.toNatClampNeg)) (rchM (V 6 z1.toNatClampNeg) (V 7 z1.toNatClampNeg)) (V 5 z2.toNatClampNeg) (V 0 5) (V 4 z2.toNatClampNeg) 9 else -1)) else -1) else -1) := by
  refine Ct_of (by decide) (Nat.le_of_ble_eq_true rfl) ?_
  intro p e s m below meth c A D cy ls C hl
  have hl : lv_has ls 9 [(0, .ref (ad (0))), (1, .int (z0)), (2, .int (z1)), (3, .int (z2))] := hl
  have ng4 := hM.2.1
  have nt5 := hM.2.2.2.1
  refine j_aload_n C dX12_even_0 rfl (lv_at hl 0 rfl) ?_
  refine j_iload_n C dX12_even_1 rfl (lv_at hl 1 rfl) ?_
  refine j_callV (k := 0) C [.int (z0)] [] (k_X12_isThrower l ad V (z0)  nt hM.2.2.1 hM.2.2.2.1) v_RX12_170 (ml (by decide)) (rfl) rfl ⟨rfl, rfl, Nat.le_of_ble_eq_true rfl, Nat.le_of_ble_eq_true rfl⟩ rfl hl.1 rfl (Nat.le_of_ble_eq_true rfl) ⟨Nat.le_of_ble_eq_true rfl, Nat.le_of_ble_eq_true rfl⟩ dX12_even_2 (kI fun x_1_ U1 h_1_ => ?_)
  obtain ⟨eU1, h_1_⟩ := h_1_
  have eU1 := eU1.symm
  subst eU1
  rcases h_1_ with ⟨j_1_, hj1, ej1, ex1⟩ | ⟨ho1, ex1⟩
  · subst ex1
    refine j_if_eq (tgt := 29) C dX12_even_5 (by decide) (fun c_2_ => ?_) (fun c_2_ => ?_)
    · exact absurd c_2_ (by decide)
    · skip
      refine j_aload_n C dX12_even_8 rfl (lv_at hl 0 rfl) ?_
      refine j_iload_n C dX12_even_9 rfl (lv_at hl 2 rfl) ?_
      refine j_callV (k := 0) C [.int (z1)] [] (k_X12_isThrower l ad V (z1)  nt hM.2.2.1 hM.2.2.2.1) v_RX12_170 (ml (by decide)) (rfl) rfl ⟨rfl, rfl, Nat.le_of_ble_eq_true rfl, Nat.le_of_ble_eq_true rfl⟩ rfl hl.1 rfl (Nat.le_of_ble_eq_true rfl) ⟨Nat.le_of_ble_eq_true rfl, Nat.le_of_ble_eq_true rfl⟩ dX12_even_10 (kI fun x_3_ U3 h_3_ => ?_)
      obtain ⟨eU3, h_3_⟩ := h_3_
      have eU3 := eU3.symm
      subst eU3
      rcases h_3_ with ⟨j_3_, hj3, ej3, ex3⟩ | ⟨ho3, ex3⟩
      · subst ex3
        refine j_if_eq (tgt := 29) C dX12_even_13 (by decide) (fun c_4_ => ?_) (fun c_4_ => ?_)
        · exact absurd c_4_ (by decide)
        · skip
          refine j_iload_n C dX12_even_16 rfl (lv_at hl 1 rfl) ?_
          refine j_iload_n C dX12_even_17 rfl (lv_at hl 2 rfl) ?_
          refine j_icmp_eq (tgt := 29) C dX12_even_18 (by decide) (fun c_5_ => ?_) (fun c_5_ => ?_)
          · skip
            have q5 := cEq (ej1) (ej3) (by omega) (by omega) c_5_
            refine j_iconst (v := (-1)) C dX12_even_29 (by decide) ?_
            refine j_iret C ⟨rfl, _, rfl, ?_⟩ dX12_even_30
            obtain ⟨hin1⟩ := inz ej1 hj1 (by omega)
            obtain ⟨hin3⟩ := inz ej3 hj3 (by omega)
            refine ⟨?_, ?_⟩
            · first | (simp only [if_pos hin1, if_pos hin3, if_pos c_5_]; done) | (simp only [if_pos hin1, if_pos hin3, if_pos c_5_]; rfl)
            · first | (simp only [if_pos hin1, if_pos hin3, if_pos c_5_]; done) | (simp only [if_pos hin1, if_pos hin3, if_pos c_5_]; rfl)
          · skip
            have q5 := cNq (ej1) (ej3) (by omega) (by omega) c_5_
            have nq9 := c_5_
            refine j_aload_n C dX12_even_21 rfl (lv_at hl 0 rfl) ?_
            refine j_iload_n C dX12_even_22 rfl (lv_at hl 3 rfl) ?_
            refine j_callV (k := 0) C [.int (z2)] [] (k_X12_isGirl l ad V (z2)  ng hM.1 (by omega)) v_RX12_161 (ml (by decide)) (rfl) rfl ⟨rfl, rfl, Nat.le_of_ble_eq_true rfl, Nat.le_of_ble_eq_true rfl⟩ rfl hl.1 rfl (Nat.le_of_ble_eq_true rfl) ⟨Nat.le_of_ble_eq_true rfl, Nat.le_of_ble_eq_true rfl⟩ dX12_even_23 (kI fun x_6_ U6 h_6_ => ?_)
            obtain ⟨eU6, h_6_⟩ := h_6_
            have eU6 := eU6.symm
            subst eU6
            rcases h_6_ with ⟨j_6_, hj6, ej6, ex6⟩ | ⟨ho6, ex6⟩
            · subst ex6
              skip
              refine j_if_ne (tgt := 31) C dX12_even_26 (by decide) (fun c_7_ => ?_) (fun c_7_ => ?_)
              · skip
                refine j_aload_n C dX12_even_31 rfl (lv_at hl 0 rfl) ?_
                refine j_getR (k := 0) (k2 := 4) C (f_RX12_19_12) (ml (by decide)) (rfl) (rfl) dX12_even_32 ?_
                refine j_iload_n C dX12_even_35 rfl (lv_at hl 3 rfl) ?_
                refine j_ialdE (k := 4) (n := 4) (t := j_6_) C (ml (by decide)) (rfl) (rfl) (ej6) (by omega) (by decide) dX12_even_36 ?_
                refine j_istore (lv2 := [(4, .int (V 4 j_6_)), (0, .ref (ad (0))), (1, .int (z0)), (2, .int (z1)), (3, .int (z2))]) C dX12_even_37 hl (by decide) rfl (fun ls hl => ?_)
                refine j_bipush (v := (-9)) C dX12_even_39 (by decide) ?_
                refine j_istore (lv2 := [(5, .int ((-9))), (4, .int (V 4 j_6_)), (0, .ref (ad (0))), (1, .int (z0)), (2, .int (z1)), (3, .int (z2))]) C dX12_even_41 hl (by decide) rfl (fun ls hl => ?_)
                refine j_iconst (v := 0) C dX12_even_43 (by decide) ?_
                refine j_istore (lv2 := [(6, .int (0)), (5, .int ((-9))), (4, .int (V 4 j_6_)), (0, .ref (ad (0))), (1, .int (z0)), (2, .int (z1)), (3, .int (z2))]) C dX12_even_44 hl (by decide) rfl (fun ls hl => ?_)
                refine j_iconst (v := 1) C dX12_even_46 (by decide) ?_
                refine j_istore (lv2 := [(7, .int (1)), (6, .int (0)), (5, .int ((-9))), (4, .int (V 4 j_6_)), (0, .ref (ad (0))), (1, .int (z0)), (2, .int (z1)), (3, .int (z2))]) C dX12_even_47 hl (by decide) rfl (fun ls hl => ?_)
                have loop : ∀ (n_9_ : Nat) (v : Nat) (b : Int32) (lb : Int32) (y : Int32) (Vi : Vt), v ≤ 9 → Vi = up2 V 4 j_6_ y → b = evI (rchM (V 6 j_1_) (V 7 j_1_)) (rchM (V 6 j_3_) (V 7 j_3_)) (V 5 j_6_) (V 0 5) (V 4 j_6_) v → (¬ b = -9 → lb = aprt b (V 4 j_6_)) → 9 - v < n_9_ → ∀ (ls : Array Slot), lv_has ls 9 [(0, .ref (ad (0))), (1, .int (z0)), (2, .int (z1)), (3, .int (z2)), (4, .int (V 4 j_6_)), (5, .int (b)), (6, .int (lb)), (7, .int (nI (v + 1)))] → J p l e rm_X12_even s m [.ref (ad (0)), .int (z0), .int (z1), .int (z2)].toArray below meth c A D cy 0 0 (MQ below (gPost D cy A (fun o9 σ2 V2 => σ2 = mS ad ∧ (rI fun x V2 => V2 = V ∧ x = if ¬ z0 < 0 ∧ z0 < nI nt then (if ¬ z1 < 0 ∧ z1 < nI nt then (if z0 = z1 then -1 else (if ¬ z2 < 0 ∧ z2 < nI ng then evI (rchM (V 6 z0.toNatClampNeg) (V 7 z0.toNatClampNeg)) (rchM (V 6 z1.toNatClampNeg) (V 7 z1.toNatClampNeg)) (V 5 z2.toNatClampNeg) (V 0 5) (V 4 z2.toNatClampNeg) 9 else -1)) else -1) else -1) o9 V2)) [.ref (ad (0)), .int (z0), .int (z1), .int (z2)].toArray s 0 0 A) (mS ad) Vi (F0 m 49 ls []) := by
                  intro n_9_
                  induction n_9_ with
                  | zero =>
                    intro v b lb y Vi hv hV hb hl9 hm
                    exact absurd hm (by omega)
                  | succ n_9_ ih_loop =>
                    intro v b lb y Vi hv hV hb hl9 hm ls hl
                    refine j_iload C dX12_even_49 (lv_at hl 7 rfl) ?_
                    refine j_bipush (v := 9) C dX12_even_51 (by decide) ?_
                    refine j_icmp_gt (tgt := 129) C dX12_even_53 (by decide) (fun c_8_ => ?_) (fun c_8_ => ?_)
                    · have n_8_ := Int32.not_le.mpr c_8_
                      have q8 := cLt (show (9 : Int32) = nI 9 from rfl) (rfl) (by omega) (by omega) c_8_
                      refine j_aload_n C dX12_even_129 rfl (lv_at hl 0 rfl) ?_
                      refine j_getR (k := 0) (k2 := 4) C (f_RX12_19_12) (ml (by decide)) (rfl) (rfl) dX12_even_130 ?_
                      refine j_iload_n C dX12_even_133 rfl (lv_at hl 3 rfl) ?_
                      refine j_iload C dX12_even_134 (lv_at hl 4 rfl) ?_
                      refine j_iastE (k := 4) (n := 4) (t := j_6_) C (ml (by decide)) (rfl) (rfl) (ej6) (by omega) (by decide) dX12_even_136 (fun V1 eV1 => ?_)
                      refine j_iload C dX12_even_137 (lv_at hl 5 rfl) ?_
                      refine j_iret C ⟨rfl, _, rfl, ?_⟩ dX12_even_139
                      obtain rfl : v = 9 := by omega
                      obtain ⟨hin1, hcl1⟩ := inz ej1 hj1 (by omega)
                      obtain ⟨hin2, hcl2⟩ := inz ej3 hj3 (by omega)
                      obtain ⟨hin3, hcl3⟩ := inz ej6 hj6 (by omega)
                      refine ⟨by rw [eV1, hV, up2_up2, up2_self], ?_⟩
                      rw [if_pos hin1, if_pos hin2, if_neg nq9, if_pos hin3, hcl1, hcl2, hcl3]
                      exact hb
                    · have n_8_ := Int32.not_lt.mp c_8_
                      have q8 := cNl (show (9 : Int32) = nI 9 from rfl) (rfl) (by omega) (by omega) c_8_
                      refine j_aload_n C dX12_even_56 rfl (lv_at hl 0 rfl) ?_
                      refine j_getR (k := 0) (k2 := 4) C (f_RX12_19_12) (ml (by decide)) (rfl) (rfl) dX12_even_57 ?_
                      refine j_iload_n C dX12_even_60 rfl (lv_at hl 3 rfl) ?_
                      refine j_iload C dX12_even_61 (lv_at hl 7 rfl) ?_
                      refine j_iastE (k := 4) (n := 4) (t := j_6_) C (ml (by decide)) (rfl) (rfl) (ej6) (by omega) (by decide) dX12_even_63 (fun V2 eV2 => ?_)
                      have e9 : V2 = up2 V 4 j_6_ (nI (v + 1)) := by rw [eV2, hV, up2_up2]
                      refine j_iload C dX12_even_64 (lv_at hl 7 rfl) ?_
                      refine j_iload C dX12_even_66 (lv_at hl 4 rfl) ?_
                      refine j_icmp_ge (tgt := 79) C dX12_even_68 (by decide) (fun c_9_ => ?_) (fun c_9_ => ?_)
                      · have n_9_ := Int32.not_lt.mpr c_9_
                        have ea9 : aprt (nI (v + 1)) (V 4 j_6_) = nI (v + 1) - V 4 j_6_ := if_neg (Int32.not_lt.mpr c_9_)
                        refine j_iload C dX12_even_79 (lv_at hl 7 rfl) ?_
                        refine j_iload C dX12_even_81 (lv_at hl 4 rfl) ?_
                        refine j_isub C dX12_even_83 ?_
                        refine j_istore (lv2 := [(8, .int ((nI (v + 1)) - (V 4 j_6_))), (0, .ref (ad (0))), (1, .int (z0)), (2, .int (z1)), (3, .int (z2)), (4, .int (V 4 j_6_)), (5, .int (b)), (6, .int (lb)), (7, .int (nI (v + 1)))]) C dX12_even_84 hl (by decide) rfl (fun ls hl => ?_)
                        refine j_aload_n C dX12_even_86 rfl (lv_at hl 1 rfl) ?_
                        refine j_iload_n C dX12_even_87 rfl (lv_at hl 2 rfl) ?_
                        refine j_iload_n C dX12_even_88 rfl (lv_at hl 4 rfl) ?_
                        refine j_callV (k := 0) C [.int (z0), .int (z2)] [] (k_X12_measureOf l ad V2 (z0) (z2) j_1_ (ej1) (by omega) j_6_ (ej6) (by omega) ) v_RX12_179 (ml (by decide)) (rfl) rfl ⟨rfl, rfl, Nat.le_of_ble_eq_true rfl, Nat.le_of_ble_eq_true rfl⟩ rfl hl.1 rfl (Nat.le_of_ble_eq_true rfl) ⟨Nat.le_of_ble_eq_true rfl, Nat.le_of_ble_eq_true rfl⟩ dX12_even_89 (kI fun x_10_ U10 h_10_ => ?_)
                        obtain ⟨eU10, h_10_⟩ := h_10_
                        have eU10 := eU10.symm
                        subst eU10
                        refine j_aload_n C dX12_even_92 rfl (lv_at hl 1 rfl) ?_
                        refine j_iload_n C dX12_even_93 rfl (lv_at hl 3 rfl) ?_
                        refine j_iload_n C dX12_even_94 rfl (lv_at hl 4 rfl) ?_
                        refine j_callV (k := 0) C [.int (z1), .int (z2)] [.int (x_10_)] (k_X12_measureOf l ad V2 (z1) (z2) j_3_ (ej3) (by omega) j_6_ (ej6) (by omega) ) v_RX12_179 (ml (by decide)) (rfl) rfl ⟨rfl, rfl, Nat.le_of_ble_eq_true rfl, Nat.le_of_ble_eq_true rfl⟩ rfl hl.1 rfl (Nat.le_of_ble_eq_true rfl) ⟨Nat.le_of_ble_eq_true rfl, Nat.le_of_ble_eq_true rfl⟩ dX12_even_95 (kI fun x_11_ U11 h_11_ => ?_)
                        obtain ⟨eU11, h_11_⟩ := h_11_
                        have eU11 := eU11.symm
                        subst eU11
                        have em1 : x_10_ = near (rchM (V 6 j_1_) (V 7 j_1_)) (nI (v + 1)) (V 5 j_6_) (V 0 5) := by rw [h_10_]; unfold nrM; rw [e9, up2_k V _ (show 6 ≠ 4 by decide), up2_k V _ (show 7 ≠ 4 by decide), up2_s, up2_k V _ (show 5 ≠ 4 by decide), up2_k V _ (show 0 ≠ 4 by decide)]
                        have em2 : x_11_ = near (rchM (V 6 j_3_) (V 7 j_3_)) (nI (v + 1)) (V 5 j_6_) (V 0 5) := by rw [h_11_]; unfold nrM; rw [e9, up2_k V _ (show 6 ≠ 4 by decide), up2_k V _ (show 7 ≠ 4 by decide), up2_s, up2_k V _ (show 5 ≠ 4 by decide), up2_k V _ (show 0 ≠ 4 by decide)]
                        have en9 : x_10_ = x_11_ ↔ near (rchM (V 6 j_1_) (V 7 j_1_)) (nI (v + 1)) (V 5 j_6_) (V 0 5) = near (rchM (V 6 j_3_) (V 7 j_3_)) (nI (v + 1)) (V 5 j_6_) (V 0 5) := by rw [em1, em2]
                        refine j_icmp_ne (tgt := 123) C dX12_even_98 (by decide) (fun c_12_ => ?_) (fun c_12_ => ?_)
                        · skip
                          refine j_iinc (v := nI ((v + 1) + 1)) (lv2 := [(7, .int (nI ((v + 1) + 1))), (8, .int ((nI (v + 1)) - (V 4 j_6_))), (0, .ref (ad (0))), (1, .int (z0)), (2, .int (z1)), (3, .int (z2)), (4, .int (V 4 j_6_)), (5, .int (b)), (6, .int (lb))]) C dX12_even_123 hl (k0 := 8) rfl (nI_1 _) (by decide) rfl (fun ls hl => ?_)
                          refine j_goto (tgt := 49) C dX12_even_126 (by decide) ?_
                          exact ih_loop (v + 1) (b) (lb) (nI (v + 1)) V2 (by omega) e9 (by rw [evI, if_neg (fun q => c_12_ (en9.mpr q.1))]; exact hb) hl9 (by omega) ls (lv_sub hl [2, 3, 4, 5, 6, 7, 8, 0] rfl)
                        · skip
                          refine j_iload C dX12_even_101 (lv_at hl 6 rfl) ?_
                          refine j_bipush (v := (-9)) C dX12_even_103 (by decide) ?_
                          refine j_icmp_eq (tgt := 115) C dX12_even_105 (by decide) (fun c_13_ => ?_) (fun c_13_ => ?_)
                          · skip
                            refine j_iload C dX12_even_115 (lv_at hl 8 rfl) ?_
                            refine j_istore (lv2 := [(5, .int (nI (v + 1))), (8, .int ((nI (v + 1)) - (V 4 j_6_))), (0, .ref (ad (0))), (1, .int (z0)), (2, .int (z1)), (3, .int (z2)), (4, .int (V 4 j_6_)), (6, .int (lb)), (7, .int (nI (v + 1)))]) C dX12_even_117 hl (by decide) rfl (fun ls hl => ?_)
                            refine j_iload C dX12_even_119 (lv_at hl 1 rfl) ?_
                            refine j_istore (lv2 := [(6, .int ((nI (v + 1)) - (V 4 j_6_))), (5, .int (nI (v + 1))), (8, .int ((nI (v + 1)) - (V 4 j_6_))), (0, .ref (ad (0))), (1, .int (z0)), (2, .int (z1)), (3, .int (z2)), (4, .int (V 4 j_6_)), (7, .int (nI (v + 1)))]) C dX12_even_121 hl (by decide) rfl (fun ls hl => ?_)
                            refine j_iinc (v := nI ((v + 1) + 1)) (lv2 := [(7, .int (nI ((v + 1) + 1))), (6, .int ((nI (v + 1)) - (V 4 j_6_))), (5, .int (nI (v + 1))), (8, .int ((nI (v + 1)) - (V 4 j_6_))), (0, .ref (ad (0))), (1, .int (z0)), (2, .int (z1)), (3, .int (z2)), (4, .int (V 4 j_6_))]) C dX12_even_123 hl (k0 := 8) rfl (nI_1 _) (by decide) rfl (fun ls hl => ?_)
                            refine j_goto (tgt := 49) C dX12_even_126 (by decide) ?_
                            exact ih_loop (v + 1) (nI (v + 1)) ((nI (v + 1)) - (V 4 j_6_)) (nI (v + 1)) V2 (by omega) e9 (by rw [evI, if_pos ⟨en9.mp c_12_, Or.inl (hb ▸ c_13_)⟩]) (fun _ => ea9.symm) (by omega) ls (lv_sub hl [4, 5, 6, 7, 8, 2, 1, 0] rfl)
                          · skip
                            refine j_iload C dX12_even_108 (lv_at hl 0 rfl) ?_
                            refine j_iload C dX12_even_110 (lv_at hl 7 rfl) ?_
                            refine j_icmp_ge (tgt := 123) C dX12_even_112 (by decide) (fun c_14_ => ?_) (fun c_14_ => ?_)
                            · have n_14_ := Int32.not_lt.mpr c_14_
                              refine j_iinc (v := nI ((v + 1) + 1)) (lv2 := [(7, .int (nI ((v + 1) + 1))), (8, .int ((nI (v + 1)) - (V 4 j_6_))), (0, .ref (ad (0))), (1, .int (z0)), (2, .int (z1)), (3, .int (z2)), (4, .int (V 4 j_6_)), (5, .int (b)), (6, .int (lb))]) C dX12_even_123 hl (k0 := 8) rfl (nI_1 _) (by decide) rfl (fun ls hl => ?_)
                              refine j_goto (tgt := 49) C dX12_even_126 (by decide) ?_
                              exact ih_loop (v + 1) (b) (lb) (nI (v + 1)) V2 (by omega) e9 (by rw [evI, if_neg (fun q => q.2.elim (fun q2 => c_13_ (hb.trans q2)) (fun q2 => by rw [ea9, ← hb, ← hl9 c_13_] at q2; exact absurd q2 (Int32.not_lt.mpr c_14_)))]; exact hb) hl9 (by omega) ls (lv_sub hl [2, 3, 4, 5, 6, 7, 8, 0] rfl)
                            · have n_14_ := Int32.not_le.mp c_14_
                              refine j_iload C dX12_even_115 (lv_at hl 8 rfl) ?_
                              refine j_istore (lv2 := [(5, .int (nI (v + 1))), (8, .int ((nI (v + 1)) - (V 4 j_6_))), (0, .ref (ad (0))), (1, .int (z0)), (2, .int (z1)), (3, .int (z2)), (4, .int (V 4 j_6_)), (6, .int (lb)), (7, .int (nI (v + 1)))]) C dX12_even_117 hl (by decide) rfl (fun ls hl => ?_)
                              refine j_iload C dX12_even_119 (lv_at hl 1 rfl) ?_
                              refine j_istore (lv2 := [(6, .int ((nI (v + 1)) - (V 4 j_6_))), (5, .int (nI (v + 1))), (8, .int ((nI (v + 1)) - (V 4 j_6_))), (0, .ref (ad (0))), (1, .int (z0)), (2, .int (z1)), (3, .int (z2)), (4, .int (V 4 j_6_)), (7, .int (nI (v + 1)))]) C dX12_even_121 hl (by decide) rfl (fun ls hl => ?_)
                              refine j_iinc (v := nI ((v + 1) + 1)) (lv2 := [(7, .int (nI ((v + 1) + 1))), (6, .int ((nI (v + 1)) - (V 4 j_6_))), (5, .int (nI (v + 1))), (8, .int ((nI (v + 1)) - (V 4 j_6_))), (0, .ref (ad (0))), (1, .int (z0)), (2, .int (z1)), (3, .int (z2)), (4, .int (V 4 j_6_))]) C dX12_even_123 hl (k0 := 8) rfl (nI_1 _) (by decide) rfl (fun ls hl => ?_)
                              refine j_goto (tgt := 49) C dX12_even_126 (by decide) ?_
                              exact ih_loop (v + 1) (nI (v + 1)) ((nI (v + 1)) - (V 4 j_6_)) (nI (v + 1)) V2 (by omega) e9 (by rw [evI, if_pos ⟨en9.mp c_12_, Or.inr (by rw [ea9, ← hb, ← hl9 c_13_]; exact Int32.not_le.mp c_14_)⟩]) (fun _ => ea9.symm) (by omega) ls (lv_sub hl [4, 5, 6, 7, 8, 2, 1, 0] rfl)
                      · have n_9_ := Int32.not_le.mp c_9_
                        have ea9 : aprt (nI (v + 1)) (V 4 j_6_) = V 4 j_6_ - nI (v + 1) := if_pos (Int32.not_le.mp c_9_)
                        refine j_iload C dX12_even_71 (lv_at hl 4 rfl) ?_
                        refine j_iload C dX12_even_73 (lv_at hl 7 rfl) ?_
                        refine j_isub C dX12_even_75 ?_
                        refine j_goto (tgt := 84) C dX12_even_76 (by decide) ?_
                        refine j_istore (lv2 := [(8, .int ((V 4 j_6_) - (nI (v + 1)))), (0, .ref (ad (0))), (1, .int (z0)), (2, .int (z1)), (3, .int (z2)), (4, .int (V 4 j_6_)), (5, .int (b)), (6, .int (lb)), (7, .int (nI (v + 1)))]) C dX12_even_84 hl (by decide) rfl (fun ls hl => ?_)
                        refine j_aload_n C dX12_even_86 rfl (lv_at hl 1 rfl) ?_
                        refine j_iload_n C dX12_even_87 rfl (lv_at hl 2 rfl) ?_
                        refine j_iload_n C dX12_even_88 rfl (lv_at hl 4 rfl) ?_
                        refine j_callV (k := 0) C [.int (z0), .int (z2)] [] (k_X12_measureOf l ad V2 (z0) (z2) j_1_ (ej1) (by omega) j_6_ (ej6) (by omega) ) v_RX12_179 (ml (by decide)) (rfl) rfl ⟨rfl, rfl, Nat.le_of_ble_eq_true rfl, Nat.le_of_ble_eq_true rfl⟩ rfl hl.1 rfl (Nat.le_of_ble_eq_true rfl) ⟨Nat.le_of_ble_eq_true rfl, Nat.le_of_ble_eq_true rfl⟩ dX12_even_89 (kI fun x_15_ U15 h_15_ => ?_)
                        obtain ⟨eU15, h_15_⟩ := h_15_
                        have eU15 := eU15.symm
                        subst eU15
                        refine j_aload_n C dX12_even_92 rfl (lv_at hl 1 rfl) ?_
                        refine j_iload_n C dX12_even_93 rfl (lv_at hl 3 rfl) ?_
                        refine j_iload_n C dX12_even_94 rfl (lv_at hl 4 rfl) ?_
                        refine j_callV (k := 0) C [.int (z1), .int (z2)] [.int (x_15_)] (k_X12_measureOf l ad V2 (z1) (z2) j_3_ (ej3) (by omega) j_6_ (ej6) (by omega) ) v_RX12_179 (ml (by decide)) (rfl) rfl ⟨rfl, rfl, Nat.le_of_ble_eq_true rfl, Nat.le_of_ble_eq_true rfl⟩ rfl hl.1 rfl (Nat.le_of_ble_eq_true rfl) ⟨Nat.le_of_ble_eq_true rfl, Nat.le_of_ble_eq_true rfl⟩ dX12_even_95 (kI fun x_16_ U16 h_16_ => ?_)
                        obtain ⟨eU16, h_16_⟩ := h_16_
                        have eU16 := eU16.symm
                        subst eU16
                        have em1 : x_15_ = near (rchM (V 6 j_1_) (V 7 j_1_)) (nI (v + 1)) (V 5 j_6_) (V 0 5) := by rw [h_15_]; unfold nrM; rw [e9, up2_k V _ (show 6 ≠ 4 by decide), up2_k V _ (show 7 ≠ 4 by decide), up2_s, up2_k V _ (show 5 ≠ 4 by decide), up2_k V _ (show 0 ≠ 4 by decide)]
                        have em2 : x_16_ = near (rchM (V 6 j_3_) (V 7 j_3_)) (nI (v + 1)) (V 5 j_6_) (V 0 5) := by rw [h_16_]; unfold nrM; rw [e9, up2_k V _ (show 6 ≠ 4 by decide), up2_k V _ (show 7 ≠ 4 by decide), up2_s, up2_k V _ (show 5 ≠ 4 by decide), up2_k V _ (show 0 ≠ 4 by decide)]
                        have en9 : x_15_ = x_16_ ↔ near (rchM (V 6 j_1_) (V 7 j_1_)) (nI (v + 1)) (V 5 j_6_) (V 0 5) = near (rchM (V 6 j_3_) (V 7 j_3_)) (nI (v + 1)) (V 5 j_6_) (V 0 5) := by rw [em1, em2]
                        refine j_icmp_ne (tgt := 123) C dX12_even_98 (by decide) (fun c_17_ => ?_) (fun c_17_ => ?_)
                        · skip
                          refine j_iinc (v := nI ((v + 1) + 1)) (lv2 := [(7, .int (nI ((v + 1) + 1))), (8, .int ((V 4 j_6_) - (nI (v + 1)))), (0, .ref (ad (0))), (1, .int (z0)), (2, .int (z1)), (3, .int (z2)), (4, .int (V 4 j_6_)), (5, .int (b)), (6, .int (lb))]) C dX12_even_123 hl (k0 := 8) rfl (nI_1 _) (by decide) rfl (fun ls hl => ?_)
                          refine j_goto (tgt := 49) C dX12_even_126 (by decide) ?_
                          exact ih_loop (v + 1) (b) (lb) (nI (v + 1)) V2 (by omega) e9 (by rw [evI, if_neg (fun q => c_17_ (en9.mpr q.1))]; exact hb) hl9 (by omega) ls (lv_sub hl [2, 3, 4, 5, 6, 7, 8, 0] rfl)
                        · skip
                          refine j_iload C dX12_even_101 (lv_at hl 6 rfl) ?_
                          refine j_bipush (v := (-9)) C dX12_even_103 (by decide) ?_
                          refine j_icmp_eq (tgt := 115) C dX12_even_105 (by decide) (fun c_18_ => ?_) (fun c_18_ => ?_)
                          · skip
                            refine j_iload C dX12_even_115 (lv_at hl 8 rfl) ?_
                            refine j_istore (lv2 := [(5, .int (nI (v + 1))), (8, .int ((V 4 j_6_) - (nI (v + 1)))), (0, .ref (ad (0))), (1, .int (z0)), (2, .int (z1)), (3, .int (z2)), (4, .int (V 4 j_6_)), (6, .int (lb)), (7, .int (nI (v + 1)))]) C dX12_even_117 hl (by decide) rfl (fun ls hl => ?_)
                            refine j_iload C dX12_even_119 (lv_at hl 1 rfl) ?_
                            refine j_istore (lv2 := [(6, .int ((V 4 j_6_) - (nI (v + 1)))), (5, .int (nI (v + 1))), (8, .int ((V 4 j_6_) - (nI (v + 1)))), (0, .ref (ad (0))), (1, .int (z0)), (2, .int (z1)), (3, .int (z2)), (4, .int (V 4 j_6_)), (7, .int (nI (v + 1)))]) C dX12_even_121 hl (by decide) rfl (fun ls hl => ?_)
                            refine j_iinc (v := nI ((v + 1) + 1)) (lv2 := [(7, .int (nI ((v + 1) + 1))), (6, .int ((V 4 j_6_) - (nI (v + 1)))), (5, .int (nI (v + 1))), (8, .int ((V 4 j_6_) - (nI (v + 1)))), (0, .ref (ad (0))), (1, .int (z0)), (2, .int (z1)), (3, .int (z2)), (4, .int (V 4 j_6_))]) C dX12_even_123 hl (k0 := 8) rfl (nI_1 _) (by decide) rfl (fun ls hl => ?_)
                            refine j_goto (tgt := 49) C dX12_even_126 (by decide) ?_
                            exact ih_loop (v + 1) (nI (v + 1)) ((V 4 j_6_) - (nI (v + 1))) (nI (v + 1)) V2 (by omega) e9 (by rw [evI, if_pos ⟨en9.mp c_17_, Or.inl (hb ▸ c_18_)⟩]) (fun _ => ea9.symm) (by omega) ls (lv_sub hl [4, 5, 6, 7, 8, 2, 1, 0] rfl)
                          · skip
                            refine j_iload C dX12_even_108 (lv_at hl 0 rfl) ?_
                            refine j_iload C dX12_even_110 (lv_at hl 7 rfl) ?_
                            refine j_icmp_ge (tgt := 123) C dX12_even_112 (by decide) (fun c_19_ => ?_) (fun c_19_ => ?_)
                            · have n_19_ := Int32.not_lt.mpr c_19_
                              refine j_iinc (v := nI ((v + 1) + 1)) (lv2 := [(7, .int (nI ((v + 1) + 1))), (8, .int ((V 4 j_6_) - (nI (v + 1)))), (0, .ref (ad (0))), (1, .int (z0)), (2, .int (z1)), (3, .int (z2)), (4, .int (V 4 j_6_)), (5, .int (b)), (6, .int (lb))]) C dX12_even_123 hl (k0 := 8) rfl (nI_1 _) (by decide) rfl (fun ls hl => ?_)
                              refine j_goto (tgt := 49) C dX12_even_126 (by decide) ?_
                              exact ih_loop (v + 1) (b) (lb) (nI (v + 1)) V2 (by omega) e9 (by rw [evI, if_neg (fun q => q.2.elim (fun q2 => c_18_ (hb.trans q2)) (fun q2 => by rw [ea9, ← hb, ← hl9 c_18_] at q2; exact absurd q2 (Int32.not_lt.mpr c_19_)))]; exact hb) hl9 (by omega) ls (lv_sub hl [2, 3, 4, 5, 6, 7, 8, 0] rfl)
                            · have n_19_ := Int32.not_le.mp c_19_
                              refine j_iload C dX12_even_115 (lv_at hl 8 rfl) ?_
                              refine j_istore (lv2 := [(5, .int (nI (v + 1))), (8, .int ((V 4 j_6_) - (nI (v + 1)))), (0, .ref (ad (0))), (1, .int (z0)), (2, .int (z1)), (3, .int (z2)), (4, .int (V 4 j_6_)), (6, .int (lb)), (7, .int (nI (v + 1)))]) C dX12_even_117 hl (by decide) rfl (fun ls hl => ?_)
                              refine j_iload C dX12_even_119 (lv_at hl 1 rfl) ?_
                              refine j_istore (lv2 := [(6, .int ((V 4 j_6_) - (nI (v + 1)))), (5, .int (nI (v + 1))), (8, .int ((V 4 j_6_) - (nI (v + 1)))), (0, .ref (ad (0))), (1, .int (z0)), (2, .int (z1)), (3, .int (z2)), (4, .int (V 4 j_6_)), (7, .int (nI (v + 1)))]) C dX12_even_121 hl (by decide) rfl (fun ls hl => ?_)
                              refine j_iinc (v := nI ((v + 1) + 1)) (lv2 := [(7, .int (nI ((v + 1) + 1))), (6, .int ((V 4 j_6_) - (nI (v + 1)))), (5, .int (nI (v + 1))), (8, .int ((V 4 j_6_) - (nI (v + 1)))), (0, .ref (ad (0))), (1, .int (z0)), (2, .int (z1)), (3, .int (z2)), (4, .int (V 4 j_6_))]) C dX12_even_123 hl (k0 := 8) rfl (nI_1 _) (by decide) rfl (fun ls hl => ?_)
                              refine j_goto (tgt := 49) C dX12_even_126 (by decide) ?_
                              exact ih_loop (v + 1) (nI (v + 1)) ((V 4 j_6_) - (nI (v + 1))) (nI (v + 1)) V2 (by omega) e9 (by rw [evI, if_pos ⟨en9.mp c_17_, Or.inr (by rw [ea9, ← hb, ← hl9 c_18_]; exact Int32.not_le.mp c_19_)⟩]) (fun _ => ea9.symm) (by omega) ls (lv_sub hl [4, 5, 6, 7, 8, 2, 1, 0] rfl)
                exact loop 10 0 (-9) 0 (V 4 j_6_) V (by omega) (by rw [up2_self]) rfl (fun q => absurd rfl q) (by omega) ls (lv_sub hl [4, 5, 6, 7, 3, 2, 1, 0] rfl)
              · exact absurd c_7_ (by decide)
            · subst ex6
              refine j_if_ne (tgt := 31) C dX12_even_26 (by decide) (fun c_20_ => ?_) (fun c_20_ => ?_)
              · exact absurd rfl c_20_
              · skip
                refine j_iconst (v := (-1)) C dX12_even_29 (by decide) ?_
                refine j_iret C ⟨rfl, _, rfl, ?_⟩ dX12_even_30
                obtain ⟨hin1⟩ := inz ej1 hj1 (by omega)
                obtain ⟨hin3⟩ := inz ej3 hj3 (by omega)
                have hot6 := outR ho6
                refine ⟨?_, ?_⟩
                · first | (simp only [if_pos hin1, if_pos hin3, if_neg hot6, if_neg c_5_]; done) | (simp only [if_pos hin1, if_pos hin3, if_neg hot6, if_neg c_5_]; rfl)
                · first | (simp only [if_pos hin1, if_pos hin3, if_neg hot6, if_neg c_5_]; done) | (simp only [if_pos hin1, if_pos hin3, if_neg hot6, if_neg c_5_]; rfl)
      · subst ex3
        refine j_if_eq (tgt := 29) C dX12_even_13 (by decide) (fun c_21_ => ?_) (fun c_21_ => ?_)
        · skip
          refine j_iconst (v := (-1)) C dX12_even_29 (by decide) ?_
          refine j_iret C ⟨rfl, _, rfl, ?_⟩ dX12_even_30
          obtain ⟨hin1⟩ := inz ej1 hj1 (by omega)
          have hot3 := outR ho3
          refine ⟨?_, ?_⟩
          · first | (simp only [if_pos hin1, if_neg hot3]; done) | (simp only [if_pos hin1, if_neg hot3]; rfl)
          · first | (simp only [if_pos hin1, if_neg hot3]; done) | (simp only [if_pos hin1, if_neg hot3]; rfl)
        · exact absurd rfl c_21_
  · subst ex1
    refine j_if_eq (tgt := 29) C dX12_even_5 (by decide) (fun c_22_ => ?_) (fun c_22_ => ?_)
    · skip
      refine j_iconst (v := (-1)) C dX12_even_29 (by decide) ?_
      refine j_iret C ⟨rfl, _, rfl, ?_⟩ dX12_even_30
      have hot1 := outR ho1
      refine ⟨?_, ?_⟩
      · first | (simp only [if_neg hot1]; done) | (simp only [if_neg hot1]; rfl)
      · first | (simp only [if_neg hot1]; done) | (simp only [if_neg hot1]; rfl)
    · exact absurd rfl c_22_
