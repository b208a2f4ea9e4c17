/-- girls 0 .. i - 1 and throwers 0 .. t - 1 are taken over -/
def tdI (V Vi : Vt) (i t : Nat) : Prop := (∀ k, k < i → Vi 4 k = V 11 (2 * k) ∧ Vi 5 k = V 11 (2 * k + 1) ∧ Vi 8 k = 0) ∧ (∀ k, k < t → Vi 6 k = V 12 (2 * k) ∧ Vi 7 k = V 12 (2 * k + 1)) ∧ Vi 0 5 = V 0 16 ∧ Vi 0 6 = V 0 17 ∧ ∀ a j, (a = 0 → j ≠ 5 ∧ j ≠ 6 ∧ j ≠ 7 ∧ j ≠ 34) → ¬ (4 ≤ a ∧ a ≤ 8) → Vi a j = V a j
def tdP (V V2 : Vt) (g t : Nat) : Prop := tdI V V2 g t ∧ V2 0 7 = nI t ∧ V2 0 34 = 0
theorem tdI_0 {V : Vt} : tdI V (up2 (up2 V 0 5 (V 0 16)) 0 6 (up2 V 0 5 (V 0 16) 0 17)) 0 0 := by
  refine ⟨fun k h => absurd h (by omega), fun k h => absurd h (by omega), by rw [up2_i _ _ (by decide), up2_s], by rw [up2_s, up2_i _ _ (by decide)], fun a j h_1_ _ => ?_⟩
  unfold up2
  rw [if_neg (fun z => (h_1_ z.1).2.1 z.2), if_neg (fun z => (h_1_ z.1).1 z.2)]
theorem tdI_g {V Vi V1 V2 V3 : Vt} {i : Nat} (h : tdI V Vi i 0) (e1 : V1 = up2 Vi 4 i (Vi 11 (2 * i))) (e2 : V2 = up2 V1 5 i (V1 11 (2 * i + 1))) (e3 : V3 = up2 V2 8 i 0) : tdI V V3 (i + 1) 0 := by
  obtain ⟨a, b, c, d, f⟩ := h
  have r1 : V1 11 = Vi 11 := by rw [e1, up2_k _ _ (by decide)]
  rw [r1] at e2
  refine ⟨fun k hk => ?_, fun k hk => absurd hk (by omega), ?_, ?_, fun x j p q => ?_⟩
  · rw [e3, up2_k _ _ (show 4 ≠ 8 by decide), up2_k _ _ (show 5 ≠ 8 by decide), e2, up2_k _ _ (show 4 ≠ 5 by decide), e1]
    by_cases e : k = i
    · rw [e, up2_s, up2_s, up2_s, f 11 _ (by omega) (by omega), f 11 _ (by omega) (by omega)]
      exact ⟨rfl, rfl, rfl⟩
    · repeat rw [up2_i _ _ e]
      exact a k (by omega)
  · rw [e3, up2_k _ _ (by decide), e2, up2_k _ _ (by decide), e1, up2_k _ _ (by decide)]; exact c
  · rw [e3, up2_k _ _ (by decide), e2, up2_k _ _ (by decide), e1, up2_k _ _ (by decide)]; exact d
  · rw [e3, up2_k _ _ (by omega), e2, up2_k _ _ (by omega), e1, up2_k _ _ (by omega)]; exact f x j p q
theorem tdI_s {V Vi V1 : Vt} {i : Nat} {x : Int32} (h : tdI V Vi i 0) (e1 : V1 = up2 Vi 0 7 x) : tdI V V1 i 0 := by
  obtain ⟨a, b, c, d, f⟩ := h
  rw [e1]
  refine ⟨fun k hk => ?_, fun k hk => absurd hk (by omega), ?_, ?_, fun y j p q => ?_⟩
  · rw [up2_k _ _ (by decide), up2_k _ _ (by decide), up2_k _ _ (by decide)]; exact a k hk
  · rw [up2_i _ _ (by decide)]; exact c
  · rw [up2_i _ _ (by decide)]; exact d
  · unfold up2
    rw [if_neg (fun z => (p z.1).2.2.1 z.2)]
    exact f y j p q
theorem tdI_t {V Vi V1 V2 : Vt} {i t : Nat} (h : tdI V Vi i t) (e1 : V1 = up2 Vi 6 t (Vi 12 (2 * t))) (e2 : V2 = up2 V1 7 t (V1 12 (2 * t + 1))) : tdI V V2 i (t + 1) := by
  obtain ⟨a, b, c, d, f⟩ := h
  have r1 : V1 12 = Vi 12 := by rw [e1, up2_k _ _ (by decide)]
  rw [r1] at e2
  refine ⟨fun k hk => ?_, fun k hk => ?_, ?_, ?_, fun x j p q => ?_⟩
  · rw [e2, up2_k _ _ (show 4 ≠ 7 by decide), up2_k _ _ (show 5 ≠ 7 by decide), up2_k _ _ (show 8 ≠ 7 by decide), e1, up2_k _ _ (by decide), up2_k _ _ (by decide), up2_k _ _ (by decide)]; exact a k hk
  · rw [e2, up2_k _ _ (show 6 ≠ 7 by decide), e1]
    by_cases e : k = t
    · rw [e, up2_s, up2_s, f 12 _ (by omega) (by omega), f 12 _ (by omega) (by omega)]
      exact ⟨rfl, rfl⟩
    · rw [up2_i _ _ e, up2_i _ _ e, up2_k _ _ (show 7 ≠ 6 by decide)]
      exact b k (by omega)
  · rw [e2, up2_k _ _ (by decide), e1, up2_k _ _ (by decide)]; exact c
  · rw [e2, up2_k _ _ (by decide), e1, up2_k _ _ (by decide)]; exact d
  · rw [e2, up2_k _ _ (by omega), e1, up2_k _ _ (by omega)]; exact f x j p q
theorem tdP_of {V Vi V2 : Vt} {g t : Nat} (h : tdI V Vi g t) (h_7_ : Vi 0 7 = nI t) (e : V2 = up2 Vi 0 34 0) : tdP V V2 g t := by
  obtain ⟨a, b, c, d, f⟩ := h
  rw [e]
  refine ⟨⟨fun k hk => ?_, fun k hk => ?_, ?_, ?_, fun y j p q => ?_⟩, by rw [up2_i _ _ (by decide)]; exact h_7_, up2_s ..⟩
  · rw [up2_k _ _ (by decide), up2_k _ _ (by decide), up2_k _ _ (by decide)]; exact a k hk
  · rw [up2_k _ _ (by decide), up2_k _ _ (by decide)]; exact b k hk
  · rw [up2_i _ _ (by decide)]; exact c
  · rw [up2_i _ _ (by decide)]; exact d
  · unfold up2
    rw [if_neg (fun z => (p z.1).2.2.2 z.2)]
    exact f y j p q
abbrev rm_X12_takeDale : Room := { frames := 0, cells := 0, slots := 0, locals := 0 }
set_option maxHeartbeats 4000000 in
set_option maxRecDepth 100000 in
theorem k_X12_takeDale (l : Launch) (ad : Nat → Nat) (V : Vt) (g t : Nat) (hg : V 0 17 = nI g) (g4 : g ≤ 4) (ht : V 0 18 = nI t) (t5 : t ≤ 5)  : Ct l yX12_takeDale cX12_takeDale 2 none rm_X12_takeDale (mS ad) V [.ref (ad (0))] (rU fun V2 => tdP V V2 g t) := by
  refine Ct_of (by decide) (Nat.le_of_ble_eq_true rfl) ?_
  intro p e s m below meth c A D cy ls C hl
  have hl : lv_has ls 2 [(0, .ref (ad (0)))] := hl
  refine j_aload_n C dX12_takeDale_0 rfl (lv_at hl 0 rfl) ?_
  refine j_aload_n C dX12_takeDale_1 rfl (lv_at hl 0 rfl) ?_
  refine j_getI (k := 0) C (f_RX12_123_12) (ml (by decide)) (rfl) dX12_takeDale_2 ?_
  refine j_putI (k := 0) C (f_RX12_126_12) p_12_5 (ml (by decide)) (rfl) dX12_takeDale_5 (fun V1 eV1 => ?_)
  refine j_aload_n C dX12_takeDale_8 rfl (lv_at hl 0 rfl) ?_
  refine j_aload_n C dX12_takeDale_9 rfl (lv_at hl 0 rfl) ?_
  refine j_getI (k := 0) C (f_RX12_129_12) (ml (by decide)) (rfl) dX12_takeDale_10 ?_
  refine j_putI (k := 0) C (f_RX12_89_12) p_12_6 (ml (by decide)) (rfl) dX12_takeDale_13 (fun V2 eV2 => ?_)
  refine j_iconst (v := 0) C dX12_takeDale_16 (by decide) ?_
  refine j_istore_n (lv2 := [(1, .int (0)), (0, .ref (ad (0)))]) C dX12_takeDale_17 rfl hl (by decide) rfl (fun ls hl => ?_)
  have loop : ∀ (n_9_ : Nat) (i : Nat) (Vi : Vt), i ≤ g → tdI V Vi i 0 → g - i < n_9_ → ∀ (ls : Array Slot), lv_has ls 2 [(0, .ref (ad (0))), (1, .int (nI i))] → J p l e rm_X12_takeDale s m [.ref (ad (0))].toArray below meth c A D cy 0 0 (MQ below (gPost D cy A (fun o9 σ2 V2 => σ2 = mS ad ∧ (rU fun V2 => tdP V V2 g t) o9 V2)) [.ref (ad (0))].toArray s 0 0 A) (mS ad) Vi (F0 m 18 ls []) := by
    intro n_9_
    induction n_9_ with
    | zero =>
      intro i Vi hi hT hm
      exact absurd hm (by omega)
    | succ n_9_ ih_loop =>
      intro i Vi hi hT hm ls hl
      refine j_iload_n C dX12_takeDale_18 rfl (lv_at hl 1 rfl) ?_
      refine j_aload_n C dX12_takeDale_19 rfl (lv_at hl 0 rfl) ?_
      refine j_getI (k := 0) C (f_RX12_89_12) (ml (by decide)) (rfl) dX12_takeDale_20 ?_
      refine j_icmp_ge (tgt := 69) C dX12_takeDale_23 (by decide) (fun c_1_ => ?_) (fun c_1_ => ?_)
      · have n_1_ := Int32.not_lt.mpr c_1_
        have q1 := cLe ((hT.2.2.2.1.trans hg)) (rfl) (by omega) (by omega) c_1_
        have eig : i = g := by omega
        refine j_aload_n C dX12_takeDale_69 rfl (lv_at hl 0 rfl) ?_
        refine j_aload_n C dX12_takeDale_70 rfl (lv_at hl 0 rfl) ?_
        refine j_getI (k := 0) C (f_RX12_132_12) (ml (by decide)) (rfl) dX12_takeDale_71 ?_
        refine j_putI (k := 0) C (f_RX12_92_12) p_12_7 (ml (by decide)) (rfl) dX12_takeDale_74 (fun V3 eV3 => ?_)
        refine j_iconst (v := 0) C dX12_takeDale_77 (by decide) ?_
        refine j_istore_n (lv2 := [(1, .int (0)), (0, .ref (ad (0)))]) C dX12_takeDale_78 rfl hl (by decide) rfl (fun ls hl => ?_)
        have loop2 : ∀ (n_9_ : Nat) (k8 : Nat) (Vj : Vt), k8 ≤ t → tdI V Vj g k8 → Vj 0 7 = nI t → t - k8 < n_9_ → ∀ (ls : Array Slot), lv_has ls 2 [(0, .ref (ad (0))), (1, .int (nI k8))] → J p l e rm_X12_takeDale s m [.ref (ad (0))].toArray below meth c A D cy 0 0 (MQ below (gPost D cy A (fun o9 σ2 V2 => σ2 = mS ad ∧ (rU fun V2 => tdP V V2 g t) o9 V2)) [.ref (ad (0))].toArray s 0 0 A) (mS ad) Vj (F0 m 79 ls []) := by
          intro n_9_
          induction n_9_ with
          | zero =>
            intro k8 Vj hi2 hT2 h_7_ hm
            exact absurd hm (by omega)
          | succ n_9_ ih_loop2 =>
            intro k8 Vj hi2 hT2 h_7_ hm ls hl
            refine j_iload_n C dX12_takeDale_79 rfl (lv_at hl 1 rfl) ?_
            refine j_aload_n C dX12_takeDale_80 rfl (lv_at hl 0 rfl) ?_
            refine j_getI (k := 0) C (f_RX12_92_12) (ml (by decide)) (rfl) dX12_takeDale_81 ?_
            refine j_icmp_ge (tgt := 123) C dX12_takeDale_84 (by decide) (fun c_2_ => ?_) (fun c_2_ => ?_)
            · have n_2_ := Int32.not_lt.mpr c_2_
              have q2 := cLe (h_7_) (rfl) (by omega) (by omega) c_2_
              refine j_aload_n C dX12_takeDale_123 rfl (lv_at hl 0 rfl) ?_
              refine j_iconst (v := 0) C dX12_takeDale_124 (by decide) ?_
              refine j_putI (k := 0) C (f_RX12_135_12) p_12_34 (ml (by decide)) (rfl) dX12_takeDale_125 (fun V4 eV4 => ?_)
              refine j_vret C ⟨rfl, rfl, ?_⟩ dX12_takeDale_128
              obtain rfl : k8 = t := by omega
              exact tdP_of hT2 h_7_ eV4
            · have n_2_ := Int32.not_le.mp c_2_
              have q2 := cNe (h_7_) (rfl) (by omega) (by omega) c_2_
              have hlt2 : k8 < t := by omega
              refine j_aload_n C dX12_takeDale_87 rfl (lv_at hl 0 rfl) ?_
              refine j_getR (k := 0) (k2 := 6) C (f_RX12_25_12) (ml (by decide)) (rfl) (rfl) dX12_takeDale_88 ?_
              refine j_iload_n C dX12_takeDale_91 rfl (lv_at hl 1 rfl) ?_
              refine j_aload_n C dX12_takeDale_92 rfl (lv_at hl 0 rfl) ?_
              refine j_getR (k := 0) (k2 := 12) C (f_RX12_43_12) (ml (by decide)) (rfl) (rfl) dX12_takeDale_93 ?_
              refine j_iconst (v := 2) C dX12_takeDale_96 (by decide) ?_
              refine j_iload_n C dX12_takeDale_97 rfl (lv_at hl 1 rfl) ?_
              refine j_imul C dX12_takeDale_98 ?_
              refine j_ialdE (k := 12) (n := 10) (t := 2 * k8) C (ml (by decide)) (rfl) (rfl) (nM (show (2 : Int32) = nI 2 from rfl) (rfl)) (by omega) (by decide) dX12_takeDale_99 ?_
              refine j_iastE (k := 6) (n := 5) (t := k8) C (ml (by decide)) (rfl) (rfl) (rfl) (by omega) (by decide) dX12_takeDale_100 (fun V5 eV5 => ?_)
              refine j_aload_n C dX12_takeDale_101 rfl (lv_at hl 0 rfl) ?_
              refine j_getR (k := 0) (k2 := 7) C (f_RX12_28_12) (ml (by decide)) (rfl) (rfl) dX12_takeDale_102 ?_
              refine j_iload_n C dX12_takeDale_105 rfl (lv_at hl 1 rfl) ?_
              refine j_aload_n C dX12_takeDale_106 rfl (lv_at hl 0 rfl) ?_
              refine j_getR (k := 0) (k2 := 12) C (f_RX12_43_12) (ml (by decide)) (rfl) (rfl) dX12_takeDale_107 ?_
              refine j_iconst (v := 2) C dX12_takeDale_110 (by decide) ?_
              refine j_iload_n C dX12_takeDale_111 rfl (lv_at hl 1 rfl) ?_
              refine j_imul C dX12_takeDale_112 ?_
              refine j_iconst (v := 1) C dX12_takeDale_113 (by decide) ?_
              refine j_iadd C dX12_takeDale_114 ?_
              refine j_ialdE (k := 12) (n := 10) (t := 2 * k8 + 1) C (ml (by decide)) (rfl) (rfl) (nA (nM (show (2 : Int32) = nI 2 from rfl) (rfl)) (show (1 : Int32) = nI 1 from rfl)) (by omega) (by decide) dX12_takeDale_115 ?_
              refine j_iastE (k := 7) (n := 5) (t := k8) C (ml (by decide)) (rfl) (rfl) (rfl) (by omega) (by decide) dX12_takeDale_116 (fun V6 eV6 => ?_)
              refine j_iinc (v := nI (k8 + 1)) (lv2 := [(1, .int (nI (k8 + 1))), (0, .ref (ad (0)))]) C dX12_takeDale_117 hl (k0 := 1) rfl (nI_1 _) (by decide) rfl (fun ls hl => ?_)
              refine j_goto (tgt := 79) C dX12_takeDale_120 (by decide) ?_
              exact ih_loop2 (k8 + 1) V6 (by omega) (tdI_t hT2 eV5 eV6) (by rw [eV6, up2_k _ _ (by decide), eV5, up2_k _ _ (by decide)]; exact h_7_) (by omega) ls (lv_sub hl [1, 0] rfl)
        exact loop2 (t + 1) 0 V3 (by omega) (tdI_s (eig ▸ hT) eV3) (by rw [eV3, up2_s, hT.2.2.2.2 0 18 (by decide) (by decide)]; exact ht) (by omega) ls (lv_sub hl [1, 0] rfl)
      · have n_1_ := Int32.not_le.mp c_1_
        have q1 := cNe ((hT.2.2.2.1.trans hg)) (rfl) (by omega) (by omega) c_1_
        have hlt : i < g := by omega
        refine j_aload_n C dX12_takeDale_26 rfl (lv_at hl 0 rfl) ?_
        refine j_getR (k := 0) (k2 := 4) C (f_RX12_19_12) (ml (by decide)) (rfl) (rfl) dX12_takeDale_27 ?_
        refine j_iload_n C dX12_takeDale_30 rfl (lv_at hl 1 rfl) ?_
        refine j_aload_n C dX12_takeDale_31 rfl (lv_at hl 0 rfl) ?_
        refine j_getR (k := 0) (k2 := 11) C (f_RX12_40_12) (ml (by decide)) (rfl) (rfl) dX12_takeDale_32 ?_
        refine j_iconst (v := 2) C dX12_takeDale_35 (by decide) ?_
        refine j_iload_n C dX12_takeDale_36 rfl (lv_at hl 1 rfl) ?_
        refine j_imul C dX12_takeDale_37 ?_
        refine j_ialdE (k := 11) (n := 8) (t := 2 * i) C (ml (by decide)) (rfl) (rfl) (nM (show (2 : Int32) = nI 2 from rfl) (rfl)) (by omega) (by decide) dX12_takeDale_38 ?_
        refine j_iastE (k := 4) (n := 4) (t := i) C (ml (by decide)) (rfl) (rfl) (rfl) (by omega) (by decide) dX12_takeDale_39 (fun V7 eV7 => ?_)
        refine j_aload_n C dX12_takeDale_40 rfl (lv_at hl 0 rfl) ?_
        refine j_getR (k := 0) (k2 := 5) C (f_RX12_22_12) (ml (by decide)) (rfl) (rfl) dX12_takeDale_41 ?_
        refine j_iload_n C dX12_takeDale_44 rfl (lv_at hl 1 rfl) ?_
        refine j_aload_n C dX12_takeDale_45 rfl (lv_at hl 0 rfl) ?_
        refine j_getR (k := 0) (k2 := 11) C (f_RX12_40_12) (ml (by decide)) (rfl) (rfl) dX12_takeDale_46 ?_
        refine j_iconst (v := 2) C dX12_takeDale_49 (by decide) ?_
        refine j_iload_n C dX12_takeDale_50 rfl (lv_at hl 1 rfl) ?_
        refine j_imul C dX12_takeDale_51 ?_
        refine j_iconst (v := 1) C dX12_takeDale_52 (by decide) ?_
        refine j_iadd C dX12_takeDale_53 ?_
        refine j_ialdE (k := 11) (n := 8) (t := 2 * i + 1) C (ml (by decide)) (rfl) (rfl) (nA (nM (show (2 : Int32) = nI 2 from rfl) (rfl)) (show (1 : Int32) = nI 1 from rfl)) (by omega) (by decide) dX12_takeDale_54 ?_
        refine j_iastE (k := 5) (n := 4) (t := i) C (ml (by decide)) (rfl) (rfl) (rfl) (by omega) (by decide) dX12_takeDale_55 (fun V8 eV8 => ?_)
        refine j_aload_n C dX12_takeDale_56 rfl (lv_at hl 0 rfl) ?_
        refine j_getR (k := 0) (k2 := 8) C (f_RX12_31_12) (ml (by decide)) (rfl) (rfl) dX12_takeDale_57 ?_
        refine j_iload_n C dX12_takeDale_60 rfl (lv_at hl 1 rfl) ?_
        refine j_iconst (v := 0) C dX12_takeDale_61 (by decide) ?_
        refine j_iastE (k := 8) (n := 4) (t := i) C (ml (by decide)) (rfl) (rfl) (rfl) (by omega) (by decide) dX12_takeDale_62 (fun V9 eV9 => ?_)
        refine j_iinc (v := nI (i + 1)) (lv2 := [(1, .int (nI (i + 1))), (0, .ref (ad (0)))]) C dX12_takeDale_63 hl (k0 := 1) rfl (nI_1 _) (by decide) rfl (fun ls hl => ?_)
        refine j_goto (tgt := 18) C dX12_takeDale_66 (by decide) ?_
        exact ih_loop (i + 1) V9 (by omega) (tdI_g hT eV7 eV8 eV9) (by omega) ls (lv_sub hl [1, 0] rfl)
  exact loop (g + 1) 0 V2 (by omega) (by rw [eV2, eV1]; exact tdI_0) (by omega) ls (lv_sub hl [1, 0] rfl)
/-- a dale, as the reference answers -/
def dlM (W : Vt) (c : Nat → Int32) (n : Nat) (a : Au) (x : Int32) (V2 : Vt) : Prop := (∃ b U, auN a c n = some b ∧ b.1 = 7 ∧ x = nI b.2.2.2.1 ∧ frD W U ∧ rmR U b ∧ b.2.2.1 ≤ 4 ∧ b.2.2.2.1 ≤ 5 ∧ tdP U V2 b.2.2.1 b.2.2.2.1) ∨ ∃ p b, p ≤ n ∧ auN a c p = some b ∧ (p = n → ¬ b.1 = 7) ∧ (p < n → auS b (c p) = none) ∧ x = -100 - nI p ∧ frD W V2
abbrev rm_X12_dale : Room := { frames := 4, cells := 0, slots := 0, locals := 89 }
set_option maxHeartbeats 4000000 in
set_option maxRecDepth 100000 in
theorem k_X12_dale (l : Launch) (ad : Nat → Nat) (V : Vt) (z0 z1 z2 z3 : Int32) (ng : Nat) (rr : Nat → Nat) (nt c_0_ : Nat) (hM : MI V ng rr nt c_0_) (fr0 : Int32) (ys0 ls0 ks0 as0 : Nat → Int32)  : Ct l yX12_dale cX12_dale 7 (some .int) rm_X12_dale (mS ad) V [.ref (ad (0)), .int (z0), .int (z1), .int (z2), .int (z3)] (rI fun x V2 => if ¬ z0 < 0 ∧ z0 < nI 4 then (if 0 ≤ z1 ∧ z1 ≤ 2 then (if agI ((up2 V 0 0 0) 1 z0.toNatClampNeg) ((up2 V 0 0 0) 2 z0.toNatClampNeg) z1 z2 z3 = 0 then dlM (up2 V 0 0 0) (fun j => (up2 V 0 0 0) 3 (60 * z0.toNatClampNeg + z2.toNatClampNeg + j)) z3.toNatClampNeg (0, fr0, 0, 0, ys0, ls0, ks0, as0) x V2 else (x = -10 - agI ((up2 V 0 0 0) 1 z0.toNatClampNeg) ((up2 V 0 0 0) 2 z0.toNatClampNeg) z1 z2 z3 ∧ V2 = up2 (up2 V 0 0 0) 0 0 (agI ((up2 V 0 0 0) 1 z0.toNatClampNeg) ((up2 V 0 0 0) 2 z0.toNatClampNeg) z1 z2 z3))) else (x = -2 ∧ V2 = (up2 V 0 0 0))) else (x = -1 ∧ V2 = (up2 V 0 0 0))) := by
  refine Ct_of (by decide) (Nat.le_of_ble_eq_true rfl) ?_
  intro p e s m below meth c A D cy ls C hl
  have hl : lv_has ls 7 [(0, .ref (ad (0))), (1, .int (z0)), (2, .int (z1)), (3, .int (z2)), (4, .int (z3))] := hl
  have ng4 := hM.2.1
  have nt5 := hM.2.2.2.1
  refine j_aload_n C dX12_dale_0 rfl (lv_at hl 0 rfl) ?_
  refine j_iconst (v := 0) C dX12_dale_1 (by decide) ?_
  refine j_putI (k := 0) C (f_RX12_79_12) p_12_0 (ml (by decide)) (rfl) dX12_dale_2 (fun V1 eV1 => ?_)
  have hM1 : MI V1 ng rr nt c_0_ := by rw [eV1]; exact MI_f hM
  refine j_iload_n C dX12_dale_5 rfl (lv_at hl 1 rfl) ?_
  refine j_callS C [.int (z0)] [] (k_X12_isSheet l (mS ad) V1 (z0)  ) v_RX12_102 ⟨rfl, rfl, Nat.le_of_ble_eq_true rfl, Nat.le_of_ble_eq_true rfl⟩ rfl hl.1 rfl (Nat.le_of_ble_eq_true rfl) ⟨Nat.le_of_ble_eq_true rfl, Nat.le_of_ble_eq_true rfl⟩ dX12_dale_6 (kI fun x_1_ U1 h_1_ => ?_)
  obtain ⟨eU1, h_1_⟩ := h_1_
  have eU1 := eU1.symm
  subst eU1
  rcases h_1_ with ⟨j_1_, hj1, ej1, ex1⟩ | ⟨ho1, ex1⟩
  · subst ex1
    obtain ⟨n_8_, hn8, en8⟩ := hM1.2.2.2.2.2.2.2.2 j_1_ hj1
    refine j_if_ne (tgt := 14) C dX12_dale_9 (by decide) (fun c_2_ => ?_) (fun c_2_ => ?_)
    · skip
      refine j_iload_n C dX12_dale_14 rfl (lv_at hl 2 rfl) ?_
      refine j_callS C [.int (z1)] [] (k_X12_isSort l (mS ad) V1 (z1)  ) v_RX12_106 ⟨rfl, rfl, Nat.le_of_ble_eq_true rfl, Nat.le_of_ble_eq_true rfl⟩ rfl hl.1 rfl (Nat.le_of_ble_eq_true rfl) ⟨Nat.le_of_ble_eq_true rfl, Nat.le_of_ble_eq_true rfl⟩ dX12_dale_15 (kI fun x_3_ U3 h_3_ => ?_)
      obtain ⟨eU3, h_3_⟩ := h_3_
      have eU3 := eU3.symm
      subst eU3
      refine j_if_ne (tgt := 24) C dX12_dale_18 (by decide) (fun c_4_ => ?_) (fun c_4_ => ?_)
      · skip
        have b4 := Decidable.not_not.mp (mt bI_0.mpr (h_3_ ▸ c_4_))
        refine j_aload_n C dX12_dale_24 rfl (lv_at hl 0 rfl) ?_
        refine j_iload_n C dX12_dale_25 rfl (lv_at hl 1 rfl) ?_
        refine j_iload_n C dX12_dale_26 rfl (lv_at hl 2 rfl) ?_
        refine j_iload_n C dX12_dale_27 rfl (lv_at hl 3 rfl) ?_
        refine j_iload C dX12_dale_28 (lv_at hl 4 rfl) ?_
        refine j_callV (k := 0) C [.int (z0), .int (z1), .int (z2), .int (z3)] [] (k_X12_against l ad V1 (z0) (z1) (z2) (z3) j_1_ (ej1) (by omega) ) v_RX12_109 (ml (by decide)) (rfl) rfl ⟨rfl, rfl, Nat.le_of_ble_eq_true rfl, Nat.le_of_ble_eq_true rfl⟩ rfl hl.1 rfl (Nat.le_of_ble_eq_true rfl) ⟨Nat.le_of_ble_eq_true rfl, Nat.le_of_ble_eq_true rfl⟩ dX12_dale_30 (kI fun x_5_ U5 h_5_ => ?_)
        obtain ⟨eU5, h_5_⟩ := h_5_
        have eU5 := eU5.symm
        subst eU5
        skip
        refine j_istore (lv2 := [(5, .int (x_5_)), (0, .ref (ad (0))), (1, .int (z0)), (2, .int (z1)), (3, .int (z2)), (4, .int (z3))]) C dX12_dale_33 hl (by decide) rfl (fun ls hl => ?_)
        refine j_iload C dX12_dale_35 (lv_at hl 0 rfl) ?_
        refine j_if_eq (tgt := 47) C dX12_dale_37 (by decide) (fun c_6_ => ?_) (fun c_6_ => ?_)
        · skip
          have hag9 := h_5_.symm.trans c_6_
          obtain ⟨i8, k8, ei8, ek8, hik8⟩ := re60 en8 hn8 (agI_0 hag9)
          have ef9 : (60 * z0) + z2 = nI (60 * j_1_ + i8) := by rw [ej1, ei8, show (60 : Int32) = nI 60 from rfl, pk_mul, nI_add]
          refine j_bipush (v := 60) C dX12_dale_47 (by decide) ?_
          refine j_iload_n C dX12_dale_49 rfl (lv_at hl 2 rfl) ?_
          refine j_imul C dX12_dale_50 ?_
          refine j_iload_n C dX12_dale_51 rfl (lv_at hl 4 rfl) ?_
          refine j_iadd C dX12_dale_52 ?_
          refine j_istore (lv2 := [(6, .int ((60 * z0) + z2)), (5, .int (x_5_)), (0, .ref (ad (0))), (1, .int (z0)), (2, .int (z1)), (3, .int (z2)), (4, .int (z3))]) C dX12_dale_53 hl (by decide) rfl (fun ls hl => ?_)
          refine j_aload_n C dX12_dale_55 rfl (lv_at hl 2 rfl) ?_
          refine j_iload C dX12_dale_56 (lv_at hl 0 rfl) ?_
          refine j_putI (k := 0) C (f_RX12_95_12) p_12_15 (ml (by decide)) (rfl) dX12_dale_58 (fun V2 eV2 => ?_)
          have hat9 : V2 0 15 = nI (60 * j_1_ + i8) := by rw [eV2, up2_s]; exact ef9
          have r39 : V2 3 = V1 3 := by rw [eV2, up2_k _ _ (by decide)]
          have fr09 : frD V1 V2 := by rw [eV2]; exact frD.up (by omega)
          refine j_aload_n C dX12_dale_61 rfl (lv_at hl 2 rfl) ?_
          refine j_iload C dX12_dale_62 (lv_at hl 0 rfl) ?_
          refine j_iload C dX12_dale_64 (lv_at hl 6 rfl) ?_
          refine j_iadd C dX12_dale_66 ?_
          refine j_callV (k := 0) C [.int (((60 * z0) + z2) + z3)] [] (k_X12_readDale l ad V2 (((60 * z0) + z2) + z3) (60 * j_1_ + i8 + k8) (nA (nA (nM (show (60 : Int32) = nI 60 from rfl) (ej1)) (ei8)) (ek8)) (by omega) (60 * j_1_ + i8) k8 rfl hat9 fr0 ys0 ls0 ks0 as0) v_RX12_117 (ml (by decide)) (rfl) rfl ⟨rfl, rfl, Nat.le_of_ble_eq_true rfl, Nat.le_of_ble_eq_true rfl⟩ rfl hl.1 rfl (Nat.le_of_ble_eq_true rfl) ⟨Nat.le_of_ble_eq_true rfl, Nat.le_of_ble_eq_true rfl⟩ dX12_dale_67 (kI fun x_7_ U7 h_7_ => ?_)
          obtain ⟨frd9, h_7_⟩ := h_7_
          replace frd9 := fr09.tr frd9
          simp only [r39] at h_7_
          rcases h_7_ with ⟨ex7, b9, hb9, h_79_, hrm9, g49, t59⟩ | ⟨ex7, p9, b9, hp9, at9, hb9, h_79_, hs9⟩
          · subst ex7
            refine j_if_ne (tgt := 84) C dX12_dale_70 (by decide) (fun c_8_ => ?_) (fun c_8_ => ?_)
            · skip
              refine j_aload_n C dX12_dale_84 rfl (lv_at hl 2 rfl) ?_
              refine j_callV (k := 0) C [] [] (k_X12_takeDale l ad U7   b9.2.2.1 b9.2.2.2.1 hrm9.1 g49 hrm9.2.1 t59) v_RX12_120 (ml (by decide)) (rfl) rfl ⟨rfl, rfl, Nat.le_of_ble_eq_true rfl, Nat.le_of_ble_eq_true rfl⟩ rfl hl.1 rfl (Nat.le_of_ble_eq_true rfl) ⟨Nat.le_of_ble_eq_true rfl, Nat.le_of_ble_eq_true rfl⟩ dX12_dale_85 (kU fun U9 h_9_ => ?_)
              have htd9 := h_9_
              refine j_aload_n C dX12_dale_88 rfl (lv_at hl 2 rfl) ?_
              refine j_getI (k := 0) C (f_RX12_92_12) (ml (by decide)) (rfl) dX12_dale_89 ?_
              refine j_iret C ⟨rfl, _, rfl, ?_⟩ dX12_dale_92
              simp only [← eV1]
              obtain ⟨hin1, hcl1⟩ := inz ej1 hj1 (by omega)
              have e32 : z2.toNatClampNeg = i8 := by rw [ei8, nI_clamp (by omega)]
              have e33 : z3.toNatClampNeg = k8 := by rw [ek8, nI_clamp (by omega)]
              rw [if_pos hin1, hcl1, if_pos b4, if_pos hag9, e32, e33]
              exact Or.inl ⟨b9, U7, hb9, h_79_, htd9.2.1, frd9, hrm9, g49, t59, htd9⟩
            · exact absurd c_8_ (by decide)
          · subst ex7
            refine j_if_ne (tgt := 84) C dX12_dale_70 (by decide) (fun c_10_ => ?_) (fun c_10_ => ?_)
            · exact absurd rfl c_10_
            · skip
              refine j_bipush (v := (-100)) C dX12_dale_73 (by decide) ?_
              refine j_aload_n C dX12_dale_75 rfl (lv_at hl 2 rfl) ?_
              refine j_getI (k := 0) C (f_RX12_95_12) (ml (by decide)) (rfl) dX12_dale_76 ?_
              refine j_iload C dX12_dale_79 (lv_at hl 0 rfl) ?_
              refine j_isub C dX12_dale_81 ?_
              refine j_isub C dX12_dale_82 ?_
              refine j_iret C ⟨rfl, _, rfl, ?_⟩ dX12_dale_83
              simp only [← eV1]
              obtain ⟨hin1, hcl1⟩ := inz ej1 hj1 (by omega)
              have e32 : z2.toNatClampNeg = i8 := by rw [ei8, nI_clamp (by omega)]
              have e33 : z3.toNatClampNeg = k8 := by rw [ek8, nI_clamp (by omega)]
              rw [if_pos hin1, hcl1, if_pos b4, if_pos hag9, e32, e33]
              exact Or.inr ⟨p9, b9, hp9, hb9, h_79_, hs9, by rw [at9, ef9, pk_sub (by omega), show 60 * j_1_ + i8 + p9 - (60 * j_1_ + i8) = p9 by omega], frd9⟩
        · skip
          refine j_aload_n C dX12_dale_40 rfl (lv_at hl 1 rfl) ?_
          refine j_iload C dX12_dale_41 (lv_at hl 0 rfl) ?_
          refine j_callV (k := 0) C [.int (x_5_)] [] (k_X12_fails l ad V1 (x_5_)  ) v_RX12_113 (ml (by decide)) (rfl) rfl ⟨rfl, rfl, Nat.le_of_ble_eq_true rfl, Nat.le_of_ble_eq_true rfl⟩ rfl hl.1 rfl (Nat.le_of_ble_eq_true rfl) ⟨Nat.le_of_ble_eq_true rfl, Nat.le_of_ble_eq_true rfl⟩ dX12_dale_43 (kI fun x_11_ U11 h_11_ => ?_)
          obtain ⟨eU11, h_11_⟩ := h_11_
          refine j_iret C ⟨rfl, _, rfl, ?_⟩ dX12_dale_46
          simp only [← eV1]
          obtain ⟨hin1, hcl1⟩ := inz ej1 hj1 (by omega)
          rw [if_pos hin1, hcl1, if_pos b4, ← h_5_, if_neg c_6_]
          exact ⟨h_11_, eU11⟩
      · skip
        have b4 := bI_0.mp (h_3_ ▸ c_4_)
        refine j_bipush (v := (-2)) C dX12_dale_21 (by decide) ?_
        refine j_iret C ⟨rfl, _, rfl, ?_⟩ dX12_dale_23
        simp only [← eV1]
        obtain ⟨hin1, hcl1⟩ := inz ej1 hj1 (by omega)
        rw [if_pos hin1, hcl1, if_neg b4]
        exact ⟨by trivial, by trivial⟩
    · exact absurd c_2_ (by decide)
  · subst ex1
    refine j_if_ne (tgt := 14) C dX12_dale_9 (by decide) (fun c_12_ => ?_) (fun c_12_ => ?_)
    · exact absurd rfl c_12_
    · skip
      refine j_iconst (v := (-1)) C dX12_dale_12 (by decide) ?_
      refine j_iret C ⟨rfl, _, rfl, ?_⟩ dX12_dale_13
      simp only [← eV1]
      rw [if_neg (outR ho1)]
      exact ⟨by trivial, by trivial⟩
