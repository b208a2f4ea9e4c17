theorem deG_rng (f : Nat → Int32) (rf : Nat) {g : Nat} (hg : g < 100) : deG f rf g = -9 ∨ ∃ q, q < g ∧ deG f rf g = nI q := (deG_cg (f := f) (f2 := f) (rf := rf) g hg (fun _ _ => rfl)).2
theorem tb_f {b : Bool} (h : ¬ b = true) : b = false := by cases b <;> simp_all
abbrev rm_X12_nextFor : Room := { frames := 2, cells := 0, slots := 0, locals := 45 }
set_option maxHeartbeats 4000000 in
set_option maxRecDepth 100000 in
theorem k_X12_nextFor (l : Launch) (ad : Nat → Nat) (V : Vt) (z0 : Int32) (t : Nat) (e0 : z0 = nI t) (ht : t < 5) (ng : Nat) (hG : V 0 6 = nI ng) (ng4 : ng ≤ 4) (rf : Nat) (hrf : V 20 t = nI rf) (hrf6 : rf < 16)  : Ct l yX12_nextFor cX12_nextFor 5 (some .int) rm_X12_nextFor (mS ad) V [.ref (ad (0)), .int (z0)] (rI fun x V2 => V2 = V ∧ x = deG (nrM V t) rf ng) := by
  subst e0
  refine Ct_of (by decide) (Nat.le_of_ble_eq_true rfl) ?_
  intro p e s m below meth c A D cy ls C hl
  have hl : lv_has ls 5 [(0, .ref (ad (0))), (1, .int (nI t))] := hl
  refine j_bipush (v := (-9)) C dX12_nextFor_0 (by decide) ?_
  refine j_istore_n (lv2 := [(2, .int ((-9))), (0, .ref (ad (0))), (1, .int (nI t))]) C dX12_nextFor_2 rfl hl (by decide) rfl (fun ls hl => ?_)
  refine j_iconst (v := 0) C dX12_nextFor_3 (by decide) ?_
  refine j_istore_n (lv2 := [(3, .int (0)), (2, .int ((-9))), (0, .ref (ad (0))), (1, .int (nI t))]) C dX12_nextFor_4 rfl hl (by decide) rfl (fun ls hl => ?_)
  have loop : ∀ (n_9_ : Nat) (g : Nat) (b : Int32), g ≤ ng → b = deG (nrM V t) rf g → ng - g < n_9_ → ∀ (ls : Array Slot), lv_has ls 5 [(0, .ref (ad (0))), (1, .int (nI t)), (2, .int (b)), (3, .int (nI g))] → J p l e rm_X12_nextFor s m [.ref (ad (0)), .int (nI t)].toArray below meth c A D cy 0 0 (MQ below (gPost D cy A (fun o9 σ2 V2 => σ2 = mS ad ∧ (rI fun x V2 => V2 = V ∧ x = deG (nrM V t) rf ng) o9 V2)) [.ref (ad (0)), .int (nI t)].toArray s 0 0 A) (mS ad) V (F0 m 5 ls []) := by
    intro n_9_
    induction n_9_ with
    | zero =>
      intro g b hi hb hm
      exact absurd hm (by omega)
    | succ n_9_ ih_loop =>
      intro g b hi hb hm ls hl
      refine j_iload_n C dX12_nextFor_5 rfl (lv_at hl 3 rfl) ?_
      refine j_aload_n C dX12_nextFor_6 rfl (lv_at hl 0 rfl) ?_
      refine j_getI (k := 0) C (f_RX12_89_12) (ml (by decide)) (rfl) dX12_nextFor_7 ?_
      refine j_icmp_ge (tgt := 71) C dX12_nextFor_10 (by decide) (fun c_1_ => ?_) (fun c_1_ => ?_)
      · have n_1_ := Int32.not_lt.mpr c_1_
        have q1 := cLe (hG) (rfl) (by omega) (by omega) c_1_
        refine j_iload_n C dX12_nextFor_71 rfl (lv_at hl 2 rfl) ?_
        refine j_iret C ⟨rfl, _, rfl, ?_⟩ dX12_nextFor_72
        obtain rfl : g = ng := by omega
        exact ⟨rfl, hb⟩
      · have n_1_ := Int32.not_le.mp c_1_
        have q1 := cNe (hG) (rfl) (by omega) (by omega) c_1_
        have hlt : g < ng := by omega
        refine j_aload_n C dX12_nextFor_13 rfl (lv_at hl 0 rfl) ?_
        refine j_getR (k := 0) (k2 := 20) C (f_RX12_67_12) (ml (by decide)) (rfl) (rfl) dX12_nextFor_14 ?_
        refine j_iload_n C dX12_nextFor_17 rfl (lv_at hl 1 rfl) ?_
        refine j_ialdE (k := 20) (n := 5) (t := t) C (ml (by decide)) (rfl) (rfl) (rfl) (by omega) (by decide) dX12_nextFor_18 ?_
        refine j_iload_n C dX12_nextFor_19 rfl (lv_at hl 3 rfl) ?_
        refine j_ishr C dX12_nextFor_20 ?_
        refine j_iconst (v := 1) C dX12_nextFor_21 (by decide) ?_
        refine j_iand C dX12_nextFor_22 ?_
        refine j_if_ne (tgt := 30) C dX12_nextFor_23 (by decide) (fun c_2_ => ?_) (fun c_2_ => ?_)
        · skip
          have er9 : rf.testBit g = true := Decidable.not_not.mp (mt bI_0.mpr (by rw [← bitI hrf6 (by omega), ← hrf]; exact c_2_))
          refine j_iconst (v := 0) C dX12_nextFor_30 (by decide) ?_
          refine j_istore (lv2 := [(4, .int (0)), (0, .ref (ad (0))), (1, .int (nI t)), (2, .int (b)), (3, .int (nI g))]) C dX12_nextFor_31 hl (by decide) rfl (fun ls hl => ?_)
          refine j_iload C dX12_nextFor_33 (lv_at hl 0 rfl) ?_
          refine j_if_eq (tgt := 63) C dX12_nextFor_35 (by decide) (fun c_3_ => ?_) (fun c_3_ => ?_)
          · skip
            refine j_iload_n C dX12_nextFor_63 rfl (lv_at hl 3 rfl) ?_
            refine j_istore_n (lv2 := [(2, .int (b)), (4, .int (0)), (0, .ref (ad (0))), (1, .int (nI t)), (3, .int (nI g))]) C dX12_nextFor_64 rfl hl (by decide) rfl (fun ls hl => ?_)
            refine j_iinc (v := nI (g + 1)) (lv2 := [(3, .int (nI (g + 1))), (2, .int (b)), (4, .int (0)), (0, .ref (ad (0))), (1, .int (nI t))]) C dX12_nextFor_65 hl (k0 := 4) rfl (nI_1 _) (by decide) rfl (fun ls hl => ?_)
            refine j_goto (tgt := 5) C dX12_nextFor_68 (by decide) ?_
            exact ih_loop (g + 1) (b) (by omega) (by rw [deG, if_neg (fun q => by have q2 := q.1; rw [er9] at q2; cases q2)]; exact hb) (by omega) ls (lv_sub hl [3, 4, 1, 0] rfl)
          · exact absurd rfl c_3_
        · skip
          have er9 : rf.testBit g = false := tb_f (bI_0.mp (by rw [← bitI hrf6 (by omega), ← hrf]; exact c_2_))
          refine j_iconst (v := 1) C dX12_nextFor_26 (by decide) ?_
          refine j_goto (tgt := 31) C dX12_nextFor_27 (by decide) ?_
          refine j_istore (lv2 := [(4, .int (1)), (0, .ref (ad (0))), (1, .int (nI t)), (2, .int (b)), (3, .int (nI g))]) C dX12_nextFor_31 hl (by decide) rfl (fun ls hl => ?_)
          refine j_iload C dX12_nextFor_33 (lv_at hl 0 rfl) ?_
          refine j_if_eq (tgt := 63) C dX12_nextFor_35 (by decide) (fun c_4_ => ?_) (fun c_4_ => ?_)
          · exact absurd c_4_ (by decide)
          · skip
            refine j_iload_n C dX12_nextFor_38 rfl (lv_at hl 3 rfl) ?_
            refine j_bipush (v := (-9)) C dX12_nextFor_39 (by decide) ?_
            refine j_icmp_eq (tgt := 59) C dX12_nextFor_41 (by decide) (fun c_5_ => ?_) (fun c_5_ => ?_)
            · skip
              refine j_iload_n C dX12_nextFor_59 rfl (lv_at hl 4 rfl) ?_
              refine j_goto (tgt := 64) C dX12_nextFor_60 (by decide) ?_
              refine j_istore_n (lv2 := [(2, .int (nI g)), (4, .int (1)), (0, .ref (ad (0))), (1, .int (nI t)), (3, .int (nI g))]) C dX12_nextFor_64 rfl hl (by decide) rfl (fun ls hl => ?_)
              refine j_iinc (v := nI (g + 1)) (lv2 := [(3, .int (nI (g + 1))), (2, .int (nI g)), (4, .int (1)), (0, .ref (ad (0))), (1, .int (nI t))]) C dX12_nextFor_65 hl (k0 := 4) rfl (nI_1 _) (by decide) rfl (fun ls hl => ?_)
              refine j_goto (tgt := 5) C dX12_nextFor_68 (by decide) ?_
              exact ih_loop (g + 1) (nI g) (by omega) (by rw [deG, if_pos ⟨er9, Or.inl (hb ▸ c_5_)⟩]) (by omega) ls (lv_sub hl [3, 4, 1, 0] rfl)
            · skip
              obtain ⟨q9, hq9, eq9⟩ : ∃ q, q < g ∧ b = nI q := by
                rcases deG_rng (nrM V t) rf (g := g) (by omega) with h | ⟨q, h_1_, h_2_⟩
                · exact absurd (hb.trans h) c_5_
                · exact ⟨q, h_1_, hb.trans h_2_⟩
              refine j_aload_n C dX12_nextFor_44 rfl (lv_at hl 1 rfl) ?_
              refine j_iload_n C dX12_nextFor_45 rfl (lv_at hl 2 rfl) ?_
              refine j_iload_n C dX12_nextFor_46 rfl (lv_at hl 4 rfl) ?_
              refine j_callV (k := 0) C [.int (nI t), .int (nI g)] [] (k_X12_measureOf l ad V (nI t) (nI g) t (rfl) (by omega) g (rfl) (by omega) ) v_RX12_179 (ml (by decide)) (rfl) rfl ⟨rfl, rfl, Nat.le_of_ble_eq_true rfl, Nat.le_of_ble_eq_true rfl⟩ rfl hl.1 rfl (Nat.le_of_ble_eq_true rfl) ⟨Nat.le_of_ble_eq_true rfl, Nat.le_of_ble_eq_true rfl⟩ dX12_nextFor_47 (kI fun x_6_ U6 h_6_ => ?_)
              obtain ⟨eU6, h_6_⟩ := h_6_
              have eU6 := eU6.symm
              subst eU6
              refine j_aload_n C dX12_nextFor_50 rfl (lv_at hl 1 rfl) ?_
              refine j_iload_n C dX12_nextFor_51 rfl (lv_at hl 2 rfl) ?_
              refine j_iload_n C dX12_nextFor_52 rfl (lv_at hl 3 rfl) ?_
              refine j_callV (k := 0) C [.int (nI t), .int (b)] [.int (x_6_)] (k_X12_measureOf l ad V (nI t) (b) t (rfl) (by omega) q9 (eq9) (by omega) ) v_RX12_179 (ml (by decide)) (rfl) rfl ⟨rfl, rfl, Nat.le_of_ble_eq_true rfl, Nat.le_of_ble_eq_true rfl⟩ rfl hl.1 rfl (Nat.le_of_ble_eq_true rfl) ⟨Nat.le_of_ble_eq_true rfl, Nat.le_of_ble_eq_true rfl⟩ dX12_nextFor_53 (kI fun x_7_ U7 h_7_ => ?_)
              obtain ⟨eU7, h_7_⟩ := h_7_
              have eU7 := eU7.symm
              subst eU7
              refine j_icmp_ge (tgt := 63) C dX12_nextFor_56 (by decide) (fun c_8_ => ?_) (fun c_8_ => ?_)
              · have n_8_ := Int32.not_lt.mpr c_8_
                have en9 : ¬ nrM V t g < nrM V t (deG (nrM V t) rf g).toNatClampNeg := by rw [← hb, eq9, nI_clamp (by omega), ← h_6_, ← h_7_]; exact Int32.not_lt.mpr c_8_
                refine j_iload_n C dX12_nextFor_63 rfl (lv_at hl 3 rfl) ?_
                refine j_istore_n (lv2 := [(2, .int (b)), (4, .int (1)), (0, .ref (ad (0))), (1, .int (nI t)), (3, .int (nI g))]) C dX12_nextFor_64 rfl hl (by decide) rfl (fun ls hl => ?_)
                refine j_iinc (v := nI (g + 1)) (lv2 := [(3, .int (nI (g + 1))), (2, .int (b)), (4, .int (1)), (0, .ref (ad (0))), (1, .int (nI t))]) C dX12_nextFor_65 hl (k0 := 4) rfl (nI_1 _) (by decide) rfl (fun ls hl => ?_)
                refine j_goto (tgt := 5) C dX12_nextFor_68 (by decide) ?_
                exact ih_loop (g + 1) (b) (by omega) (by rw [deG, if_neg (fun q => q.2.elim (fun q2 => c_5_ (hb.trans q2)) (fun q2 => absurd q2 en9))]; exact hb) (by omega) ls (lv_sub hl [3, 4, 1, 0] rfl)
              · have n_8_ := Int32.not_le.mp c_8_
                have en9 : nrM V t g < nrM V t (deG (nrM V t) rf g).toNatClampNeg := by rw [← hb, eq9, nI_clamp (by omega), ← h_6_, ← h_7_]; exact Int32.not_le.mp c_8_
                refine j_iload_n C dX12_nextFor_59 rfl (lv_at hl 4 rfl) ?_
                refine j_goto (tgt := 64) C dX12_nextFor_60 (by decide) ?_
                refine j_istore_n (lv2 := [(2, .int (nI g)), (4, .int (1)), (0, .ref (ad (0))), (1, .int (nI t)), (3, .int (nI g))]) C dX12_nextFor_64 rfl hl (by decide) rfl (fun ls hl => ?_)
                refine j_iinc (v := nI (g + 1)) (lv2 := [(3, .int (nI (g + 1))), (2, .int (nI g)), (4, .int (1)), (0, .ref (ad (0))), (1, .int (nI t))]) C dX12_nextFor_65 hl (k0 := 4) rfl (nI_1 _) (by decide) rfl (fun ls hl => ?_)
                refine j_goto (tgt := 5) C dX12_nextFor_68 (by decide) ?_
                exact ih_loop (g + 1) (nI g) (by omega) (by rw [deG, if_pos ⟨er9, Or.inr en9⟩]) (by omega) ls (lv_sub hl [3, 4, 1, 0] rfl)
  exact loop (ng + 1) 0 (-9) (by omega) rfl (by omega) ls (lv_sub hl [2, 3, 1, 0] rfl)
abbrev rm_X12_wouldRather : Room := { frames := 2, cells := 0, slots := 0, locals := 45 }
set_option maxHeartbeats 4000000 in
set_option maxRecDepth 100000 in
theorem k_X12_wouldRather (l : Launch) (ad : Nat → Nat) (V : Vt) (z0 z1 : Int32) (g : Nat) (e0 : z0 = nI g) (hg : g < 4) (t : Nat) (e1 : z1 = nI t) (ht : t < 5) (hw : V 19 g = -9 ∨ ∃ rv, rv < 5 ∧ V 19 g = nI rv)  : Ct l yX12_wouldRather cX12_wouldRather 4 (some .boolean) rm_X12_wouldRather (mS ad) V [.ref (ad (0)), .int (z0), .int (z1)] (rI fun x V2 => V2 = V ∧ ((x = 1 ∧ (V 19 g = -9 ∨ ∃ rv, rv < 5 ∧ V 19 g = nI rv ∧ wpG (nrM V) g t rv)) ∨ (x = 0 ∧ ∃ rv, rv < 5 ∧ V 19 g = nI rv ∧ ¬ wpG (nrM V) g t rv))) := by
  subst e0
  subst e1
  refine Ct_of (by decide) (Nat.le_of_ble_eq_true rfl) ?_
  intro p e s m below meth c A D cy ls C hl
  have hl : lv_has ls 4 [(0, .ref (ad (0))), (1, .int (nI g)), (2, .int (nI t))] := hl
  refine j_aload_n C dX12_wouldRather_0 rfl (lv_at hl 0 rfl) ?_
  refine j_getR (k := 0) (k2 := 19) C (f_RX12_64_12) (ml (by decide)) (rfl) (rfl) dX12_wouldRather_1 ?_
  refine j_iload_n C dX12_wouldRather_4 rfl (lv_at hl 1 rfl) ?_
  refine j_ialdE (k := 19) (n := 4) (t := g) C (ml (by decide)) (rfl) (rfl) (rfl) (by omega) (by decide) dX12_wouldRather_5 ?_
  refine j_istore_n (lv2 := [(3, .int (V 19 g)), (0, .ref (ad (0))), (1, .int (nI g)), (2, .int (nI t))]) C dX12_wouldRather_6 rfl hl (by decide) rfl (fun ls hl => ?_)
  refine j_iload_n C dX12_wouldRather_7 rfl (lv_at hl 0 rfl) ?_
  refine j_bipush (v := (-9)) C dX12_wouldRather_8 (by decide) ?_
  refine j_icmp_eq (tgt := 48) C dX12_wouldRather_10 (by decide) (fun c_1_ => ?_) (fun c_1_ => ?_)
  · skip
    refine j_iconst (v := 1) C dX12_wouldRather_48 (by decide) ?_
    refine j_goto (tgt := 53) C dX12_wouldRather_49 (by decide) ?_
    refine j_zret C rfl ⟨rfl, _, rfl, ?_⟩ dX12_wouldRather_53
    exact ⟨rfl, Or.inl ⟨rfl, Or.inl c_1_⟩⟩
  · skip
    obtain ⟨rv9, hrv9, erv9⟩ := hw.resolve_left c_1_
    refine j_aload_n C dX12_wouldRather_13 rfl (lv_at hl 1 rfl) ?_
    refine j_iload_n C dX12_wouldRather_14 rfl (lv_at hl 3 rfl) ?_
    refine j_iload_n C dX12_wouldRather_15 rfl (lv_at hl 2 rfl) ?_
    refine j_callV (k := 0) C [.int (nI t), .int (nI g)] [] (k_X12_measureOf l ad V (nI t) (nI g) t (rfl) (by omega) g (rfl) (by omega) ) v_RX12_179 (ml (by decide)) (rfl) rfl ⟨rfl, rfl, Nat.le_of_ble_eq_true rfl, Nat.le_of_ble_eq_true rfl⟩ rfl hl.1 rfl (Nat.le_of_ble_eq_true rfl) ⟨Nat.le_of_ble_eq_true rfl, Nat.le_of_ble_eq_true rfl⟩ dX12_wouldRather_16 (kI fun x_2_ U2 h_2_ => ?_)
    obtain ⟨eU2, h_2_⟩ := h_2_
    have eU2 := eU2.symm
    subst eU2
    refine j_aload_n C dX12_wouldRather_19 rfl (lv_at hl 1 rfl) ?_
    refine j_iload_n C dX12_wouldRather_20 rfl (lv_at hl 0 rfl) ?_
    refine j_iload_n C dX12_wouldRather_21 rfl (lv_at hl 2 rfl) ?_
    refine j_callV (k := 0) C [.int (V 19 g), .int (nI g)] [.int (x_2_)] (k_X12_measureOf l ad V (V 19 g) (nI g) rv9 (erv9) (by omega) g (rfl) (by omega) ) v_RX12_179 (ml (by decide)) (rfl) rfl ⟨rfl, rfl, Nat.le_of_ble_eq_true rfl, Nat.le_of_ble_eq_true rfl⟩ rfl hl.1 rfl (Nat.le_of_ble_eq_true rfl) ⟨Nat.le_of_ble_eq_true rfl, Nat.le_of_ble_eq_true rfl⟩ dX12_wouldRather_22 (kI fun x_3_ U3 h_3_ => ?_)
    obtain ⟨eU3, h_3_⟩ := h_3_
    have eU3 := eU3.symm
    subst eU3
    refine j_icmp_lt (tgt := 48) C dX12_wouldRather_25 (by decide) (fun c_4_ => ?_) (fun c_4_ => ?_)
    · have n_4_ := Int32.not_le.mpr c_4_
      refine j_iconst (v := 1) C dX12_wouldRather_48 (by decide) ?_
      refine j_goto (tgt := 53) C dX12_wouldRather_49 (by decide) ?_
      refine j_zret C rfl ⟨rfl, _, rfl, ?_⟩ dX12_wouldRather_53
      refine ⟨rfl, Or.inl ⟨rfl, Or.inr ⟨rv9, hrv9, erv9, Or.inl ?_⟩⟩⟩
      rw [← h_2_, ← h_3_]
      exact c_4_
    · have n_4_ := Int32.not_lt.mp c_4_
      refine j_aload_n C dX12_wouldRather_28 rfl (lv_at hl 1 rfl) ?_
      refine j_iload_n C dX12_wouldRather_29 rfl (lv_at hl 3 rfl) ?_
      refine j_iload_n C dX12_wouldRather_30 rfl (lv_at hl 2 rfl) ?_
      refine j_callV (k := 0) C [.int (nI t), .int (nI g)] [] (k_X12_measureOf l ad V (nI t) (nI g) t (rfl) (by omega) g (rfl) (by omega) ) v_RX12_179 (ml (by decide)) (rfl) rfl ⟨rfl, rfl, Nat.le_of_ble_eq_true rfl, Nat.le_of_ble_eq_true rfl⟩ rfl hl.1 rfl (Nat.le_of_ble_eq_true rfl) ⟨Nat.le_of_ble_eq_true rfl, Nat.le_of_ble_eq_true rfl⟩ dX12_wouldRather_31 (kI fun x_5_ U5 h_5_ => ?_)
      obtain ⟨eU5, h_5_⟩ := h_5_
      have eU5 := eU5.symm
      subst eU5
      refine j_aload_n C dX12_wouldRather_34 rfl (lv_at hl 1 rfl) ?_
      refine j_iload_n C dX12_wouldRather_35 rfl (lv_at hl 0 rfl) ?_
      refine j_iload_n C dX12_wouldRather_36 rfl (lv_at hl 2 rfl) ?_
      refine j_callV (k := 0) C [.int (V 19 g), .int (nI g)] [.int (x_5_)] (k_X12_measureOf l ad V (V 19 g) (nI g) rv9 (erv9) (by omega) g (rfl) (by omega) ) v_RX12_179 (ml (by decide)) (rfl) rfl ⟨rfl, rfl, Nat.le_of_ble_eq_true rfl, Nat.le_of_ble_eq_true rfl⟩ rfl hl.1 rfl (Nat.le_of_ble_eq_true rfl) ⟨Nat.le_of_ble_eq_true rfl, Nat.le_of_ble_eq_true rfl⟩ dX12_wouldRather_37 (kI fun x_6_ U6 h_6_ => ?_)
      obtain ⟨eU6, h_6_⟩ := h_6_
      have eU6 := eU6.symm
      subst eU6
      refine j_icmp_ne (tgt := 52) C dX12_wouldRather_40 (by decide) (fun c_7_ => ?_) (fun c_7_ => ?_)
      · skip
        refine j_iconst (v := 0) C dX12_wouldRather_52 (by decide) ?_
        refine j_zret C rfl ⟨rfl, _, rfl, ?_⟩ dX12_wouldRather_53
        have nlt : ¬ nrM V t g < nrM V rv9 g := by rw [← h_2_, ← h_3_]; exact c_4_
        have nne : ¬ nrM V t g = nrM V rv9 g := by rw [← h_5_, ← h_6_]; exact c_7_
        refine ⟨rfl, Or.inr ⟨rfl, rv9, hrv9, erv9, fun q => ?_⟩⟩
        unfold wpG at q
        exact q.elim nlt (fun q => nne q.1)
      · skip
        refine j_iload_n C dX12_wouldRather_43 rfl (lv_at hl 3 rfl) ?_
        refine j_iload_n C dX12_wouldRather_44 rfl (lv_at hl 0 rfl) ?_
        refine j_icmp_ge (tgt := 52) C dX12_wouldRather_45 (by decide) (fun c_8_ => ?_) (fun c_8_ => ?_)
        · have n_8_ := Int32.not_lt.mpr c_8_
          have q8 := cLe (erv9) (rfl) (by omega) (by omega) c_8_
          refine j_iconst (v := 0) C dX12_wouldRather_52 (by decide) ?_
          refine j_zret C rfl ⟨rfl, _, rfl, ?_⟩ dX12_wouldRather_53
          have nlt : ¬ nrM V t g < nrM V rv9 g := by rw [← h_2_, ← h_3_]; exact c_4_
          refine ⟨rfl, Or.inr ⟨rfl, rv9, hrv9, erv9, fun q => ?_⟩⟩
          unfold wpG at q
          exact q.elim nlt (fun q => absurd q.2 (by omega))
        · have n_8_ := Int32.not_le.mp c_8_
          have q8 := cNe (erv9) (rfl) (by omega) (by omega) c_8_
          refine j_iconst (v := 1) C dX12_wouldRather_48 (by decide) ?_
          refine j_goto (tgt := 53) C dX12_wouldRather_49 (by decide) ?_
          refine j_zret C rfl ⟨rfl, _, rfl, ?_⟩ dX12_wouldRather_53
          refine ⟨rfl, Or.inl ⟨rfl, Or.inr ⟨rv9, hrv9, erv9, Or.inr ⟨?_, by omega⟩⟩⟩⟩
          rw [← h_5_, ← h_6_]
          exact c_7_
/-- one asks: what becomes of the reference's wedding -/
def asM (V : Vt) (rf t g : Nat) (V2 : Vt) : Prop :=
  (V 19 g = -9 ∧ V2 = up2 (up2 (up2 V 20 t (nI (rf ||| 2 ^ g))) 19 g (nI t)) 18 t (nI g)) ∨
  (∃ rv, rv < 5 ∧ V 19 g = nI rv ∧ wpG (nrM V) g t rv ∧ V2 = up2 (up2 (up2 (up2 V 20 t (nI (rf ||| 2 ^ g))) 18 rv (-9)) 19 g (nI t)) 18 t (nI g)) ∨
  (∃ rv, rv < 5 ∧ V 19 g = nI rv ∧ ¬ wpG (nrM V) g t rv ∧ V2 = up2 V 20 t (nI (rf ||| 2 ^ g)))
theorem nrM_row {V V2 : Vt} (h : ∀ a, a = 0 ∨ a = 4 ∨ a = 5 ∨ a = 6 ∨ a = 7 → V2 a = V a) : nrM V2 = nrM V := by
  funext t g
  unfold nrM
  rw [h 6 (by decide), h 7 (by decide), h 4 (by decide), h 5 (by decide), h 0 (by decide)]
abbrev rm_X12_asks : Room := { frames := 3, cells := 0, slots := 0, locals := 68 }
set_option maxHeartbeats 4000000 in
set_option maxRecDepth 100000 in
theorem k_X12_asks (l : Launch) (ad : Nat → Nat) (V : Vt) (z0 z1 : Int32) (t : Nat) (e0 : z0 = nI t) (ht : t < 5) (g : Nat) (e1 : z1 = nI g) (hg : g < 4) (rf : Nat) (hrf : V 20 t = nI rf) (hrf6 : rf < 16) (hw : V 19 g = -9 ∨ ∃ rv, rv < 5 ∧ V 19 g = nI rv)  : Ct l yX12_asks cX12_asks 3 none rm_X12_asks (mS ad) V [.ref (ad (0)), .int (z0), .int (z1)] (rU fun V2 => asM V rf t g V2) := by
  subst e0
  subst e1
  refine Ct_of (by decide) (Nat.le_of_ble_eq_true rfl) ?_
  intro p e s m below meth c A D cy ls C hl
  have hl : lv_has ls 3 [(0, .ref (ad (0))), (1, .int (nI t)), (2, .int (nI g))] := hl
  refine j_aload_n C dX12_asks_0 rfl (lv_at hl 0 rfl) ?_
  refine j_getR (k := 0) (k2 := 20) C (f_RX12_67_12) (ml (by decide)) (rfl) (rfl) dX12_asks_1 ?_
  refine j_iload_n C dX12_asks_4 rfl (lv_at hl 1 rfl) ?_
  refine j_dup2 C dX12_asks_5 rfl rfl ?_
  refine j_ialdE (k := 20) (n := 5) (t := t) C (ml (by decide)) (rfl) (rfl) (rfl) (by omega) (by decide) dX12_asks_6 ?_
  refine j_iconst (v := 1) C dX12_asks_7 (by decide) ?_
  refine j_iload_n C dX12_asks_8 rfl (lv_at hl 2 rfl) ?_
  refine j_ishl C dX12_asks_9 ?_
  refine j_ior C dX12_asks_10 ?_
  refine j_iastE (k := 20) (n := 5) (t := t) C (ml (by decide)) (rfl) (rfl) (rfl) (by omega) (by decide) dX12_asks_11 (fun V1 eV1 => ?_)
  have e1 : V1 = up2 V 20 t (nI (rf ||| 2 ^ g)) := by rw [eV1, hrf, sh1 (by omega), orI]
  have r19 : V1 19 = V 19 := by rw [e1, up2_k _ _ (by decide)]
  have rn9 : nrM V1 = nrM V := nrM_row (fun a h => by rw [e1, up2_k _ _ (by omega)])
  refine j_aload_n C dX12_asks_12 rfl (lv_at hl 0 rfl) ?_
  refine j_iload_n C dX12_asks_13 rfl (lv_at hl 2 rfl) ?_
  refine j_iload_n C dX12_asks_14 rfl (lv_at hl 1 rfl) ?_
  refine j_callV (k := 0) C [.int (nI g), .int (nI t)] [] (k_X12_wouldRather l ad V1 (nI g) (nI t) g (rfl) (by omega) t (rfl) (by omega) (by rw [r19]; exact hw)) v_RX12_231 (ml (by decide)) (rfl) rfl ⟨rfl, rfl, Nat.le_of_ble_eq_true rfl, Nat.le_of_ble_eq_true rfl⟩ rfl hl.1 rfl (Nat.le_of_ble_eq_true rfl) ⟨Nat.le_of_ble_eq_true rfl, Nat.le_of_ble_eq_true rfl⟩ dX12_asks_15 (kI fun x_1_ U1 h_1_ => ?_)
  obtain ⟨eU1, h_1_⟩ := h_1_
  have eU1 := eU1.symm
  subst eU1
  rcases h_1_ with ⟨ex1, hs1⟩ | ⟨ex1, hs1⟩
  · subst ex1
    refine j_if_eq (tgt := 59) C dX12_asks_18 (by decide) (fun c_2_ => ?_) (fun c_2_ => ?_)
    · exact absurd c_2_ (by decide)
    · skip
      refine j_aload_n C dX12_asks_21 rfl (lv_at hl 0 rfl) ?_
      refine j_getR (k := 0) (k2 := 19) C (f_RX12_64_12) (ml (by decide)) (rfl) (rfl) dX12_asks_22 ?_
      refine j_iload_n C dX12_asks_25 rfl (lv_at hl 2 rfl) ?_
      refine j_ialdE (k := 19) (n := 4) (t := g) C (ml (by decide)) (rfl) (rfl) (rfl) (by omega) (by decide) dX12_asks_26 ?_
      refine j_bipush (v := (-9)) C dX12_asks_27 (by decide) ?_
      refine j_icmp_eq (tgt := 45) C dX12_asks_29 (by decide) (fun c_3_ => ?_) (fun c_3_ => ?_)
      · skip
        refine j_aload_n C dX12_asks_45 rfl (lv_at hl 0 rfl) ?_
        refine j_getR (k := 0) (k2 := 19) C (f_RX12_64_12) (ml (by decide)) (rfl) (rfl) dX12_asks_46 ?_
        refine j_iload_n C dX12_asks_49 rfl (lv_at hl 2 rfl) ?_
        refine j_iload_n C dX12_asks_50 rfl (lv_at hl 1 rfl) ?_
        refine j_iastE (k := 19) (n := 4) (t := g) C (ml (by decide)) (rfl) (rfl) (rfl) (by omega) (by decide) dX12_asks_51 (fun V2 eV2 => ?_)
        refine j_aload_n C dX12_asks_52 rfl (lv_at hl 0 rfl) ?_
        refine j_getR (k := 0) (k2 := 18) C (f_RX12_61_12) (ml (by decide)) (rfl) (rfl) dX12_asks_53 ?_
        refine j_iload_n C dX12_asks_56 rfl (lv_at hl 1 rfl) ?_
        refine j_iload_n C dX12_asks_57 rfl (lv_at hl 2 rfl) ?_
        refine j_iastE (k := 18) (n := 5) (t := t) C (ml (by decide)) (rfl) (rfl) (rfl) (by omega) (by decide) dX12_asks_58 (fun V3 eV3 => ?_)
        refine j_vret C ⟨rfl, rfl, ?_⟩ dX12_asks_59
        exact Or.inl ⟨by rw [← r19]; exact c_3_, by rw [eV3, eV2, e1]⟩
      · skip
        obtain ⟨rv9, hrv9, erv9, pr9⟩ := hs1.resolve_left c_3_
        refine j_aload_n C dX12_asks_32 rfl (lv_at hl 0 rfl) ?_
        refine j_getR (k := 0) (k2 := 18) C (f_RX12_61_12) (ml (by decide)) (rfl) (rfl) dX12_asks_33 ?_
        refine j_aload_n C dX12_asks_36 rfl (lv_at hl 0 rfl) ?_
        refine j_getR (k := 0) (k2 := 19) C (f_RX12_64_12) (ml (by decide)) (rfl) (rfl) dX12_asks_37 ?_
        refine j_iload_n C dX12_asks_40 rfl (lv_at hl 2 rfl) ?_
        refine j_ialdE (k := 19) (n := 4) (t := g) C (ml (by decide)) (rfl) (rfl) (rfl) (by omega) (by decide) dX12_asks_41 ?_
        refine j_bipush (v := (-9)) C dX12_asks_42 (by decide) ?_
        refine j_iastE (k := 18) (n := 5) (t := rv9) C (ml (by decide)) (rfl) (rfl) (erv9) (by omega) (by decide) dX12_asks_44 (fun V4 eV4 => ?_)
        refine j_aload_n C dX12_asks_45 rfl (lv_at hl 0 rfl) ?_
        refine j_getR (k := 0) (k2 := 19) C (f_RX12_64_12) (ml (by decide)) (rfl) (rfl) dX12_asks_46 ?_
        refine j_iload_n C dX12_asks_49 rfl (lv_at hl 2 rfl) ?_
        refine j_iload_n C dX12_asks_50 rfl (lv_at hl 1 rfl) ?_
        refine j_iastE (k := 19) (n := 4) (t := g) C (ml (by decide)) (rfl) (rfl) (rfl) (by omega) (by decide) dX12_asks_51 (fun V5 eV5 => ?_)
        refine j_aload_n C dX12_asks_52 rfl (lv_at hl 0 rfl) ?_
        refine j_getR (k := 0) (k2 := 18) C (f_RX12_61_12) (ml (by decide)) (rfl) (rfl) dX12_asks_53 ?_
        refine j_iload_n C dX12_asks_56 rfl (lv_at hl 1 rfl) ?_
        refine j_iload_n C dX12_asks_57 rfl (lv_at hl 2 rfl) ?_
        refine j_iastE (k := 18) (n := 5) (t := t) C (ml (by decide)) (rfl) (rfl) (rfl) (by omega) (by decide) dX12_asks_58 (fun V6 eV6 => ?_)
        refine j_vret C ⟨rfl, rfl, ?_⟩ dX12_asks_59
        exact Or.inr (Or.inl ⟨rv9, hrv9, by rw [← r19]; exact erv9, by rw [← rn9]; exact pr9, by rw [eV6, eV5, eV4, e1]⟩)
  · subst ex1
    refine j_if_eq (tgt := 59) C dX12_asks_18 (by decide) (fun c_4_ => ?_) (fun c_4_ => ?_)
    · skip
      refine j_vret C ⟨rfl, rfl, ?_⟩ dX12_asks_59
      obtain ⟨rv8, a8, b8, d8⟩ := hs1
      exact Or.inr (Or.inr ⟨rv8, a8, by rw [← r19]; exact b8, by rw [← rn9]; exact d8, e1⟩)
    · exact absurd rfl c_4_
/-- all rows stay but the wedding's own -/
def frN (V V2 : Vt) : Prop := ∀ a, a ≠ 18 → a ≠ 19 → a ≠ 20 → V2 a = V a
theorem frN.nr {V V2 : Vt} (h : frN V V2) : nrM V2 = nrM V := nrM_row (fun a q => h a (by omega) (by omega) (by omega))
theorem frN.sc {V V2 : Vt} {ng : Nat} {rr : Nat → Nat} (h : frN V V2) : scE ng rr V V2 := by
  intro a j q
  rw [h a (fun e => q.2.1 (by omega)) (fun e => q.2.1 (by omega)) (fun e => q.2.1 (by omega))]
theorem frN.up {V V2 : Vt} {a i : Nat} {x : Int32} (h : frN V V2) (ha : a = 18 ∨ a = 19 ∨ a = 20) : frN V (up2 V2 a i x) := fun b p q r => by rw [up2_k _ _ (by omega)]; exact h b p q r
def wcn (ng nt : Nat) (ai : Nat → Nat) : Nat := sumN (fun t => cntI (fun g => (ai t).testBit g = true) ng) nt
theorem wcn_le {ng nt : Nat} {ai : Nat → Nat} (h_4_ : ng ≤ 4) (h_5_ : nt ≤ 5) : wcn ng nt ai ≤ 20 := by
  have a : wcn ng nt ai ≤ nt * ng := sumN_bd nt (fun q _ => cntI_le _ ng)
  have b : nt * ng ≤ 5 * 4 := Nat.mul_le_mul h_5_ h_4_
  omega
/-- the reference's wedding under way: whom each has asked is ai -/
def wMI (V : Vt) (nt ng : Nat) (Vi : Vt) (ai : Nat → Nat) : Prop :=
  frN V Vi ∧ (∀ t, t < nt → Vi 20 t = nI (ai t) ∧ ai t < 16) ∧ (∀ g, g < ng → (Vi 19 g = -9 ∧ ∀ t, t < nt → ¬ Vi 18 t = nI g) ∨ ∃ t, t < nt ∧ Vi 19 g = nI t ∧ Vi 18 t = nI g) ∧
  wIn (nrM V) nt ng (Vi 18) (fun t g => (ai t).testBit g = true ∧ ¬ Vi 18 t = nI g) ∧ ∀ t g, t < nt → g < ng → Vi 18 t = nI g → (ai t).testBit g = true
theorem wMI_19 {V Vi : Vt} {nt ng g : Nat} {ai : Nat → Nat} (h : wMI V nt ng Vi ai) (h_5_ : nt ≤ 5) (hg : g < ng) : Vi 19 g = -9 ∨ ∃ rv, rv < 5 ∧ Vi 19 g = nI rv := by
  rcases h.2.2.1 g hg with q | ⟨t, ht, e, -⟩
  · exact Or.inl q.1
  · exact Or.inr ⟨t, by omega, e⟩
theorem wMI_0 {V Vi : Vt} {nt ng : Nat} (h_4_ : ng ≤ 4) (hf : frN V Vi) (a1 : ∀ t, t < nt → Vi 18 t = -9 ∧ Vi 20 t = 0) (a2 : ∀ g, g < ng → Vi 19 g = -9) : wMI V nt ng Vi (fun _ => 0) :=
  ⟨hf, fun t ht => ⟨(a1 t ht).2, show 0 < 16 by decide⟩, fun g hg => Or.inl ⟨a2 g hg, fun t ht e => m9_nI (by omega) (e.symm.trans (a1 t ht).1)⟩, wIn_0 (fun t ht => (a1 t ht).1) (fun t g _ _ q => by have q2 := q.1; rw [Nat.zero_testBit] at q2; cases q2) h_4_, fun t g ht hg e => absurd (e.symm.trans (a1 t ht).1) (m9_nI (by omega))⟩
theorem wMI_st {V Vi V2 : Vt} {nt ng t g : Nat} {ai : Nat → Nat} (h_4_ : ng ≤ 4) (h_5_ : nt ≤ 5) (h : wMI V nt ng Vi ai) (ht : t < nt) (hg : g < ng) (m9 : Vi 18 t = -9) (hd : deG (nrM Vi t) (ai t) ng = nI g) (ha : asM Vi (ai t) t g V2) : wMI V nt ng V2 (uN ai t (ai t ||| 2 ^ g)) ∧ wcn ng nt (uN ai t (ai t ||| 2 ^ g)) = wcn ng nt ai + 1 := by
  obtain ⟨hf, h_20_, h_19_, hI, hA⟩ := h
  rw [hf.nr] at hd
  obtain ⟨nR, rc⟩ := deG_ask h_4_ hg hd
  have nR2 : ¬ ((ai t).testBit g = true ∧ ¬ Vi 18 t = nI g) := fun q => by have q2 := q.1; rw [nR] at q2; cases q2
  have nx : ∀ q, q < 100 → ¬ Vi 18 t = nI q := fun q hq e => m9_nI (by omega) (e.symm.trans m9)
  have rc2 : wRc (nrM V) ng (fun t g => (ai t).testBit g = true ∧ ¬ Vi 18 t = nI g) t g := fun q hq p => ⟨rc q hq p, nx q (by omega)⟩
  have bt : ∀ a b, a < nt → ((uN ai t (ai t ||| 2 ^ g) a).testBit b = true ↔ ((ai a).testBit b = true ∨ (a = t ∧ b = g))) := by
    intro a b _
    by_cases e : a = t
    · rw [e, uN_s]; exact tb_or.trans ⟨fun z => z.imp id (fun y => ⟨rfl, y⟩), fun z => z.imp id (fun y => y.2)⟩
    · rw [uN_o _ _ e]; exact ⟨Or.inl, fun z => z.resolve_right (fun y => e y.1)⟩
  have h20n : ∀ (W : Vt), (∀ q, q < nt → W 20 q = up2 Vi 20 t (nI (ai t ||| 2 ^ g)) 20 q) → ∀ q, q < nt → W 20 q = nI (uN ai t (ai t ||| 2 ^ g) q) ∧ uN ai t (ai t ||| 2 ^ g) q < 16 := by
    intro W hW q hq
    rw [hW q hq]
    by_cases e : q = t
    · rw [e, up2_s, uN_s]; exact ⟨rfl, or16 (h_20_ t ht).2 (by omega)⟩
    · rw [up2_i _ _ e, uN_o _ _ e]; exact h_20_ q hq
  refine ⟨?_, ?_⟩
  · rcases ha with ⟨e19, rfl⟩ | ⟨rv, hrv, erv, p, rfl⟩ | ⟨rv, hrv, erv, p, rfl⟩
    · have no : ∀ q, q < nt → ¬ Vi 18 q = nI g := by
        rcases h_19_ g hg with z | ⟨u, hu, e, -⟩
        · exact z.2
        · exact absurd (e.symm.trans e19) (m9_nI (by omega))
      have e18 : ∀ q, q < nt → up2 (up2 (up2 Vi 20 t (nI (ai t ||| 2 ^ g))) 19 g (nI t)) 18 t (nI g) 18 q = if q = t then nI g else Vi 18 q := fun q _ => by
        by_cases e : q = t
        · rw [e, up2_s, if_pos rfl]
        · rw [up2_i _ _ e, up2_k _ _ (by decide), up2_k _ _ (by decide), if_neg e]
      refine ⟨((hf.up (by omega)).up (by omega)).up (by omega), h20n _ (fun q _ => by rw [up2_k _ _ (by decide), up2_k _ _ (by decide)]), fun k hk => ?_, wIn_a hI ht hg h_4_ m9 nR2 rc2 no e18 (fun a b ha hb => ?_), fun q k hq hk e => ?_⟩
      · by_cases e : k = g
        · refine Or.inr ⟨t, ht, ?_, by rw [up2_s, e]⟩
          rw [up2_k _ _ (by decide), e, up2_s]
        · rw [up2_k _ _ (by decide), up2_i _ _ e, up2_k _ _ (by decide)]
          rcases h_19_ k hk with ⟨z1, z2⟩ | ⟨u, hu, z1, z2⟩
          · refine Or.inl ⟨z1, fun q hq => ?_⟩
            rw [e18 q hq]
            split
            · exact fun y => e (nI_inj (by omega) (by omega) y).symm
            · exact z2 q hq
          · refine Or.inr ⟨u, hu, z1, ?_⟩
            rw [e18 u hu, if_neg (fun y => by rw [y] at z2; exact nx k (by omega) z2)]
            exact z2
      · rw [e18 a ha, bt a b ha]
        by_cases e : a = t
        · subst e
          rw [if_pos rfl]
          constructor
          · rintro ⟨z1, z2⟩
            exact ⟨z1.resolve_right (fun y => z2 (by rw [y.2])), nx b (by omega)⟩
          · rintro ⟨z1, z2⟩
            refine ⟨Or.inl z1, fun y => ?_⟩
            have eb : g = b := nI_inj (by omega) (by omega) y
            rw [← eb, nR] at z1; cases z1
        · rw [if_neg e]
          exact ⟨fun z => ⟨z.1.resolve_right (fun y => e y.1), z.2⟩, fun z => ⟨Or.inl z.1, z.2⟩⟩
      · rw [e18 q hq] at e
        rw [bt q k hq]
        by_cases c : q = t
        · rw [if_pos c] at e
          exact Or.inr ⟨c, (nI_inj (by omega) (by omega) e).symm⟩
        · rw [if_neg c] at e
          exact Or.inl (hA q k hq hk e)
    · obtain ⟨hrn, e18r⟩ : rv < nt ∧ Vi 18 rv = nI g := by
        rcases h_19_ g hg with z | ⟨u, hu, e, z⟩
        · exact absurd (erv.symm.trans z.1) (m9_nI (by omega))
        · have eu : u = rv := nI_inj (by omega) (by omega) (e.symm.trans erv)
          rw [eu] at hu z
          exact ⟨hu, z⟩
      have ne : rv ≠ t := fun c => by rw [c] at e18r; exact nx g (by omega) e18r
      rw [hf.nr] at p
      have e18 : ∀ q, q < nt → up2 (up2 (up2 (up2 Vi 20 t (nI (ai t ||| 2 ^ g))) 18 rv (-9)) 19 g (nI t)) 18 t (nI g) 18 q = if q = t then nI g else if q = rv then -9 else Vi 18 q := fun q _ => by
        by_cases e : q = t
        · rw [e, up2_s, if_pos rfl]
        · rw [up2_i _ _ e, up2_k _ _ (by decide), if_neg e]
          by_cases d : q = rv
          · rw [d, up2_s, if_pos rfl]
          · rw [up2_i _ _ d, up2_k _ _ (by decide), if_neg d]
      refine ⟨(((hf.up (by omega)).up (by omega)).up (by omega)).up (by omega), h20n _ (fun q _ => by rw [up2_k _ _ (by decide), up2_k _ _ (by decide), up2_k _ _ (by decide)]), fun k hk => ?_, wIn_b hI ht hg h_4_ m9 nR2 rc2 hrn e18r p e18 (fun a b ha hb => ?_), fun q k hq hk e => ?_⟩
      · by_cases e : k = g
        · refine Or.inr ⟨t, ht, ?_, by rw [up2_s, e]⟩
          rw [up2_k _ _ (by decide), e, up2_s]
        · rw [up2_k _ _ (by decide), up2_i _ _ e, up2_k _ _ (by decide), up2_k _ _ (by decide)]
          rcases h_19_ k hk with ⟨z1, z2⟩ | ⟨u, hu, z1, z2⟩
          · refine Or.inl ⟨z1, fun q hq => ?_⟩
            rw [e18 q hq]
            split
            · exact fun y => e (nI_inj (by omega) (by omega) y).symm
            · split
              · exact fun y => m9_nI (by omega) y.symm
              · exact z2 q hq
          · refine Or.inr ⟨u, hu, z1, ?_⟩
            rw [e18 u hu, if_neg (fun y => by rw [y] at z2; exact nx k (by omega) z2), if_neg (fun y => by rw [y, e18r] at z2; exact e (nI_inj (by omega) (by omega) z2).symm)]
            exact z2
      · rw [e18 a ha, bt a b ha]
        by_cases e : a = t
        · subst e
          rw [if_pos rfl]
          constructor
          · rintro ⟨z1, z2⟩
            exact Or.inl ⟨z1.resolve_right (fun y => z2 (by rw [y.2])), nx b (by omega)⟩
          · rintro (⟨z1, z2⟩ | ⟨z1, z2⟩)
            · refine ⟨Or.inl z1, fun y => ?_⟩
              have eb : g = b := nI_inj (by omega) (by omega) y
              rw [← eb, nR] at z1; cases z1
            · exact absurd z1.symm ne
        · rw [if_neg e]
          by_cases d : a = rv
          · subst d
            rw [if_pos rfl]
            constructor
            · rintro ⟨z1, z2⟩
              have z1 := z1.resolve_right (fun y => e y.1)
              by_cases y : b = g
              · exact Or.inr ⟨rfl, y⟩
              · exact Or.inl ⟨z1, fun w => y (nI_inj (by omega) (by omega) (w.symm.trans e18r))⟩
            · rintro (⟨z1, z2⟩ | ⟨z1, z2⟩)
              · exact ⟨Or.inl z1, fun y => m9_nI (by omega) y.symm⟩
              · exact ⟨Or.inl (by rw [z2]; exact hA a g ha hg e18r), fun y => m9_nI (by omega) y.symm⟩
          · rw [if_neg d]
            exact ⟨fun z => Or.inl ⟨z.1.resolve_right (fun y => e y.1), z.2⟩, fun z => z.elim (fun z => ⟨Or.inl z.1, z.2⟩) (fun z => absurd z.1 d)⟩
      · rw [e18 q hq] at e
        rw [bt q k hq]
        by_cases c : q = t
        · rw [if_pos c] at e
          exact Or.inr ⟨c, (nI_inj (by omega) (by omega) e).symm⟩
        · rw [if_neg c] at e
          by_cases d : q = rv
          · rw [if_pos d] at e
            exact absurd e.symm (m9_nI (by omega))
          · rw [if_neg d] at e
            exact Or.inl (hA q k hq hk e)
    · obtain ⟨hrn, e18r⟩ : rv < nt ∧ Vi 18 rv = nI g := by
        rcases h_19_ g hg with z | ⟨u, hu, e, z⟩
        · exact absurd (erv.symm.trans z.1) (m9_nI (by omega))
        · have eu : u = rv := nI_inj (by omega) (by omega) (e.symm.trans erv)
          rw [eu] at hu z
          exact ⟨hu, z⟩
      rw [hf.nr] at p
      have r18 : up2 Vi 20 t (nI (ai t ||| 2 ^ g)) 18 = Vi 18 := up2_k _ _ (by decide)
      refine ⟨hf.up (by omega), h20n _ (fun q _ => rfl), fun k hk => ?_, wIn_c hI ht hg h_4_ m9 rc2 hrn e18r p (fun q _ => by rw [r18]) (fun a b ha hb => ?_), fun q k hq hk e => ?_⟩
      · rw [up2_k _ _ (by decide), r18]; exact h_19_ k hk
      · rw [r18, bt a b ha]
        by_cases e : a = t
        · subst e
          constructor
          · rintro ⟨z1, z2⟩
            rcases z1 with z1 | z1
            · exact Or.inl ⟨z1, z2⟩
            · exact Or.inr z1
          · rintro (⟨z1, z2⟩ | z1)
            · exact ⟨Or.inl z1, z2⟩
            · exact ⟨Or.inr z1, nx b (by omega)⟩
        · exact ⟨fun z => Or.inl ⟨z.1.resolve_right (fun y => e y.1), z.2⟩, fun z => z.elim (fun z => ⟨Or.inl z.1, z.2⟩) (fun z => absurd z.1 e)⟩
      · rw [r18] at e
        rw [bt q k hq]
        exact Or.inl (hA q k hq hk e)
  · unfold wcn
    have k := sumN_up (f := fun t => cntI (fun g => (ai t).testBit g = true) ng) (f2 := fun q => cntI (fun b => (uN ai t (ai t ||| 2 ^ g) q).testBit b = true) ng) (t := t) (by rw [uN_s, cnt_or nR, if_pos hg]) nt (fun q hq e => by rw [uN_o _ _ e])
    rw [if_pos ht] at k
    exact k
theorem wMI_end {V Vi : Vt} {nt ng j : Nat} {ai : Nat → Nat} (h_4_ : ng ≤ 4) (h : wMI V nt ng Vi ai) (he : ∀ q, q < nt → Vi 18 q = -9 → deG (nrM V q) (ai q) ng = -9) : wRes (nrM V) nt ng j (Vi 18 j) :=
  ⟨Vi 18, _, h.2.2.2.1, fun t ht e g hg => ⟨deG_none h_4_ (he t ht e) g hg, fun y => m9_nI (by omega) (y.symm.trans e)⟩, rfl⟩
/-- a round of askings: nobody has asked yet (b 0), or somebody has -/
def wBi (V : Vt) (nt ng c_7_ q : Nat) (Vi : Vt) (ai : Nat → Nat) (b : Int32) : Prop := (b = 0 ∧ wcn ng nt ai = c_7_ ∧ ∀ p, p < q → Vi 18 p = -9 → deG (nrM V p) (ai p) ng = -9) ∨ (b = 1 ∧ c_7_ < wcn ng nt ai)
theorem wBi_n {V Vi : Vt} {nt ng c_7_ q : Nat} {ai : Nat → Nat} {b : Int32} (h : wBi V nt ng c_7_ q Vi ai b) (hq : Vi 18 q = -9 → deG (nrM V q) (ai q) ng = -9) : wBi V nt ng c_7_ (q + 1) Vi ai b := by
  rcases h with ⟨a, e, d⟩ | h
  · refine Or.inl ⟨a, e, fun p hp => ?_⟩
    by_cases c : p = q
    · rw [c]; exact hq
    · exact d p (by omega)
  · exact Or.inr h
/-- between rounds -/
def wBo (V : Vt) (nt ng : Nat) (Vi : Vt) (ai : Nat → Nat) (b : Int32) (w9 : Nat) : Prop := (b = 1 ∧ w9 = 21 - wcn ng nt ai) ∨ (b = 0 ∧ w9 = 0 ∧ ∀ p, p < nt → Vi 18 p = -9 → deG (nrM V p) (ai p) ng = -9)
theorem wBo_of {V Vi : Vt} {nt ng c_7_ w9 : Nat} {ai : Nat → Nat} {b : Int32} (h_4_ : ng ≤ 4) (h_5_ : nt ≤ 5) (hc : c_7_ ≤ 20) (hw : w9 = 21 - c_7_) (h : wBi V nt ng c_7_ nt Vi ai b) : ∃ w8, wBo V nt ng Vi ai b w8 ∧ w8 < w9 := by
  have hl := wcn_le (ai := ai) h_4_ h_5_
  rcases h with ⟨a, e, d⟩ | ⟨a, e⟩
  · exact ⟨0, Or.inr ⟨a, rfl, d⟩, by omega⟩
  · exact ⟨21 - wcn ng nt ai, Or.inl ⟨a, rfl⟩, by omega⟩
abbrev rm_X12_weds : Room := { frames := 4, cells := 0, slots := 0, locals := 90 }
set_option maxHeartbeats 4000000 in
set_option maxRecDepth 100000 in
theorem k_X12_weds (l : Launch) (ad : Nat → Nat) (V : Vt) (z0 : Int32) (ng : Nat) (rr : Nat → Nat) (nt c_0_ : Nat) (hM : MI V ng rr nt c_0_)  : Ct l yX12_weds cX12_weds 4 (some .int) rm_X12_weds (mS ad) V [.ref (ad (0)), .int (z0)] (rI fun x V2 => scE ng rr V V2 ∧ ((¬ (¬ z0 < 0 ∧ z0 < nI nt) ∧ x = -1) ∨ ∃ j, j < nt ∧ z0 = nI j ∧ wRes (nrM V) nt ng j x)) := by
  refine Ct_of (by decide) (Nat.le_of_ble_eq_true rfl) ?_
  intro p e s m below meth c A D cy ls C hl
  have hl : lv_has ls 4 [(0, .ref (ad (0))), (1, .int (z0))] := hl
  have ng4 := hM.2.1
  have nt5 := hM.2.2.2.1
  refine j_aload_n C dX12_weds_0 rfl (lv_at hl 0 rfl) ?_
  refine j_iload_n C dX12_weds_1 rfl (lv_at hl 1 rfl) ?_
  refine j_callV (k := 0) C [.int (z0)] [] (k_X12_isThrower l ad V (z0)  nt hM.2.2.1 hM.2.2.2.1) v_RX12_170 (ml (by decide)) (rfl) rfl ⟨rfl, rfl, Nat.le_of_ble_eq_true rfl, Nat.le_of_ble_eq_true rfl⟩ rfl hl.1 rfl (Nat.le_of_ble_eq_true rfl) ⟨Nat.le_of_ble_eq_true rfl, Nat.le_of_ble_eq_true rfl⟩ dX12_weds_2 (kI fun x_1_ U1 h_1_ => ?_)
  obtain ⟨eU1, h_1_⟩ := h_1_
  have eU1 := eU1.symm
  subst eU1
  rcases h_1_ with ⟨j_1_, hj1, ej1, ex1⟩ | ⟨ho1, ex1⟩
  · subst ex1
    refine j_if_ne (tgt := 10) C dX12_weds_5 (by decide) (fun c_2_ => ?_) (fun c_2_ => ?_)
    · skip
      refine j_iconst (v := 0) C dX12_weds_10 (by decide) ?_
      refine j_istore_n (lv2 := [(2, .int (0)), (0, .ref (ad (0))), (1, .int (z0))]) C dX12_weds_11 rfl hl (by decide) rfl (fun ls hl => ?_)
      have loop : ∀ (n_9_ : Nat) (q : Nat) (Va : Vt), q ≤ nt → frN V Va → (∀ p, p < q → Va 18 p = -9 ∧ Va 20 p = 0) → nt - q < n_9_ → ∀ (ls : Array Slot), lv_has ls 4 [(0, .ref (ad (0))), (1, .int (z0)), (2, .int (nI q))] → J p l e rm_X12_weds s m [.ref (ad (0)), .int (z0)].toArray below meth c A D cy 0 0 (MQ below (gPost D cy A (fun o9 σ2 V2 => σ2 = mS ad ∧ (rI fun x V2 => scE ng rr V V2 ∧ ((¬ (¬ z0 < 0 ∧ z0 < nI nt) ∧ x = -1) ∨ ∃ j, j < nt ∧ z0 = nI j ∧ wRes (nrM V) nt ng j x)) o9 V2)) [.ref (ad (0)), .int (z0)].toArray s 0 0 A) (mS ad) Va (F0 m 12 ls []) := by
        intro n_9_
        induction n_9_ with
        | zero =>
          intro q Va hi hfa ha hm
          exact absurd hm (by omega)
        | succ n_9_ ih_loop =>
          intro q Va hi hfa ha hm ls hl
          refine j_iload_n C dX12_weds_12 rfl (lv_at hl 2 rfl) ?_
          refine j_aload_n C dX12_weds_13 rfl (lv_at hl 0 rfl) ?_
          refine j_getI (k := 0) C (f_RX12_92_12) (ml (by decide)) (rfl) dX12_weds_14 ?_
          refine j_icmp_ge (tgt := 41) C dX12_weds_17 (by decide) (fun c_3_ => ?_) (fun c_3_ => ?_)
          · have n_3_ := Int32.not_lt.mpr c_3_
            have q3 := cLe ((by rw [(hfa : frN V Va) 0 (by decide) (by decide) (by decide)]; exact hM.2.2.1)) (rfl) (by omega) (by omega) c_3_
            refine j_iconst (v := 0) C dX12_weds_41 (by decide) ?_
            refine j_istore_n (lv2 := [(2, .int (0)), (0, .ref (ad (0))), (1, .int (z0))]) C dX12_weds_42 rfl hl (by decide) rfl (fun ls hl => ?_)
            have loop2 : ∀ (n_9_ : Nat) (g : Nat) (Vb : Vt), g ≤ ng → frN V Vb → (∀ p, p < nt → Vb 18 p = -9 ∧ Vb 20 p = 0) → (∀ k, k < g → Vb 19 k = -9) → ng - g < n_9_ → ∀ (ls : Array Slot), lv_has ls 4 [(0, .ref (ad (0))), (1, .int (z0)), (2, .int (nI g))] → J p l e rm_X12_weds s m [.ref (ad (0)), .int (z0)].toArray below meth c A D cy 0 0 (MQ below (gPost D cy A (fun o9 σ2 V2 => σ2 = mS ad ∧ (rI fun x V2 => scE ng rr V V2 ∧ ((¬ (¬ z0 < 0 ∧ z0 < nI nt) ∧ x = -1) ∨ ∃ j, j < nt ∧ z0 = nI j ∧ wRes (nrM V) nt ng j x)) o9 V2)) [.ref (ad (0)), .int (z0)].toArray s 0 0 A) (mS ad) Vb (F0 m 43 ls []) := by
              intro n_9_
              induction n_9_ with
              | zero =>
                intro g Vb hi2 hfb hb hg hm
                exact absurd hm (by omega)
              | succ n_9_ ih_loop2 =>
                intro g Vb hi2 hfb hb hg hm ls hl
                refine j_iload_n C dX12_weds_43 rfl (lv_at hl 2 rfl) ?_
                refine j_aload_n C dX12_weds_44 rfl (lv_at hl 0 rfl) ?_
                refine j_getI (k := 0) C (f_RX12_89_12) (ml (by decide)) (rfl) dX12_weds_45 ?_
                refine j_icmp_ge (tgt := 65) C dX12_weds_48 (by decide) (fun c_4_ => ?_) (fun c_4_ => ?_)
                · have n_4_ := Int32.not_lt.mpr c_4_
                  have q4 := cLe ((by rw [(hfb : frN V Vb) 0 (by decide) (by decide) (by decide)]; exact hM.1)) (rfl) (by omega) (by omega) c_4_
                  refine j_iconst (v := 1) C dX12_weds_65 (by decide) ?_
                  refine j_istore_n (lv2 := [(2, .int (1)), (0, .ref (ad (0))), (1, .int (z0))]) C dX12_weds_66 rfl hl (by decide) rfl (fun ls hl => ?_)
                  have loop3 : ∀ (n_9_ : Nat) (Vo : Vt) (ao : Nat → Nat) (bo : Int32) (w9 : Nat), wMI V nt ng Vo ao → wBo V nt ng Vo ao bo w9 → w9 < n_9_ → ∀ (ls : Array Slot), lv_has ls 4 [(0, .ref (ad (0))), (1, .int (z0)), (2, .int (bo))] → J p l e rm_X12_weds s m [.ref (ad (0)), .int (z0)].toArray below meth c A D cy 0 0 (MQ below (gPost D cy A (fun o9 σ2 V2 => σ2 = mS ad ∧ (rI fun x V2 => scE ng rr V V2 ∧ ((¬ (¬ z0 < 0 ∧ z0 < nI nt) ∧ x = -1) ∨ ∃ j, j < nt ∧ z0 = nI j ∧ wRes (nrM V) nt ng j x)) o9 V2)) [.ref (ad (0)), .int (z0)].toArray s 0 0 A) (mS ad) Vo (F0 m 67 ls []) := by
                    intro n_9_
                    induction n_9_ with
                    | zero =>
                      intro Vo ao bo w9 hIo hbo hm
                      exact absurd hm (by omega)
                    | succ n_9_ ih_loop3 =>
                      intro Vo ao bo w9 hIo hbo hm ls hl
                      refine j_iload_n C dX12_weds_67 rfl (lv_at hl 2 rfl) ?_
                      refine j_if_eq (tgt := 125) C dX12_weds_68 (by decide) (fun c_5_ => ?_) (fun c_5_ => ?_)
                      · skip
                        have hfin9 : ∀ p, p < nt → Vo 18 p = -9 → deG (nrM V p) (ao p) ng = -9 := by
                          rcases hbo with z | z
                          · rw [z.1] at c_5_; exact absurd c_5_ (by decide)
                          · exact z.2.2
                        refine j_aload_n C dX12_weds_125 rfl (lv_at hl 0 rfl) ?_
                        refine j_getR (k := 0) (k2 := 18) C (f_RX12_61_12) (ml (by decide)) (rfl) (rfl) dX12_weds_126 ?_
                        refine j_iload_n C dX12_weds_129 rfl (lv_at hl 1 rfl) ?_
                        refine j_ialdE (k := 18) (n := 5) (t := j_1_) C (ml (by decide)) (rfl) (rfl) (ej1) (by omega) (by decide) dX12_weds_130 ?_
                        refine j_iret C ⟨rfl, _, rfl, ?_⟩ dX12_weds_131
                        exact ⟨hIo.1.sc, Or.inr ⟨j_1_, hj1, ej1, wMI_end ng4 hIo hfin9⟩⟩
                      · skip
                        have ew9 := (hbo.resolve_right (fun z => c_5_ z.1)).2
                        have hmO := hm
                        refine j_iconst (v := 0) C dX12_weds_71 (by decide) ?_
                        refine j_istore_n (lv2 := [(2, .int (0)), (0, .ref (ad (0))), (1, .int (z0))]) C dX12_weds_72 rfl hl (by decide) rfl (fun ls hl => ?_)
                        refine j_iconst (v := 0) C dX12_weds_73 (by decide) ?_
                        refine j_istore_n (lv2 := [(3, .int (0)), (2, .int (0)), (0, .ref (ad (0))), (1, .int (z0))]) C dX12_weds_74 rfl hl (by decide) rfl (fun ls hl => ?_)
                        have loop4 : ∀ (n_9_ : Nat) (q : Nat) (Vi : Vt) (ai : Nat → Nat) (bi : Int32), q ≤ nt → wMI V nt ng Vi ai → wBi V nt ng (wcn ng nt ao) q Vi ai bi → nt - q < n_9_ → ∀ (ls : Array Slot), lv_has ls 4 [(0, .ref (ad (0))), (1, .int (z0)), (2, .int (bi)), (3, .int (nI q))] → J p l e rm_X12_weds s m [.ref (ad (0)), .int (z0)].toArray below meth c A D cy 0 0 (MQ below (gPost D cy A (fun o9 σ2 V2 => σ2 = mS ad ∧ (rI fun x V2 => scE ng rr V V2 ∧ ((¬ (¬ z0 < 0 ∧ z0 < nI nt) ∧ x = -1) ∨ ∃ j, j < nt ∧ z0 = nI j ∧ wRes (nrM V) nt ng j x)) o9 V2)) [.ref (ad (0)), .int (z0)].toArray s 0 0 A) (mS ad) Vi (F0 m 75 ls []) := by
                          intro n_9_
                          induction n_9_ with
                          | zero =>
                            intro q Vi ai bi hi hI hbi hm
                            exact absurd hm (by omega)
                          | succ n_9_ ih_loop4 =>
                            intro q Vi ai bi hi hI hbi hm ls hl
                            refine j_iload_n C dX12_weds_75 rfl (lv_at hl 3 rfl) ?_
                            refine j_aload_n C dX12_weds_76 rfl (lv_at hl 0 rfl) ?_
                            refine j_getI (k := 0) C (f_RX12_92_12) (ml (by decide)) (rfl) dX12_weds_77 ?_
                            refine j_icmp_ge (tgt := 122) C dX12_weds_80 (by decide) (fun c_6_ => ?_) (fun c_6_ => ?_)
                            · have n_6_ := Int32.not_lt.mpr c_6_
                              have q6 := cLe ((by rw [(hI.1 : frN V Vi) 0 (by decide) (by decide) (by decide)]; exact hM.2.2.1)) (rfl) (by omega) (by omega) c_6_
                              obtain rfl : q = nt := by omega
                              obtain ⟨w8, hbo8, hw8⟩ := wBo_of ng4 nt5 (wcn_le (ai := ao) ng4 nt5) ew9 hbi
                              refine j_goto (tgt := 67) C dX12_weds_122 (by decide) ?_
                              exact ih_loop3 Vi ai bi w8 hI hbo8 (by omega) ls (lv_sub hl [0, 1, 2] rfl)
                            · have n_6_ := Int32.not_le.mp c_6_
                              have q6 := cNe ((by rw [(hI.1 : frN V Vi) 0 (by decide) (by decide) (by decide)]; exact hM.2.2.1)) (rfl) (by omega) (by omega) c_6_
                              have hlt : q < nt := by omega
                              refine j_aload_n C dX12_weds_83 rfl (lv_at hl 0 rfl) ?_
                              refine j_getR (k := 0) (k2 := 18) C (f_RX12_61_12) (ml (by decide)) (rfl) (rfl) dX12_weds_84 ?_
                              refine j_iload_n C dX12_weds_87 rfl (lv_at hl 3 rfl) ?_
                              refine j_ialdE (k := 18) (n := 5) (t := q) C (ml (by decide)) (rfl) (rfl) (rfl) (by omega) (by decide) dX12_weds_88 ?_
                              refine j_bipush (v := (-9)) C dX12_weds_89 (by decide) ?_
                              refine j_icmp_ne (tgt := 116) C dX12_weds_91 (by decide) (fun c_7_ => ?_) (fun c_7_ => ?_)
                              · skip
                                have hb9 := wBi_n hbi (fun e => absurd e c_7_)
                                refine j_iinc (v := nI (q + 1)) (lv2 := [(3, .int (nI (q + 1))), (0, .ref (ad (0))), (1, .int (z0)), (2, .int (bi))]) C dX12_weds_116 hl (k0 := 3) rfl (nI_1 _) (by decide) rfl (fun ls hl => ?_)
                                refine j_goto (tgt := 75) C dX12_weds_119 (by decide) ?_
                                exact ih_loop4 (q + 1) Vi ai bi (by omega) hI hb9 (by omega) ls (lv_sub hl [1, 2, 3, 0] rfl)
                              · skip
                                refine j_aload_n C dX12_weds_94 rfl (lv_at hl 0 rfl) ?_
                                refine j_iload_n C dX12_weds_95 rfl (lv_at hl 3 rfl) ?_
                                refine j_callV (k := 0) C [.int (nI q)] [] (k_X12_nextFor l ad Vi (nI q) q (rfl) (by omega) ng (by rw [(hI.1 : frN V Vi) 0 (by decide) (by decide) (by decide)]; exact hM.1) ng4 (ai q) (hI.2.1 q hlt).1 (hI.2.1 q hlt).2) v_RX12_234 (ml (by decide)) (rfl) rfl ⟨rfl, rfl, Nat.le_of_ble_eq_true rfl, Nat.le_of_ble_eq_true rfl⟩ rfl hl.1 rfl (Nat.le_of_ble_eq_true rfl) ⟨Nat.le_of_ble_eq_true rfl, Nat.le_of_ble_eq_true rfl⟩ dX12_weds_96 (kI fun x_8_ U8 h_8_ => ?_)
                                obtain ⟨eU8, h_8_⟩ := h_8_
                                have eU8 := eU8.symm
                                subst eU8
                                refine j_bipush (v := (-9)) C dX12_weds_99 (by decide) ?_
                                refine j_icmp_eq (tgt := 116) C dX12_weds_101 (by decide) (fun c_9_ => ?_) (fun c_9_ => ?_)
                                · skip
                                  have hb9 := wBi_n hbi (fun _ => by rw [← hI.1.nr]; exact h_8_.symm.trans c_9_)
                                  refine j_iinc (v := nI (q + 1)) (lv2 := [(3, .int (nI (q + 1))), (0, .ref (ad (0))), (1, .int (z0)), (2, .int (bi))]) C dX12_weds_116 hl (k0 := 3) rfl (nI_1 _) (by decide) rfl (fun ls hl => ?_)
                                  refine j_goto (tgt := 75) C dX12_weds_119 (by decide) ?_
                                  exact ih_loop4 (q + 1) Vi ai bi (by omega) hI hb9 (by omega) ls (lv_sub hl [1, 2, 3, 0] rfl)
                                · skip
                                  obtain ⟨g9, hg9, ed9⟩ : ∃ g, g < ng ∧ deG (nrM Vi q) (ai q) ng = nI g := by
                                    rcases deG_rng (nrM Vi q) (ai q) (g := ng) (by omega) with e | e
                                    · exact absurd (h_8_.trans e) c_9_
                                    · exact e
                                  refine j_aload_n C dX12_weds_104 rfl (lv_at hl 0 rfl) ?_
                                  refine j_iload_n C dX12_weds_105 rfl (lv_at hl 3 rfl) ?_
                                  refine j_aload_n C dX12_weds_106 rfl (lv_at hl 0 rfl) ?_
                                  refine j_iload_n C dX12_weds_107 rfl (lv_at hl 3 rfl) ?_
                                  refine j_callV (k := 0) C [.int (nI q)] [.int (nI q), .ref (ad (0))] (k_X12_nextFor l ad Vi (nI q) q (rfl) (by omega) ng (by rw [(hI.1 : frN V Vi) 0 (by decide) (by decide) (by decide)]; exact hM.1) ng4 (ai q) (hI.2.1 q hlt).1 (hI.2.1 q hlt).2) v_RX12_234 (ml (by decide)) (rfl) rfl ⟨rfl, rfl, Nat.le_of_ble_eq_true rfl, Nat.le_of_ble_eq_true rfl⟩ rfl hl.1 rfl (Nat.le_of_ble_eq_true rfl) ⟨Nat.le_of_ble_eq_true rfl, Nat.le_of_ble_eq_true rfl⟩ dX12_weds_108 (kI fun x_10_ U10 h_10_ => ?_)
                                  obtain ⟨eU10, h_10_⟩ := h_10_
                                  have eU10 := eU10.symm
                                  subst eU10
                                  skip
                                  refine j_callV (k := 0) C [.int (nI q), .int (x_10_)] [] (k_X12_asks l ad Vi (nI q) (x_10_) q (rfl) (by omega) g9 (h_10_.trans ed9) (by omega) (ai q) (hI.2.1 q hlt).1 (hI.2.1 q hlt).2 (wMI_19 hI nt5 hg9)) v_RX12_237 (ml (by decide)) (rfl) rfl ⟨rfl, rfl, Nat.le_of_ble_eq_true rfl, Nat.le_of_ble_eq_true rfl⟩ rfl hl.1 rfl (Nat.le_of_ble_eq_true rfl) ⟨Nat.le_of_ble_eq_true rfl, Nat.le_of_ble_eq_true rfl⟩ dX12_weds_111 (kU fun U11 h_11_ => ?_)
                                  have hst9 := wMI_st ng4 nt5 hI hlt hg9 c_7_ ed9 h_11_
                                  refine j_iconst (v := 1) C dX12_weds_114 (by decide) ?_
                                  refine j_istore_n (lv2 := [(2, .int (1)), (0, .ref (ad (0))), (1, .int (z0)), (3, .int (nI q))]) C dX12_weds_115 rfl hl (by decide) rfl (fun ls hl => ?_)
                                  refine j_iinc (v := nI (q + 1)) (lv2 := [(3, .int (nI (q + 1))), (2, .int (1)), (0, .ref (ad (0))), (1, .int (z0))]) C dX12_weds_116 hl (k0 := 3) rfl (nI_1 _) (by decide) rfl (fun ls hl => ?_)
                                  refine j_goto (tgt := 75) C dX12_weds_119 (by decide) ?_
                                  exact ih_loop4 (q + 1) U11 (uN ai q (ai q ||| 2 ^ g9)) 1 (by omega) hst9.1 (Or.inr ⟨rfl, by rw [hst9.2]; rcases hbi with z | z <;> omega⟩) (by omega) ls (lv_sub hl [2, 3, 1, 0] rfl)
                        exact loop4 (nt + 1) 0 Vo ao 0 (by omega) hIo (Or.inl ⟨rfl, rfl, fun p h => absurd h (by omega)⟩) (by omega) ls (lv_sub hl [2, 3, 1, 0] rfl)
                  exact loop3 (21 - wcn ng nt (fun _ => 0) + 1) Vb (fun _ => 0) 1 (21 - wcn ng nt (fun _ => 0)) (wMI_0 ng4 hfb hb (fun k h => hg k (by omega))) (Or.inl ⟨rfl, rfl⟩) (by omega) ls (lv_sub hl [1, 2, 0] rfl)
                · have n_4_ := Int32.not_le.mp c_4_
                  have q4 := cNe ((by rw [(hfb : frN V Vb) 0 (by decide) (by decide) (by decide)]; exact hM.1)) (rfl) (by omega) (by omega) c_4_
                  have hlt2 : g < ng := by omega
                  refine j_aload_n C dX12_weds_51 rfl (lv_at hl 0 rfl) ?_
                  refine j_getR (k := 0) (k2 := 19) C (f_RX12_64_12) (ml (by decide)) (rfl) (rfl) dX12_weds_52 ?_
                  refine j_iload_n C dX12_weds_55 rfl (lv_at hl 2 rfl) ?_
                  refine j_bipush (v := (-9)) C dX12_weds_56 (by decide) ?_
                  refine j_iastE (k := 19) (n := 4) (t := g) C (ml (by decide)) (rfl) (rfl) (rfl) (by omega) (by decide) dX12_weds_58 (fun V1 eV1 => ?_)
                  refine j_iinc (v := nI (g + 1)) (lv2 := [(2, .int (nI (g + 1))), (0, .ref (ad (0))), (1, .int (z0))]) C dX12_weds_59 hl (k0 := 2) rfl (nI_1 _) (by decide) rfl (fun ls hl => ?_)
                  refine j_goto (tgt := 43) C dX12_weds_62 (by decide) ?_
                  exact ih_loop2 (g + 1) V1 (by omega) (by rw [eV1]; exact hfb.up (by omega)) (fun p h => by rw [eV1, up2_k _ _ (by decide), up2_k _ _ (by decide)]; exact hb p h) (fun k h => by rw [eV1]; by_cases e : k = g; rw [e, up2_s]; rw [up2_i _ _ e]; exact hg k (by omega)) (by omega) ls (lv_sub hl [1, 2, 0] rfl)
            exact loop2 (ng + 1) 0 Va (by omega) hfa (fun p h => ha p (by omega)) (fun p h => absurd h (by omega)) (by omega) ls (lv_sub hl [1, 2, 0] rfl)
          · have n_3_ := Int32.not_le.mp c_3_
            have q3 := cNe ((by rw [(hfa : frN V Va) 0 (by decide) (by decide) (by decide)]; exact hM.2.2.1)) (rfl) (by omega) (by omega) c_3_
            have hlt : q < nt := by omega
            refine j_aload_n C dX12_weds_20 rfl (lv_at hl 0 rfl) ?_
            refine j_getR (k := 0) (k2 := 18) C (f_RX12_61_12) (ml (by decide)) (rfl) (rfl) dX12_weds_21 ?_
            refine j_iload_n C dX12_weds_24 rfl (lv_at hl 2 rfl) ?_
            refine j_bipush (v := (-9)) C dX12_weds_25 (by decide) ?_
            refine j_iastE (k := 18) (n := 5) (t := q) C (ml (by decide)) (rfl) (rfl) (rfl) (by omega) (by decide) dX12_weds_27 (fun V2 eV2 => ?_)
            refine j_aload_n C dX12_weds_28 rfl (lv_at hl 0 rfl) ?_
            refine j_getR (k := 0) (k2 := 20) C (f_RX12_67_12) (ml (by decide)) (rfl) (rfl) dX12_weds_29 ?_
            refine j_iload_n C dX12_weds_32 rfl (lv_at hl 2 rfl) ?_
            refine j_iconst (v := 0) C dX12_weds_33 (by decide) ?_
            refine j_iastE (k := 20) (n := 5) (t := q) C (ml (by decide)) (rfl) (rfl) (rfl) (by omega) (by decide) dX12_weds_34 (fun V3 eV3 => ?_)
            refine j_iinc (v := nI (q + 1)) (lv2 := [(2, .int (nI (q + 1))), (0, .ref (ad (0))), (1, .int (z0))]) C dX12_weds_35 hl (k0 := 2) rfl (nI_1 _) (by decide) rfl (fun ls hl => ?_)
            refine j_goto (tgt := 12) C dX12_weds_38 (by decide) ?_
            exact ih_loop (q + 1) V3 (by omega) (by rw [eV3, eV2]; exact (hfa.up (by omega)).up (by omega)) (fun p h => by rw [eV3, eV2, up2_k _ _ (show 18 ≠ 20 by decide)]; by_cases e : p = q; rw [e, up2_s, up2_s]; exact ⟨rfl, rfl⟩; rw [up2_i _ _ e, up2_i _ _ e, up2_k _ _ (show 20 ≠ 18 by decide)]; exact ha p (by omega)) (by omega) ls (lv_sub hl [1, 2, 0] rfl)
      exact loop (nt + 1) 0 V (by omega) (fun _ _ _ _ => rfl) (fun p h => absurd h (by omega)) (by omega) ls (lv_sub hl [1, 2, 0] rfl)
    · exact absurd c_2_ (by decide)
  · subst ex1
    refine j_if_ne (tgt := 10) C dX12_weds_5 (by decide) (fun c_12_ => ?_) (fun c_12_ => ?_)
    · exact absurd rfl c_12_
    · skip
      refine j_iconst (v := (-1)) C dX12_weds_8 (by decide) ?_
      refine j_iret C ⟨rfl, _, rfl, ?_⟩ dX12_weds_9
      exact ⟨scE.rf, Or.inl ⟨outR ho1, rfl⟩⟩
