theorem bitI5 {w g : Nat} (hw : w < 16) (hg : g < 4) : ((nI w >>> (nI g &&& 31)) &&& 1 = 1) ↔ w.testBit g = true := by
  rw [bitI hw hg]
  by_cases q : w.testBit g = true
  · rw [bI_t q]; exact ⟨fun _ => q, fun _ => rfl⟩
  · rw [bI_f q]; exact ⟨fun e => absurd e (by decide), fun e => absurd e q⟩
/-- whom thrower t would rather of those that have not refused him (rf), the first g girls -/
def deI (V : Vt) (t rf : Nat) : Nat → Int32
  | 0 => -9
  | g + 1 => if rf.testBit g = false ∧ (deI V t rf g = -9 ∨ V 49 (t * 4 + g) < V 49 (t * 4 + (deI V t rf g).toNatClampNeg)) then nI g else deI V t rf g
theorem deI_rng (V : Vt) (t rf : Nat) : ∀ g, deI V t rf g = -9 ∨ ∃ q, q < g ∧ deI V t rf g = nI q
  | 0 => Or.inl rfl
  | g + 1 => by
    rw [deI]
    split
    · exact Or.inr ⟨g, by omega, rfl⟩
    · rcases deI_rng V t rf g with h | ⟨q, h, e⟩
      · exact Or.inl h
      · exact Or.inr ⟨q, by omega, e⟩
/-- thrower t would be rather girl g's than rv -/
def raI (V : Vt) (g t rv : Nat) : Prop := V 49 (t * 4 + g) < V 49 (rv * 4 + g) ∨ (V 49 (t * 4 + g) = V 49 (rv * 4 + g) ∧ t < rv)
theorem raI_dec (V : Vt) (g t rv : Nat) : raI V g t rv ∨ ¬ raI V g t rv := Classical.em _
abbrev rm_X4_isRefused : Room := { frames := 0, cells := 0, slots := 0, locals := 0 }
set_option maxHeartbeats 4000000 in
set_option maxRecDepth 100000 in
theorem k_X4_isRefused (l : Launch) (ad tk : Nat → Nat) (nt : Nat) (V : Vt) (z0 z1 : Int32) (t g : Nat) (e0 : z0 = nI t) (e1 : z1 = nI g) (ht : t < 5) (hgg : g < 4) (rf : Nat) (hrf : V 52 t = nI rf) (hrf6 : rf < 16)  : Ct l yX4_isRefused cX4_isRefused 3 (some .boolean) rm_X4_isRefused (xS ad tk nt) V [.ref (ad (48)), .int (z0), .int (z1)] (rI fun x V2 => V2 = V ∧ x = bI (rf.testBit g = true)) := by
  refine Ct_of (by decide) (Nat.le_of_ble_eq_true rfl) ?_
  intro p e s m below meth c A D cy ls C hl
  have hl : lv_has ls 3 [(0, .ref (ad (48))), (1, .int (z0)), (2, .int (z1))] := hl
  refine j_iload_n C dX4_isRefused_0 rfl (lv_at hl 1 rfl) ?_
  refine j_if_lt (tgt := 27) C dX4_isRefused_1 (by decide) (fun c_1_ => ?_) (fun c_1_ => ?_)
  · have n_1_ := Int32.not_le.mpr c_1_
    refine j_iconst (v := 1) C dX4_isRefused_27 (by decide) ?_
    refine j_goto (tgt := 32) C dX4_isRefused_28 (by decide) ?_
    refine j_zret C rfl ⟨rfl, _, rfl, ?_⟩ dX4_isRefused_32
    exact absurd c_1_ (by rw [e0]; exact nI_pos (by omega))
  · have n_1_ := Int32.not_lt.mp c_1_
    refine j_iload_n C dX4_isRefused_4 rfl (lv_at hl 1 rfl) ?_
    refine j_aload_n C dX4_isRefused_5 rfl (lv_at hl 0 rfl) ?_
    refine j_getR (k := 48) (k2 := 52) C (f_RX4_21_4) (xl (by decide)) (rfl) (rfl) dX4_isRefused_6 ?_
    refine j_alen (k := 52) (n := 5) C (xl (by decide)) (Or.inl (rfl)) (rfl) dX4_isRefused_9 ?_
    refine j_icmp_ge (tgt := 27) C dX4_isRefused_10 (by decide) (fun c_2_ => ?_) (fun c_2_ => ?_)
    · have n_2_ := Int32.not_lt.mpr c_2_
      refine j_iconst (v := 1) C dX4_isRefused_27 (by decide) ?_
      refine j_goto (tgt := 32) C dX4_isRefused_28 (by decide) ?_
      refine j_zret C rfl ⟨rfl, _, rfl, ?_⟩ dX4_isRefused_32
      exact absurd (e0 ▸ c_2_) (nI_ge (b := 5) ht (by omega))
    · have n_2_ := Int32.not_le.mp c_2_
      refine j_aload_n C dX4_isRefused_13 rfl (lv_at hl 0 rfl) ?_
      refine j_getR (k := 48) (k2 := 52) C (f_RX4_21_4) (xl (by decide)) (rfl) (rfl) dX4_isRefused_14 ?_
      refine j_iload_n C dX4_isRefused_17 rfl (lv_at hl 1 rfl) ?_
      refine j_iald (k := 52) (n := 5) C (xl (by decide)) (rfl) (rfl) (by rw [e0]; exact vp_in_nI ht (by decide)) dX4_isRefused_18 ?_
      refine j_iload_n C dX4_isRefused_19 rfl (lv_at hl 2 rfl) ?_
      refine j_ishr C dX4_isRefused_20 ?_
      refine j_iconst (v := 1) C dX4_isRefused_21 (by decide) ?_
      refine j_iand C dX4_isRefused_22 ?_
      refine j_iconst (v := 1) C dX4_isRefused_23 (by decide) ?_
      refine j_icmp_ne (tgt := 31) C dX4_isRefused_24 (by decide) (fun c_3_ => ?_) (fun c_3_ => ?_)
      · skip
        refine j_iconst (v := 0) C dX4_isRefused_31 (by decide) ?_
        refine j_zret C rfl ⟨rfl, _, rfl, ?_⟩ dX4_isRefused_32
        refine ⟨rfl, ?_⟩
        rw [e0, e1, nI_clamp (by omega), hrf, bitI5 hrf6 hgg] at c_3_
        rw [bI_f c_3_]
      · skip
        refine j_iconst (v := 1) C dX4_isRefused_27 (by decide) ?_
        refine j_goto (tgt := 32) C dX4_isRefused_28 (by decide) ?_
        refine j_zret C rfl ⟨rfl, _, rfl, ?_⟩ dX4_isRefused_32
        refine ⟨rfl, ?_⟩
        rw [e0, e1, nI_clamp (by omega), hrf, bitI5 hrf6 hgg] at c_3_
        rw [bI_t c_3_]
abbrev rm_X4_refuse : Room := { frames := 0, cells := 0, slots := 0, locals := 0 }
set_option maxHeartbeats 4000000 in
set_option maxRecDepth 100000 in
theorem k_X4_refuse (l : Launch) (ad tk : Nat → Nat) (nt : Nat) (V : Vt) (z0 z1 : Int32) (t g : Nat) (e0 : z0 = nI t) (e1 : z1 = nI g) (ht : t < 5) (hgg : g < 4) (rf : Nat) (hrf : V 52 t = nI rf) (hrf6 : rf < 16)  : Ct l yX4_refuse cX4_refuse 3 none rm_X4_refuse (xS ad tk nt) V [.ref (ad (48)), .int (z0), .int (z1)] (rU fun V2 => V2 = up2 V 52 t (nI (rf ||| 2 ^ g))) := by
  refine Ct_of (by decide) (Nat.le_of_ble_eq_true rfl) ?_
  intro p e s m below meth c A D cy ls C hl
  have hl : lv_has ls 3 [(0, .ref (ad (48))), (1, .int (z0)), (2, .int (z1))] := hl
  refine j_iload_n C dX4_refuse_0 rfl (lv_at hl 1 rfl) ?_
  refine j_if_lt (tgt := 25) C dX4_refuse_1 (by decide) (fun c_1_ => ?_) (fun c_1_ => ?_)
  · have n_1_ := Int32.not_le.mpr c_1_
    refine j_vret C ⟨rfl, rfl, ?_⟩ dX4_refuse_25
    exact absurd c_1_ (by rw [e0]; exact nI_pos (by omega))
  · have n_1_ := Int32.not_lt.mp c_1_
    refine j_iload_n C dX4_refuse_4 rfl (lv_at hl 1 rfl) ?_
    refine j_aload_n C dX4_refuse_5 rfl (lv_at hl 0 rfl) ?_
    refine j_getR (k := 48) (k2 := 52) C (f_RX4_21_4) (xl (by decide)) (rfl) (rfl) dX4_refuse_6 ?_
    refine j_alen (k := 52) (n := 5) C (xl (by decide)) (Or.inl (rfl)) (rfl) dX4_refuse_9 ?_
    refine j_icmp_ge (tgt := 25) C dX4_refuse_10 (by decide) (fun c_2_ => ?_) (fun c_2_ => ?_)
    · have n_2_ := Int32.not_lt.mpr c_2_
      refine j_vret C ⟨rfl, rfl, ?_⟩ dX4_refuse_25
      exact absurd (e0 ▸ c_2_) (nI_ge (b := 5) ht (by omega))
    · have n_2_ := Int32.not_le.mp c_2_
      refine j_aload_n C dX4_refuse_13 rfl (lv_at hl 0 rfl) ?_
      refine j_getR (k := 48) (k2 := 52) C (f_RX4_21_4) (xl (by decide)) (rfl) (rfl) dX4_refuse_14 ?_
      refine j_iload_n C dX4_refuse_17 rfl (lv_at hl 1 rfl) ?_
      refine j_dup2 C dX4_refuse_18 rfl rfl ?_
      refine j_iald (k := 52) (n := 5) C (xl (by decide)) (rfl) (rfl) (by rw [e0]; exact vp_in_nI ht (by decide)) dX4_refuse_19 ?_
      refine j_iconst (v := 1) C dX4_refuse_20 (by decide) ?_
      refine j_iload_n C dX4_refuse_21 rfl (lv_at hl 2 rfl) ?_
      refine j_ishl C dX4_refuse_22 ?_
      refine j_ior C dX4_refuse_23 ?_
      refine j_iast (k := 52) (n := 5) C (xl (by decide)) (rfl) (rfl) (by rw [e0]; exact vp_in_nI ht (by decide)) dX4_refuse_24 (fun V1 eV1 => ?_)
      refine j_vret C ⟨rfl, rfl, ?_⟩ dX4_refuse_25
      rw [eV1, e0, e1, nI_clamp (by omega), hrf, sh1 (by omega), orI]
abbrev rm_X4_dearest : Room := { frames := 3, cells := 0, slots := 0, locals := 65 }
set_option maxHeartbeats 4000000 in
set_option maxRecDepth 100000 in
theorem k_X4_dearest (l : Launch) (ad tk : Nat → Nat) (nt : Nat) (V : Vt) (z0 : Int32) (gn : Nat) (hGn : V 48 1 = nI gn) (g4 : gn ≤ 4) (t : Nat) (e0 : z0 = nI t) (ht : t < 5) (rf : Nat) (hrf : V 52 t = nI rf) (hrf6 : rf < 16)  : Ct l yX4_dearest cX4_dearest 4 (some .int) rm_X4_dearest (xS ad tk nt) V [.ref (ad (48)), .int (z0)] (rI fun x V2 => V2 = V ∧ x = deI V t rf gn) := by
  refine Ct_of (by decide) (Nat.le_of_ble_eq_true rfl) ?_
  intro p e s m below meth c A D cy ls C hl
  have hl : lv_has ls 4 [(0, .ref (ad (48))), (1, .int (z0))] := hl
  refine j_bipush (v := (-9)) C dX4_dearest_0 (by decide) ?_
  refine j_istore_n (lv2 := [(2, .int ((-9))), (0, .ref (ad (48))), (1, .int (z0))]) C dX4_dearest_2 rfl hl (by decide) rfl (fun ls hl => ?_)
  refine j_iconst (v := 0) C dX4_dearest_3 (by decide) ?_
  refine j_istore_n (lv2 := [(3, .int (0)), (2, .int ((-9))), (0, .ref (ad (48))), (1, .int (z0))]) C dX4_dearest_4 rfl hl (by decide) rfl (fun ls hl => ?_)
  have loop : ∀ (n_9_ : Nat) (g : Nat) (b : Int32), g ≤ gn → b = deI V t rf g → gn - g < n_9_ → ∀ (ls : Array Slot), lv_has ls 4 [(0, .ref (ad (48))), (1, .int (z0)), (2, .int (b)), (3, .int (nI g))] → J p l e rm_X4_dearest s m [.ref (ad (48)), .int (z0)].toArray below meth c A D cy 0 0 (MQ below (gPost D cy A (fun o9 σ2 V2 => σ2 = xS ad tk nt ∧ (rI fun x V2 => V2 = V ∧ x = deI V t rf gn) o9 V2)) [.ref (ad (48)), .int (z0)].toArray s 0 0 A) (xS ad tk nt) V (F0 m 5 ls []) := by
    intro n_9_
    induction n_9_ with
    | zero =>
      intro g b hi hb hm
      exact absurd hm (by omega)
    | succ n_9_ ih_loop =>
      intro g b hi hb hm ls hl
      refine j_iload_n C dX4_dearest_5 rfl (lv_at hl 3 rfl) ?_
      refine j_aload_n C dX4_dearest_6 rfl (lv_at hl 0 rfl) ?_
      refine j_getI (k := 48) C (f_RX4_31_4) (xl (by decide)) (rfl) dX4_dearest_7 ?_
      refine j_icmp_ge (tgt := 51) C dX4_dearest_10 (by decide) (fun c_1_ => ?_) (fun c_1_ => ?_)
      · have n_1_ := Int32.not_lt.mpr c_1_
        obtain rfl : g = gn := by rw [hGn] at c_1_; have q := leN (by omega) (by omega) c_1_; omega
        refine j_iload_n C dX4_dearest_51 rfl (lv_at hl 2 rfl) ?_
        refine j_iret C ⟨rfl, _, rfl, ?_⟩ dX4_dearest_52
        exact ⟨rfl, hb⟩
      · have n_1_ := Int32.not_le.mp c_1_
        have hlt : g < gn := by rw [hGn] at c_1_; exact ltN (by omega) c_1_
        refine j_aload_n C dX4_dearest_13 rfl (lv_at hl 0 rfl) ?_
        refine j_iload_n C dX4_dearest_14 rfl (lv_at hl 1 rfl) ?_
        refine j_iload_n C dX4_dearest_15 rfl (lv_at hl 3 rfl) ?_
        refine j_callV (k := 48) C [.int (z0), .int (nI g)] [] (k_X4_isRefused l ad tk nt V (z0) (nI g) t g e0 rfl ht (by omega) rf hrf hrf6) v_RX4_81 (xl (by decide)) (rfl) rfl ⟨rfl, rfl, Nat.le_of_ble_eq_true rfl, Nat.le_of_ble_eq_true rfl⟩ rfl hl.1 rfl (Nat.le_of_ble_eq_true rfl) ⟨Nat.le_of_ble_eq_true rfl, Nat.le_of_ble_eq_true rfl⟩ dX4_dearest_16 (kI fun x_2_ U2 h_2_ => ?_)
        obtain ⟨eU2, h_2_⟩ := h_2_
        have eU2 := eU2.symm
        subst eU2
        refine j_if_ne (tgt := 45) C dX4_dearest_19 (by decide) (fun c_3_ => ?_) (fun c_3_ => ?_)
        · skip
          have er9 : rf.testBit g = true := Decidable.not_not.mp (mt bI_0.mpr (h_2_ ▸ c_3_))
          refine j_iinc (v := nI (g + 1)) (lv2 := [(3, .int (nI (g + 1))), (0, .ref (ad (48))), (1, .int (z0)), (2, .int (b))]) C dX4_dearest_45 hl (k0 := 3) rfl (nI_1 _) (by decide) rfl (fun ls hl => ?_)
          refine j_goto (tgt := 5) C dX4_dearest_48 (by decide) ?_
          exact ih_loop (g + 1) (b) (by omega) (by rw [deI, if_neg (fun q => by have q2 := q.1; rw [er9] at q2; cases q2)]; exact hb) (by omega) ls (lv_sub hl [1, 2, 3, 0] rfl)
        · skip
          have er9 : rf.testBit g = false := by
            have q8 := bI_0.mp (h_2_ ▸ c_3_)
            cases hq8 : rf.testBit g with
            | false => rfl
            | true => exact absurd hq8 q8
          refine j_iload_n C dX4_dearest_22 rfl (lv_at hl 2 rfl) ?_
          refine j_bipush (v := (-9)) C dX4_dearest_23 (by decide) ?_
          refine j_icmp_eq (tgt := 43) C dX4_dearest_25 (by decide) (fun c_4_ => ?_) (fun c_4_ => ?_)
          · skip
            refine j_iload_n C dX4_dearest_43 rfl (lv_at hl 3 rfl) ?_
            refine j_istore_n (lv2 := [(2, .int (nI g)), (0, .ref (ad (48))), (1, .int (z0)), (3, .int (nI g))]) C dX4_dearest_44 rfl hl (by decide) rfl (fun ls hl => ?_)
            refine j_iinc (v := nI (g + 1)) (lv2 := [(3, .int (nI (g + 1))), (2, .int (nI g)), (0, .ref (ad (48))), (1, .int (z0))]) C dX4_dearest_45 hl (k0 := 3) rfl (nI_1 _) (by decide) rfl (fun ls hl => ?_)
            refine j_goto (tgt := 5) C dX4_dearest_48 (by decide) ?_
            exact ih_loop (g + 1) (nI g) (by omega) (by rw [deI, if_pos ⟨er9, Or.inl (hb ▸ c_4_)⟩]) (by omega) ls (lv_sub hl [2, 3, 1, 0] rfl)
          · skip
            obtain ⟨q9, hq9, eq9⟩ : ∃ q, q < g ∧ b = nI q := by
              rcases deI_rng V t rf g with h | ⟨q, h_1_, h_2_⟩
              · exact absurd (hb.trans h) c_4_
              · exact ⟨q, h_1_, hb.trans h_2_⟩
            refine j_aload_n C dX4_dearest_28 rfl (lv_at hl 0 rfl) ?_
            refine j_iload_n C dX4_dearest_29 rfl (lv_at hl 1 rfl) ?_
            refine j_iload_n C dX4_dearest_30 rfl (lv_at hl 3 rfl) ?_
            refine j_callV (k := 48) C [.int (z0), .int (nI g)] [] (k_X4_nearness l ad tk nt V (z0) (nI g) t g e0 rfl ht (by omega)) v_RX4_46 (xl (by decide)) (rfl) rfl ⟨rfl, rfl, Nat.le_of_ble_eq_true rfl, Nat.le_of_ble_eq_true rfl⟩ rfl hl.1 rfl (Nat.le_of_ble_eq_true rfl) ⟨Nat.le_of_ble_eq_true rfl, Nat.le_of_ble_eq_true rfl⟩ dX4_dearest_31 (kI fun x_5_ U5 h_5_ => ?_)
            obtain ⟨eU5, h_5_⟩ := h_5_
            have eU5 := eU5.symm
            subst eU5
            refine j_aload_n C dX4_dearest_34 rfl (lv_at hl 0 rfl) ?_
            refine j_iload_n C dX4_dearest_35 rfl (lv_at hl 1 rfl) ?_
            refine j_iload_n C dX4_dearest_36 rfl (lv_at hl 2 rfl) ?_
            refine j_callV (k := 48) C [.int (z0), .int (b)] [.int (x_5_)] (k_X4_nearness l ad tk nt V (z0) (b) t q9 e0 eq9 ht (by omega)) v_RX4_46 (xl (by decide)) (rfl) rfl ⟨rfl, rfl, Nat.le_of_ble_eq_true rfl, Nat.le_of_ble_eq_true rfl⟩ rfl hl.1 rfl (Nat.le_of_ble_eq_true rfl) ⟨Nat.le_of_ble_eq_true rfl, Nat.le_of_ble_eq_true rfl⟩ dX4_dearest_37 (kI fun x_6_ U6 h_6_ => ?_)
            obtain ⟨eU6, h_6_⟩ := h_6_
            have eU6 := eU6.symm
            subst eU6
            refine j_icmp_ge (tgt := 45) C dX4_dearest_40 (by decide) (fun c_7_ => ?_) (fun c_7_ => ?_)
            · have n_7_ := Int32.not_lt.mpr c_7_
              have en9 : ¬ V 49 (t * 4 + g) < V 49 (t * 4 + (deI V t rf g).toNatClampNeg) := by rw [← hb, eq9, nI_clamp (by omega), ← h_5_, ← h_6_]; assumption
              refine j_iinc (v := nI (g + 1)) (lv2 := [(3, .int (nI (g + 1))), (0, .ref (ad (48))), (1, .int (z0)), (2, .int (b))]) C dX4_dearest_45 hl (k0 := 3) rfl (nI_1 _) (by decide) rfl (fun ls hl => ?_)
              refine j_goto (tgt := 5) C dX4_dearest_48 (by decide) ?_
              exact ih_loop (g + 1) (b) (by omega) (by rw [deI, if_neg (fun q => q.2.elim (fun q2 => c_4_ (hb.trans q2)) (fun q2 => absurd q2 en9))]; exact hb) (by omega) ls (lv_sub hl [1, 2, 3, 0] rfl)
            · have n_7_ := Int32.not_le.mp c_7_
              have en9 : V 49 (t * 4 + g) < V 49 (t * 4 + (deI V t rf g).toNatClampNeg) := by rw [← hb, eq9, nI_clamp (by omega), ← h_5_, ← h_6_]; assumption
              refine j_iload_n C dX4_dearest_43 rfl (lv_at hl 3 rfl) ?_
              refine j_istore_n (lv2 := [(2, .int (nI g)), (0, .ref (ad (48))), (1, .int (z0)), (3, .int (nI g))]) C dX4_dearest_44 rfl hl (by decide) rfl (fun ls hl => ?_)
              refine j_iinc (v := nI (g + 1)) (lv2 := [(3, .int (nI (g + 1))), (2, .int (nI g)), (0, .ref (ad (48))), (1, .int (z0))]) C dX4_dearest_45 hl (k0 := 3) rfl (nI_1 _) (by decide) rfl (fun ls hl => ?_)
              refine j_goto (tgt := 5) C dX4_dearest_48 (by decide) ?_
              exact ih_loop (g + 1) (nI g) (by omega) (by rw [deI, if_pos ⟨er9, Or.inr en9⟩]) (by omega) ls (lv_sub hl [2, 3, 1, 0] rfl)
  exact loop (gn + 1) 0 (-9) (by omega) rfl (by omega) ls (lv_sub hl [2, 3, 1, 0] rfl)
abbrev rm_X4_wouldRather : Room := { frames := 3, cells := 0, slots := 0, locals := 65 }
set_option maxHeartbeats 4000000 in
set_option maxRecDepth 100000 in
theorem k_X4_wouldRather (l : Launch) (ad tk : Nat → Nat) (nt : Nat) (V : Vt) (z0 z1 z2 : Int32) (g t rv : Nat) (e0 : z0 = nI g) (e1 : z1 = nI t) (e2 : z2 = nI rv) (hgg : g < 4) (ht : t < 5) (hrv : rv < 5)  : Ct l yX4_wouldRather cX4_wouldRather 6 (some .boolean) rm_X4_wouldRather (xS ad tk nt) V [.ref (ad (48)), .int (z0), .int (z1), .int (z2)] (rI fun x V2 => V2 = V ∧ ((raI V g t rv ∧ x = 1) ∨ (¬ raI V g t rv ∧ x = 0))) := by
  refine Ct_of (by decide) (Nat.le_of_ble_eq_true rfl) ?_
  intro p e s m below meth c A D cy ls C hl
  have hl : lv_has ls 6 [(0, .ref (ad (48))), (1, .int (z0)), (2, .int (z1)), (3, .int (z2))] := hl
  refine j_aload_n C dX4_wouldRather_0 rfl (lv_at hl 0 rfl) ?_
  refine j_iload_n C dX4_wouldRather_1 rfl (lv_at hl 2 rfl) ?_
  refine j_iload_n C dX4_wouldRather_2 rfl (lv_at hl 1 rfl) ?_
  refine j_callV (k := 48) C [.int (z1), .int (z0)] [] (k_X4_nearness l ad tk nt V (z1) (z0) t g e1 e0 ht hgg) v_RX4_46 (xl (by decide)) (rfl) rfl ⟨rfl, rfl, Nat.le_of_ble_eq_true rfl, Nat.le_of_ble_eq_true rfl⟩ rfl hl.1 rfl (Nat.le_of_ble_eq_true rfl) ⟨Nat.le_of_ble_eq_true rfl, Nat.le_of_ble_eq_true rfl⟩ dX4_wouldRather_3 (kI fun x_1_ U1 h_1_ => ?_)
  obtain ⟨eU1, h_1_⟩ := h_1_
  have eU1 := eU1.symm
  subst eU1
  refine j_istore (lv2 := [(4, .int (x_1_)), (0, .ref (ad (48))), (1, .int (z0)), (2, .int (z1)), (3, .int (z2))]) C dX4_wouldRather_6 hl (by decide) rfl (fun ls hl => ?_)
  refine j_aload_n C dX4_wouldRather_8 rfl (lv_at hl 1 rfl) ?_
  refine j_iload_n C dX4_wouldRather_9 rfl (lv_at hl 4 rfl) ?_
  refine j_iload_n C dX4_wouldRather_10 rfl (lv_at hl 2 rfl) ?_
  refine j_callV (k := 48) C [.int (z2), .int (z0)] [] (k_X4_nearness l ad tk nt V (z2) (z0) rv g e2 e0 hrv hgg) v_RX4_46 (xl (by decide)) (rfl) rfl ⟨rfl, rfl, Nat.le_of_ble_eq_true rfl, Nat.le_of_ble_eq_true rfl⟩ rfl hl.1 rfl (Nat.le_of_ble_eq_true rfl) ⟨Nat.le_of_ble_eq_true rfl, Nat.le_of_ble_eq_true rfl⟩ dX4_wouldRather_11 (kI fun x_2_ U2 h_2_ => ?_)
  obtain ⟨eU2, h_2_⟩ := h_2_
  have eU2 := eU2.symm
  subst eU2
  refine j_istore (lv2 := [(5, .int (x_2_)), (4, .int (x_1_)), (0, .ref (ad (48))), (1, .int (z0)), (2, .int (z1)), (3, .int (z2))]) C dX4_wouldRather_14 hl (by decide) rfl (fun ls hl => ?_)
  refine j_iload C dX4_wouldRather_16 (lv_at hl 1 rfl) ?_
  refine j_iload C dX4_wouldRather_18 (lv_at hl 0 rfl) ?_
  refine j_icmp_lt (tgt := 35) C dX4_wouldRather_20 (by decide) (fun c_3_ => ?_) (fun c_3_ => ?_)
  · have n_3_ := Int32.not_le.mpr c_3_
    refine j_iconst (v := 1) C dX4_wouldRather_35 (by decide) ?_
    refine j_goto (tgt := 40) C dX4_wouldRather_36 (by decide) ?_
    refine j_zret C rfl ⟨rfl, _, rfl, ?_⟩ dX4_wouldRather_40
    refine ⟨rfl, ?_⟩
    rw [h_1_, h_2_] at *
    unfold raI
    exact Or.inl ⟨Or.inl c_3_, rfl⟩
  · have n_3_ := Int32.not_lt.mp c_3_
    refine j_iload C dX4_wouldRather_23 (lv_at hl 1 rfl) ?_
    refine j_iload C dX4_wouldRather_25 (lv_at hl 0 rfl) ?_
    refine j_icmp_ne (tgt := 39) C dX4_wouldRather_27 (by decide) (fun c_4_ => ?_) (fun c_4_ => ?_)
    · skip
      refine j_iconst (v := 0) C dX4_wouldRather_39 (by decide) ?_
      refine j_zret C rfl ⟨rfl, _, rfl, ?_⟩ dX4_wouldRather_40
      refine ⟨rfl, ?_⟩
      rw [h_1_, h_2_] at *
      unfold raI
      exact Or.inr ⟨fun q => q.elim c_3_ (fun q => c_4_ q.1), rfl⟩
    · skip
      refine j_iload_n C dX4_wouldRather_30 rfl (lv_at hl 4 rfl) ?_
      refine j_iload_n C dX4_wouldRather_31 rfl (lv_at hl 5 rfl) ?_
      refine j_icmp_ge (tgt := 39) C dX4_wouldRather_32 (by decide) (fun c_5_ => ?_) (fun c_5_ => ?_)
      · have n_5_ := Int32.not_lt.mpr c_5_
        refine j_iconst (v := 0) C dX4_wouldRather_39 (by decide) ?_
        refine j_zret C rfl ⟨rfl, _, rfl, ?_⟩ dX4_wouldRather_40
        refine ⟨rfl, ?_⟩
        rw [h_1_, h_2_] at *
        unfold raI
        exact Or.inr ⟨fun q => q.elim c_3_ (fun q => absurd (nI_lt q.2 (by omega)) (by rw [← e1, ← e2]; exact Int32.not_lt.mpr c_5_)), rfl⟩
      · have n_5_ := Int32.not_le.mp c_5_
        refine j_iconst (v := 1) C dX4_wouldRather_35 (by decide) ?_
        refine j_goto (tgt := 40) C dX4_wouldRather_36 (by decide) ?_
        refine j_zret C rfl ⟨rfl, _, rfl, ?_⟩ dX4_wouldRather_40
        refine ⟨rfl, ?_⟩
        rw [h_1_, h_2_] at *
        unfold raI
        exact Or.inl ⟨Or.inr ⟨c_4_, (nI_ltI (by omega) (by omega)).mp (by rw [← e1, ← e2]; exact Int32.not_le.mp c_5_)⟩, rfl⟩
abbrev rm_X4_throwerWith : Room := { frames := 1, cells := 0, slots := 0, locals := 21 }
set_option maxHeartbeats 4000000 in
set_option maxRecDepth 100000 in
theorem k_X4_throwerWith (l : Launch) (ad tk : Nat → Nat) (nt : Nat) (V : Vt) (z : Int32) (tn : Nat) (hTn : V 48 0 = nI tn) (t5 : tn ≤ 5)  : Ct l yX4_throwerWith cX4_throwerWith 3 (some .int) rm_X4_throwerWith (xS ad tk nt) V [.ref (ad (48)), .int (z)] (rI fun x V2 => V2 = V ∧ ((∃ t, t < tn ∧ V 51 t = z ∧ x = nI t) ∨ ((∀ q, q < tn → ¬ V 51 q = z) ∧ x = -9))) := by
  refine Ct_of (by decide) (Nat.le_of_ble_eq_true rfl) ?_
  intro p e s m below meth c A D cy ls C hl
  have hl : lv_has ls 3 [(0, .ref (ad (48))), (1, .int (z))] := hl
  refine j_iconst (v := 0) C dX4_throwerWith_0 (by decide) ?_
  refine j_istore_n (lv2 := [(2, .int (0)), (0, .ref (ad (48))), (1, .int (z))]) C dX4_throwerWith_1 rfl hl (by decide) rfl (fun ls hl => ?_)
  have loop : ∀ (n_9_ : Nat) (t : Nat), t ≤ tn → (∀ q, q < t → ¬ V 51 q = z) → tn - t < n_9_ → ∀ (ls : Array Slot), lv_has ls 3 [(0, .ref (ad (48))), (1, .int (z)), (2, .int (nI t))] → J p l e rm_X4_throwerWith s m [.ref (ad (48)), .int (z)].toArray below meth c A D cy 0 0 (MQ below (gPost D cy A (fun o9 σ2 V2 => σ2 = xS ad tk nt ∧ (rI fun x V2 => V2 = V ∧ ((∃ t, t < tn ∧ V 51 t = z ∧ x = nI t) ∨ ((∀ q, q < tn → ¬ V 51 q = z) ∧ x = -9))) o9 V2)) [.ref (ad (48)), .int (z)].toArray s 0 0 A) (xS ad tk nt) V (F0 m 2 ls []) := by
    intro n_9_
    induction n_9_ with
    | zero =>
      intro t hi hq hm
      exact absurd hm (by omega)
    | succ n_9_ ih_loop =>
      intro t hi hq hm ls hl
      refine j_iload_n C dX4_throwerWith_2 rfl (lv_at hl 2 rfl) ?_
      refine j_aload_n C dX4_throwerWith_3 rfl (lv_at hl 0 rfl) ?_
      refine j_getI (k := 48) C (f_RX4_27_4) (xl (by decide)) (rfl) dX4_throwerWith_4 ?_
      refine j_icmp_ge (tgt := 27) C dX4_throwerWith_7 (by decide) (fun c_1_ => ?_) (fun c_1_ => ?_)
      · have n_1_ := Int32.not_lt.mpr c_1_
        obtain rfl : t = tn := by rw [hTn] at c_1_; have q := leN (by omega) (by omega) c_1_; omega
        refine j_bipush (v := (-9)) C dX4_throwerWith_27 (by decide) ?_
        refine j_iret C ⟨rfl, _, rfl, ?_⟩ dX4_throwerWith_29
        exact ⟨rfl, Or.inr ⟨hq, rfl⟩⟩
      · have n_1_ := Int32.not_le.mp c_1_
        have hlt : t < tn := by rw [hTn] at c_1_; exact ltN (by omega) c_1_
        refine j_aload_n C dX4_throwerWith_10 rfl (lv_at hl 0 rfl) ?_
        refine j_iload_n C dX4_throwerWith_11 rfl (lv_at hl 2 rfl) ?_
        refine j_callV (k := 48) C [.int (nI t)] [] (k_X4_girlOf l ad tk nt V (nI t) tn hTn t5) v_RX4_42 (xl (by decide)) (rfl) rfl ⟨rfl, rfl, Nat.le_of_ble_eq_true rfl, Nat.le_of_ble_eq_true rfl⟩ rfl hl.1 rfl (Nat.le_of_ble_eq_true rfl) ⟨Nat.le_of_ble_eq_true rfl, Nat.le_of_ble_eq_true rfl⟩ dX4_throwerWith_12 (kI fun x_2_ U2 h_2_ => ?_)
        obtain ⟨eU2, h_2_⟩ := h_2_
        have eU2 := eU2.symm
        subst eU2
        rw [atR_in hlt (by omega)] at h_2_
        refine j_iload_n C dX4_throwerWith_15 rfl (lv_at hl 1 rfl) ?_
        refine j_icmp_ne (tgt := 21) C dX4_throwerWith_16 (by decide) (fun c_3_ => ?_) (fun c_3_ => ?_)
        · skip
          refine j_iinc (v := nI (t + 1)) (lv2 := [(2, .int (nI (t + 1))), (0, .ref (ad (48))), (1, .int (z))]) C dX4_throwerWith_21 hl (k0 := 2) rfl (nI_1 _) (by decide) rfl (fun ls hl => ?_)
          refine j_goto (tgt := 2) C dX4_throwerWith_24 (by decide) ?_
          exact ih_loop (t + 1) (by omega) (fun q h => by rcases (show q < t ∨ q = t by omega) with h_9_ | h_9_; exact hq q h_9_; rw [h_9_]; exact fun e => c_3_ (h_2_.trans e)) (by omega) ls (lv_sub hl [1, 2, 0] rfl)
        · skip
          refine j_iload_n C dX4_throwerWith_19 rfl (lv_at hl 2 rfl) ?_
          refine j_iret C ⟨rfl, _, rfl, ?_⟩ dX4_throwerWith_20
          exact ⟨rfl, Or.inl ⟨t, hlt, h_2_.symm.trans c_3_, rfl⟩⟩
  exact loop (tn + 1) 0 (by omega) (fun q h => absurd h (by omega)) (by omega) ls (lv_sub hl [1, 2, 0] rfl)
abbrev rm_X4_firstWhoAsks : Room := { frames := 4, cells := 0, slots := 0, locals := 88 }
set_option maxHeartbeats 4000000 in
set_option maxRecDepth 100000 in
theorem k_X4_firstWhoAsks (l : Launch) (ad tk : Nat → Nat) (nt : Nat) (V : Vt) (tn : Nat) (hTn : V 48 0 = nI tn) (t5 : tn ≤ 5) (gn : Nat) (hGn : V 48 1 = nI gn) (g4 : gn ≤ 4) (rf : Nat → Nat) (hrf : ∀ t, t < tn → V 52 t = nI (rf t) ∧ rf t < 16)  : Ct l yX4_firstWhoAsks cX4_firstWhoAsks 2 (some .int) rm_X4_firstWhoAsks (xS ad tk nt) V [.ref (ad (48))] (rI fun x V2 => V2 = V ∧ ((∃ t, t < tn ∧ V 51 t = -9 ∧ ¬ deI V t (rf t) gn = -9 ∧ x = nI t) ∨ ((∀ q, q < tn → V 51 q = -9 → deI V q (rf q) gn = -9) ∧ x = -9))) := by
  refine Ct_of (by decide) (Nat.le_of_ble_eq_true rfl) ?_
  intro p e s m below meth c A D cy ls C hl
  have hl : lv_has ls 2 [(0, .ref (ad (48)))] := hl
  refine j_iconst (v := 0) C dX4_firstWhoAsks_0 (by decide) ?_
  refine j_istore_n (lv2 := [(1, .int (0)), (0, .ref (ad (48)))]) C dX4_firstWhoAsks_1 rfl hl (by decide) rfl (fun ls hl => ?_)
  have loop : ∀ (n_9_ : Nat) (t : Nat), t ≤ tn → (∀ q, q < t → V 51 q = -9 → deI V q (rf q) gn = -9) → tn - t < n_9_ → ∀ (ls : Array Slot), lv_has ls 2 [(0, .ref (ad (48))), (1, .int (nI t))] → J p l e rm_X4_firstWhoAsks s m [.ref (ad (48))].toArray below meth c A D cy 0 0 (MQ below (gPost D cy A (fun o9 σ2 V2 => σ2 = xS ad tk nt ∧ (rI fun x V2 => V2 = V ∧ ((∃ t, t < tn ∧ V 51 t = -9 ∧ ¬ deI V t (rf t) gn = -9 ∧ x = nI t) ∨ ((∀ q, q < tn → V 51 q = -9 → deI V q (rf q) gn = -9) ∧ x = -9))) o9 V2)) [.ref (ad (48))].toArray s 0 0 A) (xS ad tk nt) V (F0 m 2 ls []) := by
    intro n_9_
    induction n_9_ with
    | zero =>
      intro t hi hq hm
      exact absurd hm (by omega)
    | succ n_9_ ih_loop =>
      intro t hi hq hm ls hl
      refine j_iload_n C dX4_firstWhoAsks_2 rfl (lv_at hl 1 rfl) ?_
      refine j_aload_n C dX4_firstWhoAsks_3 rfl (lv_at hl 0 rfl) ?_
      refine j_getI (k := 48) C (f_RX4_27_4) (xl (by decide)) (rfl) dX4_firstWhoAsks_4 ?_
      refine j_icmp_ge (tgt := 38) C dX4_firstWhoAsks_7 (by decide) (fun c_1_ => ?_) (fun c_1_ => ?_)
      · have n_1_ := Int32.not_lt.mpr c_1_
        obtain rfl : t = tn := by rw [hTn] at c_1_; have q := leN (by omega) (by omega) c_1_; omega
        refine j_bipush (v := (-9)) C dX4_firstWhoAsks_38 (by decide) ?_
        refine j_iret C ⟨rfl, _, rfl, ?_⟩ dX4_firstWhoAsks_40
        exact ⟨rfl, Or.inr ⟨hq, rfl⟩⟩
      · have n_1_ := Int32.not_le.mp c_1_
        have hlt : t < tn := by rw [hTn] at c_1_; exact ltN (by omega) c_1_
        refine j_aload_n C dX4_firstWhoAsks_10 rfl (lv_at hl 0 rfl) ?_
        refine j_iload_n C dX4_firstWhoAsks_11 rfl (lv_at hl 1 rfl) ?_
        refine j_callV (k := 48) C [.int (nI t)] [] (k_X4_girlOf l ad tk nt V (nI t) tn hTn t5) v_RX4_42 (xl (by decide)) (rfl) rfl ⟨rfl, rfl, Nat.le_of_ble_eq_true rfl, Nat.le_of_ble_eq_true rfl⟩ rfl hl.1 rfl (Nat.le_of_ble_eq_true rfl) ⟨Nat.le_of_ble_eq_true rfl, Nat.le_of_ble_eq_true rfl⟩ dX4_firstWhoAsks_12 (kI fun x_2_ U2 h_2_ => ?_)
        obtain ⟨eU2, h_2_⟩ := h_2_
        have eU2 := eU2.symm
        subst eU2
        rw [atR_in hlt (by omega)] at h_2_
        refine j_bipush (v := (-9)) C dX4_firstWhoAsks_15 (by decide) ?_
        refine j_icmp_ne (tgt := 32) C dX4_firstWhoAsks_17 (by decide) (fun c_3_ => ?_) (fun c_3_ => ?_)
        · skip
          refine j_iinc (v := nI (t + 1)) (lv2 := [(1, .int (nI (t + 1))), (0, .ref (ad (48)))]) C dX4_firstWhoAsks_32 hl (k0 := 1) rfl (nI_1 _) (by decide) rfl (fun ls hl => ?_)
          refine j_goto (tgt := 2) C dX4_firstWhoAsks_35 (by decide) ?_
          exact ih_loop (t + 1) (by omega) (fun q h => by rcases (show q < t ∨ q = t by omega) with h_9_ | h_9_; exact hq q h_9_; rw [h_9_]; exact fun e => absurd (h_2_.trans e) c_3_) (by omega) ls (lv_sub hl [1, 0] rfl)
        · skip
          refine j_aload_n C dX4_firstWhoAsks_20 rfl (lv_at hl 0 rfl) ?_
          refine j_iload_n C dX4_firstWhoAsks_21 rfl (lv_at hl 1 rfl) ?_
          refine j_callV (k := 48) C [.int (nI t)] [] (k_X4_dearest l ad tk nt V (nI t) gn hGn g4 t rfl (by omega) (rf t) (hrf t hlt).1 (hrf t hlt).2) v_RX4_75 (xl (by decide)) (rfl) rfl ⟨rfl, rfl, Nat.le_of_ble_eq_true rfl, Nat.le_of_ble_eq_true rfl⟩ rfl hl.1 rfl (Nat.le_of_ble_eq_true rfl) ⟨Nat.le_of_ble_eq_true rfl, Nat.le_of_ble_eq_true rfl⟩ dX4_firstWhoAsks_22 (kI fun x_4_ U4 h_4_ => ?_)
          obtain ⟨eU4, h_4_⟩ := h_4_
          have eU4 := eU4.symm
          subst eU4
          refine j_bipush (v := (-9)) C dX4_firstWhoAsks_25 (by decide) ?_
          refine j_icmp_eq (tgt := 32) C dX4_firstWhoAsks_27 (by decide) (fun c_5_ => ?_) (fun c_5_ => ?_)
          · skip
            refine j_iinc (v := nI (t + 1)) (lv2 := [(1, .int (nI (t + 1))), (0, .ref (ad (48)))]) C dX4_firstWhoAsks_32 hl (k0 := 1) rfl (nI_1 _) (by decide) rfl (fun ls hl => ?_)
            refine j_goto (tgt := 2) C dX4_firstWhoAsks_35 (by decide) ?_
            exact ih_loop (t + 1) (by omega) (fun q h => by rcases (show q < t ∨ q = t by omega) with h_9_ | h_9_; exact hq q h_9_; rw [h_9_]; exact fun _ => h_4_.symm.trans c_5_) (by omega) ls (lv_sub hl [1, 0] rfl)
          · skip
            refine j_iload_n C dX4_firstWhoAsks_30 rfl (lv_at hl 1 rfl) ?_
            refine j_iret C ⟨rfl, _, rfl, ?_⟩ dX4_firstWhoAsks_31
            exact ⟨rfl, Or.inl ⟨t, hlt, h_2_.symm.trans c_3_, fun e => c_5_ (h_4_.trans e), rfl⟩⟩
  exact loop (tn + 1) 0 (by omega) (fun q h => absurd h (by omega)) (by omega) ls (lv_sub hl [1, 0] rfl)
/-- one asks: what becomes of the pairing -/
def asP (V : Vt) (tn : Nat) (rf : Nat → Nat) (t g : Nat) (V2 : Vt) : Prop :=
  ((∀ q, q < tn → ¬ V 51 q = nI g) ∧ V2 = up2 V 51 t (nI g)) ∨
  (∃ rv, rv < tn ∧ V 51 rv = nI g ∧ raI V g t rv ∧ V2 = up2 (up2 (up2 V 51 rv (-9)) 52 rv (nI (rf rv ||| 2 ^ g))) 51 t (nI g)) ∨
  (∃ rv, rv < tn ∧ V 51 rv = nI g ∧ ¬ raI V g t rv ∧ V2 = up2 V 52 t (nI (rf t ||| 2 ^ g)))
abbrev rm_X4_ask : Room := { frames := 4, cells := 0, slots := 0, locals := 90 }
set_option maxHeartbeats 4000000 in
set_option maxRecDepth 100000 in
theorem k_X4_ask (l : Launch) (ad tk : Nat → Nat) (nt : Nat) (V : Vt) (z0 z1 : Int32) (tn : Nat) (hTn : V 48 0 = nI tn) (t5 : tn ≤ 5) (rf : Nat → Nat) (hrf : ∀ t, t < tn → V 52 t = nI (rf t) ∧ rf t < 16) (t g : Nat) (e0 : z0 = nI t) (e1 : z1 = nI g) (ht : t < tn) (hgg : g < 4)  : Ct l yX4_ask cX4_ask 4 none rm_X4_ask (xS ad tk nt) V [.ref (ad (48)), .int (z0), .int (z1)] (rU fun V2 => asP V tn rf t g V2) := by
  refine Ct_of (by decide) (Nat.le_of_ble_eq_true rfl) ?_
  intro p e s m below meth c A D cy ls C hl
  have hl : lv_has ls 4 [(0, .ref (ad (48))), (1, .int (z0)), (2, .int (z1))] := hl
  refine j_aload_n C dX4_ask_0 rfl (lv_at hl 0 rfl) ?_
  refine j_iload_n C dX4_ask_1 rfl (lv_at hl 2 rfl) ?_
  refine j_callV (k := 48) C [.int (z1)] [] (k_X4_throwerWith l ad tk nt V (z1) tn hTn t5) v_RX4_84 (xl (by decide)) (rfl) rfl ⟨rfl, rfl, Nat.le_of_ble_eq_true rfl, Nat.le_of_ble_eq_true rfl⟩ rfl hl.1 rfl (Nat.le_of_ble_eq_true rfl) ⟨Nat.le_of_ble_eq_true rfl, Nat.le_of_ble_eq_true rfl⟩ dX4_ask_2 (kI fun x_1_ U1 h_1_ => ?_)
  obtain ⟨eU1, h_1_⟩ := h_1_
  have eU1 := eU1.symm
  subst eU1
  rcases h_1_ with ⟨tr1, ht1, hv1, ex1⟩ | ⟨ho1, ex1⟩
  · subst ex1
    refine j_istore_n (lv2 := [(3, .int (nI tr1)), (0, .ref (ad (48))), (1, .int (z0)), (2, .int (z1))]) C dX4_ask_5 rfl hl (by decide) rfl (fun ls hl => ?_)
    refine j_iload_n C dX4_ask_6 rfl (lv_at hl 0 rfl) ?_
    refine j_bipush (v := (-9)) C dX4_ask_7 (by decide) ?_
    refine j_icmp_ne (tgt := 21) C dX4_ask_9 (by decide) (fun c_2_ => ?_) (fun c_2_ => ?_)
    · skip
      refine j_aload_n C dX4_ask_21 rfl (lv_at hl 1 rfl) ?_
      refine j_iload_n C dX4_ask_22 rfl (lv_at hl 3 rfl) ?_
      refine j_iload_n C dX4_ask_23 rfl (lv_at hl 2 rfl) ?_
      refine j_iload_n C dX4_ask_24 rfl (lv_at hl 0 rfl) ?_
      refine j_callV (k := 48) C [.int (z1), .int (z0), .int (nI tr1)] [] (k_X4_wouldRather l ad tk nt V (z1) (z0) (nI tr1) g t tr1 e1 e0 rfl hgg (by omega) (by omega)) v_RX4_87 (xl (by decide)) (rfl) rfl ⟨rfl, rfl, Nat.le_of_ble_eq_true rfl, Nat.le_of_ble_eq_true rfl⟩ rfl hl.1 rfl (Nat.le_of_ble_eq_true rfl) ⟨Nat.le_of_ble_eq_true rfl, Nat.le_of_ble_eq_true rfl⟩ dX4_ask_25 (kI fun x_3_ U3 h_3_ => ?_)
      obtain ⟨eU3, h_3_⟩ := h_3_
      have eU3 := eU3.symm
      subst eU3
      rcases h_3_ with ⟨hr3, ex3⟩ | ⟨hr3, ex3⟩
      · subst ex3
        refine j_if_eq (tgt := 53) C dX4_ask_28 (by decide) (fun c_4_ => ?_) (fun c_4_ => ?_)
        · skip
          exact absurd c_4_ (by decide)
        · skip
          refine j_aload_n C dX4_ask_31 rfl (lv_at hl 1 rfl) ?_
          refine j_iload_n C dX4_ask_32 rfl (lv_at hl 0 rfl) ?_
          refine j_bipush (v := (-9)) C dX4_ask_33 (by decide) ?_
          refine j_callV (k := 48) C [.int (nI tr1), .int ((-9))] [] (k_X4_giveGirl l ad tk nt V (nI tr1) ((-9)) tr1 rfl (by omega)) v_RX4_61 (xl (by decide)) (rfl) rfl ⟨rfl, rfl, Nat.le_of_ble_eq_true rfl, Nat.le_of_ble_eq_true rfl⟩ rfl hl.1 rfl (Nat.le_of_ble_eq_true rfl) ⟨Nat.le_of_ble_eq_true rfl, Nat.le_of_ble_eq_true rfl⟩ dX4_ask_35 (kU fun U5 h_5_ => ?_)
          refine j_aload_n C dX4_ask_38 rfl (lv_at hl 1 rfl) ?_
          refine j_iload_n C dX4_ask_39 rfl (lv_at hl 0 rfl) ?_
          refine j_iload_n C dX4_ask_40 rfl (lv_at hl 3 rfl) ?_
          refine j_callV (k := 48) C [.int (nI tr1), .int (z1)] [] (k_X4_refuse l ad tk nt U5 (nI tr1) (z1) tr1 g rfl e1 (by omega) hgg (rf tr1) (by rw [h_5_, up2_k _ _ (by decide)]; exact (hrf tr1 ht1).1) (hrf tr1 ht1).2) v_RX4_90 (xl (by decide)) (rfl) rfl ⟨rfl, rfl, Nat.le_of_ble_eq_true rfl, Nat.le_of_ble_eq_true rfl⟩ rfl hl.1 rfl (Nat.le_of_ble_eq_true rfl) ⟨Nat.le_of_ble_eq_true rfl, Nat.le_of_ble_eq_true rfl⟩ dX4_ask_41 (kU fun U6 h_6_ => ?_)
          refine j_aload_n C dX4_ask_44 rfl (lv_at hl 1 rfl) ?_
          refine j_iload_n C dX4_ask_45 rfl (lv_at hl 2 rfl) ?_
          refine j_iload_n C dX4_ask_46 rfl (lv_at hl 3 rfl) ?_
          refine j_callV (k := 48) C [.int (z0), .int (z1)] [] (k_X4_giveGirl l ad tk nt U6 (z0) (z1) t e0 (by omega)) v_RX4_61 (xl (by decide)) (rfl) rfl ⟨rfl, rfl, Nat.le_of_ble_eq_true rfl, Nat.le_of_ble_eq_true rfl⟩ rfl hl.1 rfl (Nat.le_of_ble_eq_true rfl) ⟨Nat.le_of_ble_eq_true rfl, Nat.le_of_ble_eq_true rfl⟩ dX4_ask_47 (kU fun U7 h_7_ => ?_)
          refine j_goto (tgt := 59) C dX4_ask_50 (by decide) ?_
          refine j_vret C ⟨rfl, rfl, ?_⟩ dX4_ask_59
          rw [e1] at hv1 h_7_
          refine Or.inr (Or.inl ⟨tr1, ht1, hv1, hr3, ?_⟩)
          rw [h_7_, h_6_, h_5_]
      · subst ex3
        refine j_if_eq (tgt := 53) C dX4_ask_28 (by decide) (fun c_8_ => ?_) (fun c_8_ => ?_)
        · skip
          refine j_aload_n C dX4_ask_53 rfl (lv_at hl 1 rfl) ?_
          refine j_iload_n C dX4_ask_54 rfl (lv_at hl 2 rfl) ?_
          refine j_iload_n C dX4_ask_55 rfl (lv_at hl 3 rfl) ?_
          refine j_callV (k := 48) C [.int (z0), .int (z1)] [] (k_X4_refuse l ad tk nt V (z0) (z1) t g e0 e1 (by omega) hgg (rf t) (hrf t ht).1 (hrf t ht).2) v_RX4_90 (xl (by decide)) (rfl) rfl ⟨rfl, rfl, Nat.le_of_ble_eq_true rfl, Nat.le_of_ble_eq_true rfl⟩ rfl hl.1 rfl (Nat.le_of_ble_eq_true rfl) ⟨Nat.le_of_ble_eq_true rfl, Nat.le_of_ble_eq_true rfl⟩ dX4_ask_56 (kU fun U9 h_9_ => ?_)
          refine j_vret C ⟨rfl, rfl, ?_⟩ dX4_ask_59
          rw [e1] at hv1
          exact Or.inr (Or.inr ⟨tr1, ht1, hv1, hr3, h_9_⟩)
        · skip
          exact absurd rfl c_8_
    · skip
      exact absurd c_2_ (m9_nI (by omega))
  · subst ex1
    refine j_istore_n (lv2 := [(3, .int ((-9))), (0, .ref (ad (48))), (1, .int (z0)), (2, .int (z1))]) C dX4_ask_5 rfl hl (by decide) rfl (fun ls hl => ?_)
    refine j_iload_n C dX4_ask_6 rfl (lv_at hl 0 rfl) ?_
    refine j_bipush (v := (-9)) C dX4_ask_7 (by decide) ?_
    refine j_icmp_ne (tgt := 21) C dX4_ask_9 (by decide) (fun c_10_ => ?_) (fun c_10_ => ?_)
    · skip
      exact absurd rfl c_10_
    · skip
      refine j_aload_n C dX4_ask_12 rfl (lv_at hl 1 rfl) ?_
      refine j_iload_n C dX4_ask_13 rfl (lv_at hl 2 rfl) ?_
      refine j_iload_n C dX4_ask_14 rfl (lv_at hl 3 rfl) ?_
      refine j_callV (k := 48) C [.int (z0), .int (z1)] [] (k_X4_giveGirl l ad tk nt V (z0) (z1) t e0 (by omega)) v_RX4_61 (xl (by decide)) (rfl) rfl ⟨rfl, rfl, Nat.le_of_ble_eq_true rfl, Nat.le_of_ble_eq_true rfl⟩ rfl hl.1 rfl (Nat.le_of_ble_eq_true rfl) ⟨Nat.le_of_ble_eq_true rfl, Nat.le_of_ble_eq_true rfl⟩ dX4_ask_15 (kU fun U11 h_11_ => ?_)
      refine j_goto (tgt := 59) C dX4_ask_18 (by decide) ?_
      refine j_vret C ⟨rfl, rfl, ?_⟩ dX4_ask_59
      rw [e1] at ho1 h_11_
      exact Or.inl ⟨ho1, h_11_⟩
