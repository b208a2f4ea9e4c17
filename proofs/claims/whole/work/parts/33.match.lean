/-- the pairing U is ready, and its sets of whom each wins are ws -/
def pW (tk : Nat → Nat) (V : Vt) (nt ng : Nat) (rr : Nat → Nat) (U : Vt) (ws : Nat → Nat) : Prop := pP tk V nt ng rr nt U ∧ ∀ t, t < nt → U 50 t = nI (ws t) ∧ ws t < 16 ∧ ∀ g, g < ng → ((ws t).testBit g = true ↔ hdP V rr t g (rch (kdI (tk t)) (V (56 + t) 1)))
theorem pW_of {tk : Nat → Nat} {V U : Vt} {nt ng : Nat} {rr : Nat → Nat} (h_4_ : ng ≤ 4) (h : pP tk V nt ng rr nt U) : ∃ ws, pW tk V nt ng rr U ws := by
  have hw : ∀ t, ∃ w, t < nt → U 50 t = nI w ∧ w < 16 ∧ ∀ g, g < ng → (w.testBit g = true ↔ hdP V rr t g (rch (kdI (tk t)) (V (56 + t) 1))) := by
    intro t
    by_cases ht : t < nt
    · obtain ⟨w, h_1_, h_2_, h_3_⟩ := setP_nat (fun g => hdP V rr t g (rch (kdI (tk t)) (V (56 + t) 1))) ng h_4_
      exact ⟨w, fun _ => ⟨((h.2.2.2.1 t ht).1).trans h_2_, Nat.lt_of_lt_of_le h_1_ (p16 h_4_).1, h_3_⟩⟩
    · exact ⟨0, fun q => absurd q ht⟩
  exact ⟨fun t => Classical.choose (hw t), h, fun t ht => Classical.choose_spec (hw t) ht⟩
theorem giL_rng {V : Vt} {tn gn : Nat} {ws : Nat → Nat} : ∀ t q, q < t → (giL V tn gn ws t).1 51 q = -9 ∨ ∃ g, g < gn ∧ (giL V tn gn ws t).1 51 q = nI g
  | t + 1, q, h => by
    rw [giL]
    dsimp only
    by_cases e : q = t
    · subst e
      rw [up2_s]
      exact fbI_rng ..
    · rw [up2_i _ _ e]
      exact giL_rng t q (by omega)
/-- the pool behind a match -/
def maV (U : Vt) (nt ng : Nat) (ws : Nat → Nat) : Vt := (giL (ouL U nt ng ws nt) nt ng ws nt).1
def maX (U2 : Vt) (nt : Nat) (z : Int32) : Int32 := if z = -2 then nI (cntI (fun t => ¬ U2 51 t = -9) nt) else if z = -1 then smI (fun t => if U2 51 t = -9 then 0 else U2 49 (t * 4 + (U2 51 t).toNatClampNeg)) nt else atR (U2 51) nt z
abbrev rm_X11_match : Room := { frames := 6, cells := 0, slots := 0, locals := 137 }
set_option maxHeartbeats 4000000 in
set_option maxRecDepth 100000 in
theorem k_X11_match (l : Launch) (ad tk : Nat → Nat) (nt : Nat) (V : Vt) (ng : Nat) (rr : Nat → Nat) (c_0_ : Nat) (hX : XI tk nt V ng rr c_0_) (z : Int32) : Ct l yX11_match cX11_match 2 (some .int) rm_X11_match (xS ad tk nt) V [.ref (ad (55)), .int (z)] (rI fun x V2 => (V2 = V ∧ ((¬ (-2 ≤ z ∧ z ≤ 4) ∧ x = -2) ∨ ((-2 ≤ z ∧ z ≤ 4) ∧ nt = 0 ∧ x = -3))) ∨ ((-2 ≤ z ∧ z ≤ 4) ∧ ¬ nt = 0 ∧ ∃ (U : Vt) (ws : Nat → Nat), pW tk V nt ng rr U ws ∧ V2 = maV U nt ng ws ∧ x = maX V2 nt z)) := by
  refine Ct_of (by decide) (Nat.le_of_ble_eq_true rfl) ?_
  intro p e s m below meth c A D cy ls C hl
  have hl : lv_has ls 2 [(0, .ref (ad (55))), (1, .int (z))] := hl
  have ng4 := hX.1.2.1
  have nt5 := hX.2.2.1
  refine j_iload_n C dX11_match_0 rfl (lv_at hl 1 rfl) ?_
  refine j_bipush (v := (-2)) C dX11_match_1 (by decide) ?_
  refine j_iconst (v := 4) C dX11_match_3 (by decide) ?_
  refine j_callS C [.int (z), .int ((-2)), .int (4)] [] (k_X11_isWithin l (xS ad tk nt) V (z) ((-2)) (4)) v_RX11_143 ⟨rfl, rfl, Nat.le_of_ble_eq_true rfl, Nat.le_of_ble_eq_true rfl⟩ rfl hl.1 rfl (Nat.le_of_ble_eq_true rfl) ⟨Nat.le_of_ble_eq_true rfl, Nat.le_of_ble_eq_true rfl⟩ dX11_match_4 (kI fun x_1_ U1 h_1_ => ?_)
  obtain ⟨eU1, h_1_⟩ := h_1_
  have eU1 := eU1.symm
  subst eU1
  refine j_if_ne (tgt := 13) C dX11_match_7 (by decide) (fun c_2_ => ?_) (fun c_2_ => ?_)
  · skip
    have b2 := Decidable.not_not.mp (mt bI_0.mpr (h_1_ ▸ c_2_))
    refine j_aload_n C dX11_match_13 rfl (lv_at hl 0 rfl) ?_
    refine j_getI (k := 55) C (f_RX11_96_11) (xl (by decide)) (rfl) dX11_match_14 ?_
    refine j_if_ne (tgt := 23) C dX11_match_17 (by decide) (fun c_3_ => ?_) (fun c_3_ => ?_)
    · skip
      have nz9 : ¬ nt = 0 := fun q => c_3_ (by rw [hX.2.1, q]; rfl)
      refine j_aload_n C dX11_match_23 rfl (lv_at hl 0 rfl) ?_
      refine j_callV (k := 55) C [] [] (k_X11_preparePairing l ad tk nt V ng rr c_0_ hX) v_RX11_182 (xl (by decide)) (rfl) rfl ⟨rfl, rfl, Nat.le_of_ble_eq_true rfl, Nat.le_of_ble_eq_true rfl⟩ rfl hl.1 rfl (Nat.le_of_ble_eq_true rfl) ⟨Nat.le_of_ble_eq_true rfl, Nat.le_of_ble_eq_true rfl⟩ dX11_match_24 (kU fun U4 h_4_ => ?_)
      obtain ⟨ws9, hW9⟩ := pW_of ng4 h_4_
      obtain ⟨U9, eU9⟩ : ∃ U9, U9 = U4 := ⟨_, rfl⟩
      rw [← eU9] at hW9
      refine j_aload_n C dX11_match_27 rfl (lv_at hl 0 rfl) ?_
      refine j_getR (k := 55) (k2 := 48) C (f_RX11_61_11) (xl (by decide)) (rfl) (rfl) dX11_match_28 ?_
      refine j_callV (k := 48) C [] [] (k_X4_matchUp l ad tk nt U4  nt (eU9 ▸ hW9.1.2.1) nt5 ng (eU9 ▸ hW9.1.2.2.1) ng4 ws9 (fun t ht => ⟨eU9 ▸ (hW9.2 t ht).1, (hW9.2 t ht).2.1⟩)) v_RX11_185 (xl (by decide)) (rfl) rfl ⟨rfl, rfl, Nat.le_of_ble_eq_true rfl, Nat.le_of_ble_eq_true rfl⟩ rfl hl.1 rfl (Nat.le_of_ble_eq_true rfl) ⟨Nat.le_of_ble_eq_true rfl, Nat.le_of_ble_eq_true rfl⟩ dX11_match_31 (kU fun U5 h_5_ => ?_)
      have hM9 : U5 = maV U9 nt ng ws9 := by rw [eU9]; exact h_5_
      refine j_iload_n C dX11_match_34 rfl (lv_at hl 1 rfl) ?_
      refine j_bipush (v := (-2)) C dX11_match_35 (by decide) ?_
      refine j_icmp_ne (tgt := 48) C dX11_match_37 (by decide) (fun c_6_ => ?_) (fun c_6_ => ?_)
      · skip
        refine j_iload_n C dX11_match_48 rfl (lv_at hl 1 rfl) ?_
        refine j_iconst (v := (-1)) C dX11_match_49 (by decide) ?_
        refine j_icmp_ne (tgt := 63) C dX11_match_50 (by decide) (fun c_7_ => ?_) (fun c_7_ => ?_)
        · skip
          refine j_aload_n C dX11_match_63 rfl (lv_at hl 0 rfl) ?_
          refine j_getR (k := 55) (k2 := 48) C (f_RX11_61_11) (xl (by decide)) (rfl) (rfl) dX11_match_64 ?_
          refine j_iload_n C dX11_match_67 rfl (lv_at hl 1 rfl) ?_
          refine j_callV (k := 48) C [.int (z)] [] (k_X4_girlOf l ad tk nt U5 (z) nt (by rw [hM9]; unfold maV; rw [giL_o (by decide), ouL_o (by decide)]; exact hW9.1.2.1) nt5) v_RX11_194 (xl (by decide)) (rfl) rfl ⟨rfl, rfl, Nat.le_of_ble_eq_true rfl, Nat.le_of_ble_eq_true rfl⟩ rfl hl.1 rfl (Nat.le_of_ble_eq_true rfl) ⟨Nat.le_of_ble_eq_true rfl, Nat.le_of_ble_eq_true rfl⟩ dX11_match_68 (kI fun x_8_ U8 h_8_ => ?_)
          obtain ⟨eU8, h_8_⟩ := h_8_
          have eU8 := eU8.symm
          subst eU8
          refine j_iret C ⟨rfl, _, rfl, ?_⟩ dX11_match_71
          refine Or.inr ⟨b2, nz9, U9, ws9, hW9, hM9, ?_⟩
          unfold maX
          rw [if_neg c_6_, if_neg c_7_]
          exact h_8_
        · skip
          refine j_aload_n C dX11_match_53 rfl (lv_at hl 0 rfl) ?_
          refine j_getR (k := 55) (k2 := 48) C (f_RX11_61_11) (xl (by decide)) (rfl) (rfl) dX11_match_54 ?_
          refine j_callV (k := 48) C [] [] (k_X4_nearnessTogether l ad tk nt U5  nt (by rw [hM9]; unfold maV; rw [giL_o (by decide), ouL_o (by decide)]; exact hW9.1.2.1) nt5 (fun t ht => by rw [hM9]; rcases giL_rng (V := ouL U9 nt ng ws9 nt) nt t ht with q | ⟨q1, q2, q3⟩; exact Or.inl q; exact Or.inr ⟨q1, by omega, q3⟩)) v_RX11_191 (xl (by decide)) (rfl) rfl ⟨rfl, rfl, Nat.le_of_ble_eq_true rfl, Nat.le_of_ble_eq_true rfl⟩ rfl hl.1 rfl (Nat.le_of_ble_eq_true rfl) ⟨Nat.le_of_ble_eq_true rfl, Nat.le_of_ble_eq_true rfl⟩ dX11_match_57 (kI fun x_9_ U9 h_9_ => ?_)
          obtain ⟨eU9, h_9_⟩ := h_9_
          have eU9 := eU9.symm
          subst eU9
          refine j_goto (tgt := 71) C dX11_match_60 (by decide) ?_
          refine j_iret C ⟨rfl, _, rfl, ?_⟩ dX11_match_71
          refine Or.inr ⟨b2, nz9, U9, ws9, hW9, hM9, ?_⟩
          unfold maX
          rw [if_neg c_6_, if_pos c_7_]
          exact h_9_
      · skip
        refine j_aload_n C dX11_match_40 rfl (lv_at hl 0 rfl) ?_
        refine j_getR (k := 55) (k2 := 48) C (f_RX11_61_11) (xl (by decide)) (rfl) (rfl) dX11_match_41 ?_
        refine j_callV (k := 48) C [] [] (k_X4_pairs l ad tk nt U5  nt (by rw [hM9]; unfold maV; rw [giL_o (by decide), ouL_o (by decide)]; exact hW9.1.2.1) nt5) v_RX11_188 (xl (by decide)) (rfl) rfl ⟨rfl, rfl, Nat.le_of_ble_eq_true rfl, Nat.le_of_ble_eq_true rfl⟩ rfl hl.1 rfl (Nat.le_of_ble_eq_true rfl) ⟨Nat.le_of_ble_eq_true rfl, Nat.le_of_ble_eq_true rfl⟩ dX11_match_44 (kI fun x_10_ U10 h_10_ => ?_)
        obtain ⟨eU10, h_10_⟩ := h_10_
        have eU10 := eU10.symm
        subst eU10
        refine j_iret C ⟨rfl, _, rfl, ?_⟩ dX11_match_47
        refine Or.inr ⟨b2, nz9, U9, ws9, hW9, hM9, ?_⟩
        unfold maX
        rw [if_pos c_6_]
        exact h_10_
    · skip
      refine j_bipush (v := (-3)) C dX11_match_20 (by decide) ?_
      refine j_iret C ⟨rfl, _, rfl, ?_⟩ dX11_match_22
      exact Or.inl ⟨rfl, Or.inr ⟨b2, nI_inj (by omega) (show 0 < 2 ^ 31 by decide) (hX.2.1.symm.trans c_3_), rfl⟩⟩
  · skip
    have b2 := bI_0.mp (h_1_ ▸ c_2_)
    refine j_bipush (v := (-2)) C dX11_match_10 (by decide) ?_
    refine j_iret C ⟨rfl, _, rfl, ?_⟩ dX11_match_12
    exact Or.inl ⟨rfl, Or.inl ⟨b2, rfl⟩⟩
