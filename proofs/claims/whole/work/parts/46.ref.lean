theorem bsM_ex {f : Nat → Int32} {g r : Nat} {x : Int32} (hx : x = bsM f g r) (h : ¬ x = -9) (hr : r < 100) (hg : g < 100) : ∃ p, p < r ∧ hldI f r = nI p ∧ x = nI (8 * g + p) := by
  have h_1_ : ¬ hldI f r = -9 := fun q => h (by rw [hx]; exact (bsM_0 f g r hr hg).mpr q)
  rcases hldI_rng f r with e | ⟨q, hq, e⟩
  · exact absurd e h_1_
  · refine ⟨q, hq, e, ?_⟩
    rw [hx]
    unfold bsM
    rw [if_neg h_1_, e, nI_clamp (by omega)]
/-- what always holds of the reference -/
def MI (V : Vt) (ng : Nat) (rr : Nat → Nat) (nt c_0_ : Nat) : Prop := V 0 6 = nI ng ∧ ng ≤ 4 ∧ V 0 7 = nI nt ∧ nt ≤ 5 ∧ (∀ g, g < ng → V 8 g = nI (rr g) ∧ rr g ≤ 8) ∧ V 0 34 = nI c_0_ ∧ c_0_ ≤ 8 ∧ (∀ r, r < c_0_ → (∃ t, t < nt ∧ V 21 r = nI t) ∧ ∃ g, g < ng ∧ V 22 r = nI g) ∧ ∀ k, k < 4 → ∃ n, n ≤ 60 ∧ V 2 k = nI n
abbrev rm_X12_bestRing : Room := { frames := 0, cells := 0, slots := 0, locals := 0 }
set_option maxHeartbeats 4000000 in
set_option maxRecDepth 100000 in
theorem k_X12_bestRing (l : Launch) (ad : Nat → Nat) (V : Vt) (z0 : Int32) (g : Nat) (e0 : z0 = nI g) (hg : g < 4) (r : Nat) (hr : V 8 g = nI r) (r8 : r ≤ 8)  : Ct l yX12_bestRing cX12_bestRing 5 (some .int) rm_X12_bestRing (mS ad) V [.ref (ad (0)), .int (z0)] (rI fun x V2 => V2 = V ∧ x = bsM (mM V g) g r) := by
  subst e0
  refine Ct_of (by decide) (Nat.le_of_ble_eq_true rfl) ?_
  intro p e s m below meth c A D cy ls C hl
  have hl : lv_has ls 5 [(0, .ref (ad (0))), (1, .int (nI g))] := hl
  refine j_bipush (v := (-9)) C dX12_bestRing_0 (by decide) ?_
  refine j_istore_n (lv2 := [(2, .int ((-9))), (0, .ref (ad (0))), (1, .int (nI g))]) C dX12_bestRing_2 rfl hl (by decide) rfl (fun ls hl => ?_)
  refine j_bipush (v := 8) C dX12_bestRing_3 (by decide) ?_
  refine j_iload_n C dX12_bestRing_5 rfl (lv_at hl 2 rfl) ?_
  refine j_imul C dX12_bestRing_6 ?_
  refine j_istore_n (lv2 := [(3, .int (8 * (nI g))), (2, .int ((-9))), (0, .ref (ad (0))), (1, .int (nI g))]) C dX12_bestRing_7 rfl hl (by decide) rfl (fun ls hl => ?_)
  have loop : ∀ (n_9_ : Nat) (i : Nat) (b : Int32), i ≤ r → b = bsM (mM V g) g i → r - i < n_9_ → ∀ (ls : Array Slot), lv_has ls 5 [(0, .ref (ad (0))), (1, .int (nI g)), (2, .int (b)), (3, .int (nI (8 * g + i)))] → J p l e rm_X12_bestRing s m [.ref (ad (0)), .int (nI g)].toArray below meth c A D cy 0 0 (MQ below (gPost D cy A (fun o9 σ2 V2 => σ2 = mS ad ∧ (rI fun x V2 => V2 = V ∧ x = bsM (mM V g) g r) o9 V2)) [.ref (ad (0)), .int (nI g)].toArray s 0 0 A) (mS ad) V (F0 m 8 ls []) := by
    intro n_9_
    induction n_9_ with
    | zero =>
      intro i b hi hb hm
      exact absurd hm (by omega)
    | succ n_9_ ih_loop =>
      intro i b hi hb hm ls hl
      refine j_iload_n C dX12_bestRing_8 rfl (lv_at hl 3 rfl) ?_
      refine j_bipush (v := 8) C dX12_bestRing_9 (by decide) ?_
      refine j_iload_n C dX12_bestRing_11 rfl (lv_at hl 1 rfl) ?_
      refine j_imul C dX12_bestRing_12 ?_
      refine j_aload_n C dX12_bestRing_13 rfl (lv_at hl 0 rfl) ?_
      refine j_getR (k := 0) (k2 := 8) C (f_RX12_31_12) (ml (by decide)) (rfl) (rfl) dX12_bestRing_14 ?_
      refine j_iload_n C dX12_bestRing_17 rfl (lv_at hl 1 rfl) ?_
      refine j_ialdE (k := 8) (n := 4) (t := g) C (ml (by decide)) (rfl) (rfl) (rfl) (by omega) (by decide) dX12_bestRing_18 ?_
      refine j_iadd C dX12_bestRing_19 ?_
      refine j_icmp_ge (tgt := 77) C dX12_bestRing_20 (by decide) (fun c_1_ => ?_) (fun c_1_ => ?_)
      · have n_1_ := Int32.not_lt.mpr c_1_
        have q1 := cLe (nA (nM (show (8 : Int32) = nI 8 from rfl) (rfl)) (hr)) (rfl) (by omega) (by omega) c_1_
        refine j_iload_n C dX12_bestRing_77 rfl (lv_at hl 2 rfl) ?_
        refine j_iret C ⟨rfl, _, rfl, ?_⟩ dX12_bestRing_78
        obtain rfl : i = r := by omega
        exact ⟨rfl, hb⟩
      · have n_1_ := Int32.not_le.mp c_1_
        have q1 := cNe (nA (nM (show (8 : Int32) = nI 8 from rfl) (rfl)) (hr)) (rfl) (by omega) (by omega) c_1_
        refine j_iload_n C dX12_bestRing_23 rfl (lv_at hl 2 rfl) ?_
        refine j_bipush (v := (-9)) C dX12_bestRing_24 (by decide) ?_
        refine j_icmp_eq (tgt := 53) C dX12_bestRing_26 (by decide) (fun c_2_ => ?_) (fun c_2_ => ?_)
        · skip
          refine j_iconst (v := 1) C dX12_bestRing_53 (by decide) ?_
          refine j_goto (tgt := 58) C dX12_bestRing_54 (by decide) ?_
          refine j_istore (lv2 := [(4, .int (1)), (0, .ref (ad (0))), (1, .int (nI g)), (2, .int (b)), (3, .int (nI (8 * g + i)))]) C dX12_bestRing_58 hl (by decide) rfl (fun ls hl => ?_)
          refine j_iload C dX12_bestRing_60 (lv_at hl 0 rfl) ?_
          refine j_if_eq (tgt := 69) C dX12_bestRing_62 (by decide) (fun c_3_ => ?_) (fun c_3_ => ?_)
          · exact absurd c_3_ (by decide)
          · skip
            refine j_iload_n C dX12_bestRing_65 rfl (lv_at hl 4 rfl) ?_
            refine j_goto (tgt := 70) C dX12_bestRing_66 (by decide) ?_
            refine j_istore_n (lv2 := [(2, .int (nI (8 * g + i))), (4, .int (1)), (0, .ref (ad (0))), (1, .int (nI g)), (3, .int (nI (8 * g + i)))]) C dX12_bestRing_70 rfl hl (by decide) rfl (fun ls hl => ?_)
            refine j_iinc (v := nI ((8 * g + i) + 1)) (lv2 := [(3, .int (nI ((8 * g + i) + 1))), (2, .int (nI (8 * g + i))), (4, .int (1)), (0, .ref (ad (0))), (1, .int (nI g))]) C dX12_bestRing_71 hl (k0 := 4) rfl (nI_1 _) (by decide) rfl (fun ls hl => ?_)
            refine j_goto (tgt := 8) C dX12_bestRing_74 (by decide) ?_
            exact ih_loop (i + 1) (nI (8 * g + i)) (by omega) (by exact (bsM_y (f := mM V g) (g := g) (Or.inl ((bsM_0 _ _ _ (by omega) (by omega)).mp (hb ▸ c_2_))) (by omega)).symm) (by omega) ls (lv_sub hl [3, 4, 1, 0] rfl)
        · skip
          obtain ⟨p9, hp9, ep9, eb9⟩ := bsM_ex hb c_2_ (by omega) (by omega)
          refine j_aload_n C dX12_bestRing_29 rfl (lv_at hl 0 rfl) ?_
          refine j_getR (k := 0) (k2 := 10) C (f_RX12_37_12) (ml (by decide)) (rfl) (rfl) dX12_bestRing_30 ?_
          refine j_iload_n C dX12_bestRing_33 rfl (lv_at hl 3 rfl) ?_
          refine j_ialdE (k := 10) (n := 32) (t := 8 * g + i) C (ml (by decide)) (rfl) (rfl) (rfl) (by omega) (by decide) dX12_bestRing_34 ?_
          refine j_aload_n C dX12_bestRing_35 rfl (lv_at hl 0 rfl) ?_
          refine j_getR (k := 0) (k2 := 10) C (f_RX12_37_12) (ml (by decide)) (rfl) (rfl) dX12_bestRing_36 ?_
          refine j_iload_n C dX12_bestRing_39 rfl (lv_at hl 2 rfl) ?_
          refine j_ialdE (k := 10) (n := 32) (t := 8 * g + p9) C (ml (by decide)) (rfl) (rfl) (eb9) (by omega) (by decide) dX12_bestRing_40 ?_
          refine j_icmp_lt (tgt := 53) C dX12_bestRing_41 (by decide) (fun c_4_ => ?_) (fun c_4_ => ?_)
          · have n_4_ := Int32.not_le.mpr c_4_
            refine j_iconst (v := 1) C dX12_bestRing_53 (by decide) ?_
            refine j_goto (tgt := 58) C dX12_bestRing_54 (by decide) ?_
            refine j_istore (lv2 := [(4, .int (1)), (0, .ref (ad (0))), (1, .int (nI g)), (2, .int (b)), (3, .int (nI (8 * g + i)))]) C dX12_bestRing_58 hl (by decide) rfl (fun ls hl => ?_)
            refine j_iload C dX12_bestRing_60 (lv_at hl 0 rfl) ?_
            refine j_if_eq (tgt := 69) C dX12_bestRing_62 (by decide) (fun c_5_ => ?_) (fun c_5_ => ?_)
            · exact absurd c_5_ (by decide)
            · skip
              refine j_iload_n C dX12_bestRing_65 rfl (lv_at hl 4 rfl) ?_
              refine j_goto (tgt := 70) C dX12_bestRing_66 (by decide) ?_
              refine j_istore_n (lv2 := [(2, .int (nI (8 * g + i))), (4, .int (1)), (0, .ref (ad (0))), (1, .int (nI g)), (3, .int (nI (8 * g + i)))]) C dX12_bestRing_70 rfl hl (by decide) rfl (fun ls hl => ?_)
              refine j_iinc (v := nI ((8 * g + i) + 1)) (lv2 := [(3, .int (nI ((8 * g + i) + 1))), (2, .int (nI (8 * g + i))), (4, .int (1)), (0, .ref (ad (0))), (1, .int (nI g))]) C dX12_bestRing_71 hl (k0 := 4) rfl (nI_1 _) (by decide) rfl (fun ls hl => ?_)
              refine j_goto (tgt := 8) C dX12_bestRing_74 (by decide) ?_
              exact ih_loop (i + 1) (nI (8 * g + i)) (by omega) (by exact (bsM_y (f := mM V g) (g := g) (Or.inr (Or.inr (by rw [ep9, nI_clamp (by omega)]; exact c_4_))) (by omega)).symm) (by omega) ls (lv_sub hl [3, 4, 1, 0] rfl)
          · have n_4_ := Int32.not_lt.mp c_4_
            refine j_aload_n C dX12_bestRing_44 rfl (lv_at hl 0 rfl) ?_
            refine j_getR (k := 0) (k2 := 10) C (f_RX12_37_12) (ml (by decide)) (rfl) (rfl) dX12_bestRing_45 ?_
            refine j_iload_n C dX12_bestRing_48 rfl (lv_at hl 3 rfl) ?_
            refine j_ialdE (k := 10) (n := 32) (t := 8 * g + i) C (ml (by decide)) (rfl) (rfl) (rfl) (by omega) (by decide) dX12_bestRing_49 ?_
            refine j_if_ne (tgt := 57) C dX12_bestRing_50 (by decide) (fun c_6_ => ?_) (fun c_6_ => ?_)
            · skip
              refine j_iconst (v := 0) C dX12_bestRing_57 (by decide) ?_
              refine j_istore (lv2 := [(4, .int (0)), (0, .ref (ad (0))), (1, .int (nI g)), (2, .int (b)), (3, .int (nI (8 * g + i)))]) C dX12_bestRing_58 hl (by decide) rfl (fun ls hl => ?_)
              refine j_iload C dX12_bestRing_60 (lv_at hl 0 rfl) ?_
              refine j_if_eq (tgt := 69) C dX12_bestRing_62 (by decide) (fun c_7_ => ?_) (fun c_7_ => ?_)
              · skip
                refine j_iload_n C dX12_bestRing_69 rfl (lv_at hl 3 rfl) ?_
                refine j_istore_n (lv2 := [(2, .int (b)), (4, .int (0)), (0, .ref (ad (0))), (1, .int (nI g)), (3, .int (nI (8 * g + i)))]) C dX12_bestRing_70 rfl hl (by decide) rfl (fun ls hl => ?_)
                refine j_iinc (v := nI ((8 * g + i) + 1)) (lv2 := [(3, .int (nI ((8 * g + i) + 1))), (2, .int (b)), (4, .int (0)), (0, .ref (ad (0))), (1, .int (nI g))]) C dX12_bestRing_71 hl (k0 := 4) rfl (nI_1 _) (by decide) rfl (fun ls hl => ?_)
                refine j_goto (tgt := 8) C dX12_bestRing_74 (by decide) ?_
                exact ih_loop (i + 1) (b) (by omega) (by rw [bsM_n (fun q => q.elim (fun q => absurd (ep9.symm.trans q) (m9_nI (by omega))) (fun q => q.elim c_6_ (fun q => c_4_ (by rw [ep9, nI_clamp (by omega)] at q; exact q))))]; exact hb) (by omega) ls (lv_sub hl [3, 4, 1, 0] rfl)
              · exact absurd rfl c_7_
            · skip
              refine j_iconst (v := 1) C dX12_bestRing_53 (by decide) ?_
              refine j_goto (tgt := 58) C dX12_bestRing_54 (by decide) ?_
              refine j_istore (lv2 := [(4, .int (1)), (0, .ref (ad (0))), (1, .int (nI g)), (2, .int (b)), (3, .int (nI (8 * g + i)))]) C dX12_bestRing_58 hl (by decide) rfl (fun ls hl => ?_)
              refine j_iload C dX12_bestRing_60 (lv_at hl 0 rfl) ?_
              refine j_if_eq (tgt := 69) C dX12_bestRing_62 (by decide) (fun c_8_ => ?_) (fun c_8_ => ?_)
              · exact absurd c_8_ (by decide)
              · skip
                refine j_iload_n C dX12_bestRing_65 rfl (lv_at hl 4 rfl) ?_
                refine j_goto (tgt := 70) C dX12_bestRing_66 (by decide) ?_
                refine j_istore_n (lv2 := [(2, .int (nI (8 * g + i))), (4, .int (1)), (0, .ref (ad (0))), (1, .int (nI g)), (3, .int (nI (8 * g + i)))]) C dX12_bestRing_70 rfl hl (by decide) rfl (fun ls hl => ?_)
                refine j_iinc (v := nI ((8 * g + i) + 1)) (lv2 := [(3, .int (nI ((8 * g + i) + 1))), (2, .int (nI (8 * g + i))), (4, .int (1)), (0, .ref (ad (0))), (1, .int (nI g))]) C dX12_bestRing_71 hl (k0 := 4) rfl (nI_1 _) (by decide) rfl (fun ls hl => ?_)
                refine j_goto (tgt := 8) C dX12_bestRing_74 (by decide) ?_
                exact ih_loop (i + 1) (nI (8 * g + i)) (by omega) (by exact (bsM_y (f := mM V g) (g := g) (Or.inr (Or.inl c_6_)) (by omega)).symm) (by omega) ls (lv_sub hl [3, 4, 1, 0] rfl)
  exact loop (r + 1) 0 (-9) (by omega) rfl (by omega) ls (lv_sub hl [2, 3, 1, 0] (by rw [show (8 * (nI g)) = nI (8 * g) from nM (show (8 : Int32) = nI 8 from rfl) (rfl)]; rfl))
abbrev rm_X12_hasHer : Room := { frames := 1, cells := 0, slots := 0, locals := 24 }
set_option maxHeartbeats 4000000 in
set_option maxRecDepth 100000 in
theorem k_X12_hasHer (l : Launch) (ad : Nat → Nat) (V : Vt) (z0 : Int32) (g : Nat) (e0 : z0 = nI g) (hg : g < 4) (r : Nat) (hr : V 8 g = nI r) (r8 : r ≤ 8)  : Ct l yX12_hasHer cX12_hasHer 3 (some .int) rm_X12_hasHer (mS ad) V [.ref (ad (0)), .int (z0)] (rI fun x V2 => V2 = V ∧ x = holI (mW V g) (mM V g) r) := by
  subst e0
  refine Ct_of (by decide) (Nat.le_of_ble_eq_true rfl) ?_
  intro p e s m below meth c A D cy ls C hl
  have hl : lv_has ls 3 [(0, .ref (ad (0))), (1, .int (nI g))] := hl
  refine j_aload_n C dX12_hasHer_0 rfl (lv_at hl 0 rfl) ?_
  refine j_iload_n C dX12_hasHer_1 rfl (lv_at hl 1 rfl) ?_
  refine j_callV (k := 0) C [.int (nI g)] [] (k_X12_bestRing l ad V (nI g) g (rfl) (by omega) r hr r8) v_RX12_158 (ml (by decide)) (rfl) rfl ⟨rfl, rfl, Nat.le_of_ble_eq_true rfl, Nat.le_of_ble_eq_true rfl⟩ rfl hl.1 rfl (Nat.le_of_ble_eq_true rfl) ⟨Nat.le_of_ble_eq_true rfl, Nat.le_of_ble_eq_true rfl⟩ dX12_hasHer_2 (kI fun x_1_ U1 h_1_ => ?_)
  obtain ⟨eU1, h_1_⟩ := h_1_
  have eU1 := eU1.symm
  subst eU1
  refine j_istore_n (lv2 := [(2, .int (x_1_)), (0, .ref (ad (0))), (1, .int (nI g))]) C dX12_hasHer_5 rfl hl (by decide) rfl (fun ls hl => ?_)
  refine j_iload_n C dX12_hasHer_6 rfl (lv_at hl 0 rfl) ?_
  refine j_bipush (v := (-9)) C dX12_hasHer_7 (by decide) ?_
  refine j_icmp_ne (tgt := 17) C dX12_hasHer_9 (by decide) (fun c_2_ => ?_) (fun c_2_ => ?_)
  · skip
    obtain ⟨p9, hp9, ep9, eb9⟩ := bsM_ex h_1_ c_2_ (by omega) (by omega)
    refine j_aload_n C dX12_hasHer_17 rfl (lv_at hl 1 rfl) ?_
    refine j_getR (k := 0) (k2 := 9) C (f_RX12_34_12) (ml (by decide)) (rfl) (rfl) dX12_hasHer_18 ?_
    refine j_iload_n C dX12_hasHer_21 rfl (lv_at hl 0 rfl) ?_
    refine j_ialdE (k := 9) (n := 32) (t := 8 * g + p9) C (ml (by decide)) (rfl) (rfl) (eb9) (by omega) (by decide) dX12_hasHer_22 ?_
    refine j_iret C ⟨rfl, _, rfl, ?_⟩ dX12_hasHer_23
    refine ⟨rfl, ?_⟩
    unfold holI
    rw [if_neg (by rw [ep9]; exact m9_nI (by omega)), ep9, nI_clamp (by omega)]
    rfl
  · skip
    refine j_bipush (v := (-9)) C dX12_hasHer_12 (by decide) ?_
    refine j_goto (tgt := 23) C dX12_hasHer_14 (by decide) ?_
    refine j_iret C ⟨rfl, _, rfl, ?_⟩ dX12_hasHer_23
    refine ⟨rfl, ?_⟩
    unfold holI
    rw [if_pos ((bsM_0 _ _ _ (by omega) (by omega)).mp (h_1_ ▸ c_2_))]
abbrev rm_X12_ringers : Room := { frames := 0, cells := 0, slots := 0, locals := 0 }
set_option maxHeartbeats 4000000 in
set_option maxRecDepth 100000 in
theorem k_X12_ringers (l : Launch) (ad : Nat → Nat) (V : Vt) (z0 : Int32) (g : Nat) (e0 : z0 = nI g) (hg : g < 4) (r : Nat) (hr : V 8 g = nI r) (r8 : r ≤ 8)  : Ct l yX12_ringers cX12_ringers 4 (some .int) rm_X12_ringers (mS ad) V [.ref (ad (0)), .int (z0)] (rI fun x V2 => V2 = V ∧ x = nI (cntI (fun j => mM V g j = 0) r)) := by
  subst e0
  refine Ct_of (by decide) (Nat.le_of_ble_eq_true rfl) ?_
  intro p e s m below meth c A D cy ls C hl
  have hl : lv_has ls 4 [(0, .ref (ad (0))), (1, .int (nI g))] := hl
  refine j_iconst (v := 0) C dX12_ringers_0 (by decide) ?_
  refine j_istore_n (lv2 := [(2, .int (0)), (0, .ref (ad (0))), (1, .int (nI g))]) C dX12_ringers_1 rfl hl (by decide) rfl (fun ls hl => ?_)
  refine j_bipush (v := 8) C dX12_ringers_2 (by decide) ?_
  refine j_iload_n C dX12_ringers_4 rfl (lv_at hl 2 rfl) ?_
  refine j_imul C dX12_ringers_5 ?_
  refine j_istore_n (lv2 := [(3, .int (8 * (nI g))), (2, .int (0)), (0, .ref (ad (0))), (1, .int (nI g))]) C dX12_ringers_6 rfl hl (by decide) rfl (fun ls hl => ?_)
  have loop : ∀ (n_9_ : Nat) (i : Nat) (b : Int32), i ≤ r → b = nI (cntI (fun j => mM V g j = 0) i) → r - i < n_9_ → ∀ (ls : Array Slot), lv_has ls 4 [(0, .ref (ad (0))), (1, .int (nI g)), (2, .int (b)), (3, .int (nI (8 * g + i)))] → J p l e rm_X12_ringers s m [.ref (ad (0)), .int (nI g)].toArray below meth c A D cy 0 0 (MQ below (gPost D cy A (fun o9 σ2 V2 => σ2 = mS ad ∧ (rI fun x V2 => V2 = V ∧ x = nI (cntI (fun j => mM V g j = 0) r)) o9 V2)) [.ref (ad (0)), .int (nI g)].toArray s 0 0 A) (mS ad) V (F0 m 7 ls []) := by
    intro n_9_
    induction n_9_ with
    | zero =>
      intro i b hi hb hm
      exact absurd hm (by omega)
    | succ n_9_ ih_loop =>
      intro i b hi hb hm ls hl
      refine j_iload_n C dX12_ringers_7 rfl (lv_at hl 3 rfl) ?_
      refine j_bipush (v := 8) C dX12_ringers_8 (by decide) ?_
      refine j_iload_n C dX12_ringers_10 rfl (lv_at hl 1 rfl) ?_
      refine j_imul C dX12_ringers_11 ?_
      refine j_aload_n C dX12_ringers_12 rfl (lv_at hl 0 rfl) ?_
      refine j_getR (k := 0) (k2 := 8) C (f_RX12_31_12) (ml (by decide)) (rfl) (rfl) dX12_ringers_13 ?_
      refine j_iload_n C dX12_ringers_16 rfl (lv_at hl 1 rfl) ?_
      refine j_ialdE (k := 8) (n := 4) (t := g) C (ml (by decide)) (rfl) (rfl) (rfl) (by omega) (by decide) dX12_ringers_17 ?_
      refine j_iadd C dX12_ringers_18 ?_
      refine j_icmp_ge (tgt := 45) C dX12_ringers_19 (by decide) (fun c_1_ => ?_) (fun c_1_ => ?_)
      · have n_1_ := Int32.not_lt.mpr c_1_
        have q1 := cLe (nA (nM (show (8 : Int32) = nI 8 from rfl) (rfl)) (hr)) (rfl) (by omega) (by omega) c_1_
        refine j_iload_n C dX12_ringers_45 rfl (lv_at hl 2 rfl) ?_
        refine j_iret C ⟨rfl, _, rfl, ?_⟩ dX12_ringers_46
        obtain rfl : i = r := by omega
        exact ⟨rfl, hb⟩
      · have n_1_ := Int32.not_le.mp c_1_
        have q1 := cNe (nA (nM (show (8 : Int32) = nI 8 from rfl) (rfl)) (hr)) (rfl) (by omega) (by omega) c_1_
        refine j_iload_n C dX12_ringers_22 rfl (lv_at hl 2 rfl) ?_
        refine j_aload_n C dX12_ringers_23 rfl (lv_at hl 0 rfl) ?_
        refine j_getR (k := 0) (k2 := 10) C (f_RX12_37_12) (ml (by decide)) (rfl) (rfl) dX12_ringers_24 ?_
        refine j_iload_n C dX12_ringers_27 rfl (lv_at hl 3 rfl) ?_
        refine j_ialdE (k := 10) (n := 32) (t := 8 * g + i) C (ml (by decide)) (rfl) (rfl) (rfl) (by omega) (by decide) dX12_ringers_28 ?_
        refine j_if_ne (tgt := 36) C dX12_ringers_29 (by decide) (fun c_2_ => ?_) (fun c_2_ => ?_)
        · skip
          refine j_iconst (v := 0) C dX12_ringers_36 (by decide) ?_
          refine j_iadd C dX12_ringers_37 ?_
          refine j_istore_n (lv2 := [(2, .int (b + 0)), (0, .ref (ad (0))), (1, .int (nI g)), (3, .int (nI (8 * g + i)))]) C dX12_ringers_38 rfl hl (by decide) rfl (fun ls hl => ?_)
          refine j_iinc (v := nI ((8 * g + i) + 1)) (lv2 := [(3, .int (nI ((8 * g + i) + 1))), (2, .int (b + 0)), (0, .ref (ad (0))), (1, .int (nI g))]) C dX12_ringers_39 hl (k0 := 3) rfl (nI_1 _) (by decide) rfl (fun ls hl => ?_)
          refine j_goto (tgt := 7) C dX12_ringers_42 (by decide) ?_
          exact ih_loop (i + 1) (b + 0) (by omega) (by rw [cntI, if_neg (show ¬ mM V g i = 0 from c_2_), hb]; exact Int32.add_zero _) (by omega) ls (lv_sub hl [2, 3, 1, 0] rfl)
        · skip
          refine j_iconst (v := 1) C dX12_ringers_32 (by decide) ?_
          refine j_goto (tgt := 37) C dX12_ringers_33 (by decide) ?_
          refine j_iadd C dX12_ringers_37 ?_
          refine j_istore_n (lv2 := [(2, .int (b + 1)), (0, .ref (ad (0))), (1, .int (nI g)), (3, .int (nI (8 * g + i)))]) C dX12_ringers_38 rfl hl (by decide) rfl (fun ls hl => ?_)
          refine j_iinc (v := nI ((8 * g + i) + 1)) (lv2 := [(3, .int (nI ((8 * g + i) + 1))), (2, .int (b + 1)), (0, .ref (ad (0))), (1, .int (nI g))]) C dX12_ringers_39 hl (k0 := 3) rfl (nI_1 _) (by decide) rfl (fun ls hl => ?_)
          refine j_goto (tgt := 7) C dX12_ringers_42 (by decide) ?_
          exact ih_loop (i + 1) (b + 1) (by omega) (by rw [cntI, if_pos (show mM V g i = 0 from c_2_), hb]; exact nI_1 _) (by omega) ls (lv_sub hl [2, 3, 1, 0] rfl)
  exact loop (r + 1) 0 0 (by omega) rfl (by omega) ls (lv_sub hl [2, 3, 1, 0] (by rw [show (8 * (nI g)) = nI (8 * g) from nM (show (8 : Int32) = nI 8 from rfl) (rfl)]; rfl))
abbrev rm_X12_ofGirl : Room := { frames := 2, cells := 0, slots := 0, locals := 46 }
set_option maxHeartbeats 4000000 in
set_option maxRecDepth 100000 in
theorem k_X12_ofGirl (l : Launch) (ad : Nat → Nat) (V : Vt) (z0 z1 : Int32) (ng : Nat) (rr : Nat → Nat) (nt c_0_ : Nat) (hM : MI V ng rr nt c_0_)  : Ct l yX12_ofGirl cX12_ofGirl 3 (some .int) rm_X12_ofGirl (mS ad) V [.ref (ad (0)), .int (z0), .int (z1)] (rI fun x V2 => V2 = V ∧ x = if ¬ z0 < 0 ∧ z0 < nI ng then (if z1 = 0 then V 4 z0.toNatClampNeg else if z1 = 1 then V 5 z0.toNatClampNeg else if z1 = 2 then V 8 z0.toNatClampNeg else if z1 = 3 then holI (mW V z0.toNatClampNeg) (mM V z0.toNatClampNeg) (rr z0.toNatClampNeg) else if z1 = 4 then holI (mM V z0.toNatClampNeg) (mM V z0.toNatClampNeg) (rr z0.toNatClampNeg) else if z1 = 5 then nI (cntI (fun j => mM V z0.toNatClampNeg j = 0) (rr z0.toNatClampNeg)) else -2) else -1) := by
  refine Ct_of (by decide) (Nat.le_of_ble_eq_true rfl) ?_
  intro p e s m below meth c A D cy ls C hl
  have hl : lv_has ls 3 [(0, .ref (ad (0))), (1, .int (z0)), (2, .int (z1))] := hl
  have ng4 := hM.2.1
  have nt5 := hM.2.2.2.1
  refine j_aload_n C dX12_ofGirl_0 rfl (lv_at hl 0 rfl) ?_
  refine j_iload_n C dX12_ofGirl_1 rfl (lv_at hl 1 rfl) ?_
  refine j_callV (k := 0) C [.int (z0)] [] (k_X12_isGirl l ad V (z0)  ng hM.1 (by omega)) v_RX12_161 (ml (by decide)) (rfl) rfl ⟨rfl, rfl, Nat.le_of_ble_eq_true rfl, Nat.le_of_ble_eq_true rfl⟩ rfl hl.1 rfl (Nat.le_of_ble_eq_true rfl) ⟨Nat.le_of_ble_eq_true rfl, Nat.le_of_ble_eq_true rfl⟩ dX12_ofGirl_2 (kI fun x_1_ U1 h_1_ => ?_)
  obtain ⟨eU1, h_1_⟩ := h_1_
  have eU1 := eU1.symm
  subst eU1
  rcases h_1_ with ⟨j_1_, hj1, ej1, ex1⟩ | ⟨ho1, ex1⟩
  · subst ex1
    refine j_if_ne (tgt := 10) C dX12_ofGirl_5 (by decide) (fun c_2_ => ?_) (fun c_2_ => ?_)
    · skip
      refine j_iload_n C dX12_ofGirl_10 rfl (lv_at hl 2 rfl) ?_
      rcases sw_in (z1) 6 (by decide) with ⟨js3, hjs3, s_3_⟩ | s_3_
      · rcases (show js3 = 0 ∨ js3 = 1 ∨ js3 = 2 ∨ js3 = 3 ∨ js3 = 4 ∨ js3 = 5 by omega) with rfl | rfl | rfl | rfl | rfl | rfl
        · refine j_tableIn (off := 37) (tgt := 48) C dX12_ofGirl_11 (by rw [s_3_]; decide) (by rw [s_3_]; decide) (by rw [s_3_]; rfl) (by decide) ?_
          refine j_aload_n C dX12_ofGirl_48 rfl (lv_at hl 0 rfl) ?_
          refine j_getR (k := 0) (k2 := 4) C (f_RX12_19_12) (ml (by decide)) (rfl) (rfl) dX12_ofGirl_49 ?_
          refine j_iload_n C dX12_ofGirl_52 rfl (lv_at hl 1 rfl) ?_
          refine j_ialdE (k := 4) (n := 4) (t := j_1_) C (ml (by decide)) (rfl) (rfl) (ej1) (by omega) (by decide) dX12_ofGirl_53 ?_
          refine j_iret C ⟨rfl, _, rfl, ?_⟩ dX12_ofGirl_54
          obtain ⟨hin1, hcl1⟩ := inz ej1 hj1 (by omega)
          refine ⟨rfl, ?_⟩
          rw [if_pos hin1, hcl1]
          rw [if_pos (show z1 = 0 from s_3_)]
        · refine j_tableIn (off := 44) (tgt := 55) C dX12_ofGirl_11 (by rw [s_3_]; decide) (by rw [s_3_]; decide) (by rw [s_3_]; rfl) (by decide) ?_
          refine j_aload_n C dX12_ofGirl_55 rfl (lv_at hl 0 rfl) ?_
          refine j_getR (k := 0) (k2 := 5) C (f_RX12_22_12) (ml (by decide)) (rfl) (rfl) dX12_ofGirl_56 ?_
          refine j_iload_n C dX12_ofGirl_59 rfl (lv_at hl 1 rfl) ?_
          refine j_ialdE (k := 5) (n := 4) (t := j_1_) C (ml (by decide)) (rfl) (rfl) (ej1) (by omega) (by decide) dX12_ofGirl_60 ?_
          refine j_iret C ⟨rfl, _, rfl, ?_⟩ dX12_ofGirl_61
          obtain ⟨hin1, hcl1⟩ := inz ej1 hj1 (by omega)
          refine ⟨rfl, ?_⟩
          rw [if_pos hin1, hcl1]
          rw [if_neg (fun q => by rw [q] at s_3_; revert s_3_; decide)]
          rw [if_pos (show z1 = 1 from s_3_)]
        · refine j_tableIn (off := 51) (tgt := 62) C dX12_ofGirl_11 (by rw [s_3_]; decide) (by rw [s_3_]; decide) (by rw [s_3_]; rfl) (by decide) ?_
          refine j_aload_n C dX12_ofGirl_62 rfl (lv_at hl 0 rfl) ?_
          refine j_getR (k := 0) (k2 := 8) C (f_RX12_31_12) (ml (by decide)) (rfl) (rfl) dX12_ofGirl_63 ?_
          refine j_iload_n C dX12_ofGirl_66 rfl (lv_at hl 1 rfl) ?_
          refine j_ialdE (k := 8) (n := 4) (t := j_1_) C (ml (by decide)) (rfl) (rfl) (ej1) (by omega) (by decide) dX12_ofGirl_67 ?_
          refine j_iret C ⟨rfl, _, rfl, ?_⟩ dX12_ofGirl_68
          obtain ⟨hin1, hcl1⟩ := inz ej1 hj1 (by omega)
          refine ⟨rfl, ?_⟩
          rw [if_pos hin1, hcl1]
          rw [if_neg (fun q => by rw [q] at s_3_; revert s_3_; decide)]
          rw [if_neg (fun q => by rw [q] at s_3_; revert s_3_; decide)]
          rw [if_pos (show z1 = 2 from s_3_)]
        · refine j_tableIn (off := 58) (tgt := 69) C dX12_ofGirl_11 (by rw [s_3_]; decide) (by rw [s_3_]; decide) (by rw [s_3_]; rfl) (by decide) ?_
          refine j_aload_n C dX12_ofGirl_69 rfl (lv_at hl 0 rfl) ?_
          refine j_iload_n C dX12_ofGirl_70 rfl (lv_at hl 1 rfl) ?_
          refine j_callV (k := 0) C [.int (z0)] [] (k_X12_hasHer l ad V (z0) j_1_ (ej1) (by omega) (rr j_1_) (hM.2.2.2.2.1 _ hj1).1 (hM.2.2.2.2.1 _ hj1).2) v_RX12_164 (ml (by decide)) (rfl) rfl ⟨rfl, rfl, Nat.le_of_ble_eq_true rfl, Nat.le_of_ble_eq_true rfl⟩ rfl hl.1 rfl (Nat.le_of_ble_eq_true rfl) ⟨Nat.le_of_ble_eq_true rfl, Nat.le_of_ble_eq_true rfl⟩ dX12_ofGirl_71 (kI fun x_4_ U4 h_4_ => ?_)
          obtain ⟨eU4, h_4_⟩ := h_4_
          have eU4 := eU4.symm
          subst eU4
          refine j_iret C ⟨rfl, _, rfl, ?_⟩ dX12_ofGirl_74
          obtain ⟨hin1, hcl1⟩ := inz ej1 hj1 (by omega)
          refine ⟨rfl, ?_⟩
          rw [if_pos hin1, hcl1]
          rw [if_neg (fun q => by rw [q] at s_3_; revert s_3_; decide)]
          rw [if_neg (fun q => by rw [q] at s_3_; revert s_3_; decide)]
          rw [if_neg (fun q => by rw [q] at s_3_; revert s_3_; decide)]
          rw [if_pos (show z1 = 3 from s_3_)]
          exact h_4_
        · refine j_tableIn (off := 64) (tgt := 75) C dX12_ofGirl_11 (by rw [s_3_]; decide) (by rw [s_3_]; decide) (by rw [s_3_]; rfl) (by decide) ?_
          refine j_aload_n C dX12_ofGirl_75 rfl (lv_at hl 0 rfl) ?_
          refine j_iload_n C dX12_ofGirl_76 rfl (lv_at hl 1 rfl) ?_
          refine j_callV (k := 0) C [.int (z0)] [] (k_X12_bestRing l ad V (z0) j_1_ (ej1) (by omega) (rr j_1_) (hM.2.2.2.2.1 _ hj1).1 (hM.2.2.2.2.1 _ hj1).2) v_RX12_158 (ml (by decide)) (rfl) rfl ⟨rfl, rfl, Nat.le_of_ble_eq_true rfl, Nat.le_of_ble_eq_true rfl⟩ rfl hl.1 rfl (Nat.le_of_ble_eq_true rfl) ⟨Nat.le_of_ble_eq_true rfl, Nat.le_of_ble_eq_true rfl⟩ dX12_ofGirl_77 (kI fun x_5_ U5 h_5_ => ?_)
          obtain ⟨eU5, h_5_⟩ := h_5_
          have eU5 := eU5.symm
          subst eU5
          refine j_bipush (v := (-9)) C dX12_ofGirl_80 (by decide) ?_
          refine j_icmp_ne (tgt := 90) C dX12_ofGirl_82 (by decide) (fun c_6_ => ?_) (fun c_6_ => ?_)
          · skip
            have hr8 := (hM.2.2.2.2.1 j_1_ hj1).2
            obtain ⟨p9, hp9, ep9, eb9⟩ := bsM_ex h_5_ c_6_ (by omega) (by omega)
            refine j_aload_n C dX12_ofGirl_90 rfl (lv_at hl 0 rfl) ?_
            refine j_getR (k := 0) (k2 := 10) C (f_RX12_37_12) (ml (by decide)) (rfl) (rfl) dX12_ofGirl_91 ?_
            refine j_aload_n C dX12_ofGirl_94 rfl (lv_at hl 0 rfl) ?_
            refine j_iload_n C dX12_ofGirl_95 rfl (lv_at hl 1 rfl) ?_
            refine j_callV (k := 0) C [.int (z0)] [.ref (ad (10))] (k_X12_bestRing l ad V (z0) j_1_ (ej1) (by omega) (rr j_1_) (hM.2.2.2.2.1 _ hj1).1 (hM.2.2.2.2.1 _ hj1).2) v_RX12_158 (ml (by decide)) (rfl) rfl ⟨rfl, rfl, Nat.le_of_ble_eq_true rfl, Nat.le_of_ble_eq_true rfl⟩ rfl hl.1 rfl (Nat.le_of_ble_eq_true rfl) ⟨Nat.le_of_ble_eq_true rfl, Nat.le_of_ble_eq_true rfl⟩ dX12_ofGirl_96 (kI fun x_7_ U7 h_7_ => ?_)
            obtain ⟨eU7, h_7_⟩ := h_7_
            have eU7 := eU7.symm
            subst eU7
            skip
            refine j_ialdE (k := 10) (n := 32) (t := 8 * j_1_ + p9) C (ml (by decide)) (rfl) (rfl) (h_7_.trans (h_5_.symm.trans eb9)) (by omega) (by decide) dX12_ofGirl_99 ?_
            refine j_iret C ⟨rfl, _, rfl, ?_⟩ dX12_ofGirl_100
            obtain ⟨hin1, hcl1⟩ := inz ej1 hj1 (by omega)
            refine ⟨rfl, ?_⟩
            rw [if_pos hin1, hcl1]
            rw [if_neg (fun q => by rw [q] at s_3_; revert s_3_; decide)]
            rw [if_neg (fun q => by rw [q] at s_3_; revert s_3_; decide)]
            rw [if_neg (fun q => by rw [q] at s_3_; revert s_3_; decide)]
            rw [if_neg (fun q => by rw [q] at s_3_; revert s_3_; decide)]
            rw [if_pos (show z1 = 4 from s_3_)]
            unfold holI
            rw [if_neg (by rw [ep9]; exact m9_nI (by omega)), ep9, nI_clamp (by omega)]
            rfl
          · skip
            have hr8 := (hM.2.2.2.2.1 j_1_ hj1).2
            refine j_bipush (v := (-9)) C dX12_ofGirl_85 (by decide) ?_
            refine j_goto (tgt := 100) C dX12_ofGirl_87 (by decide) ?_
            refine j_iret C ⟨rfl, _, rfl, ?_⟩ dX12_ofGirl_100
            obtain ⟨hin1, hcl1⟩ := inz ej1 hj1 (by omega)
            refine ⟨rfl, ?_⟩
            rw [if_pos hin1, hcl1]
            rw [if_neg (fun q => by rw [q] at s_3_; revert s_3_; decide)]
            rw [if_neg (fun q => by rw [q] at s_3_; revert s_3_; decide)]
            rw [if_neg (fun q => by rw [q] at s_3_; revert s_3_; decide)]
            rw [if_neg (fun q => by rw [q] at s_3_; revert s_3_; decide)]
            rw [if_pos (show z1 = 4 from s_3_)]
            unfold holI
            rw [if_pos ((bsM_0 _ _ _ (by omega) (by omega)).mp (h_5_ ▸ c_6_))]
        · refine j_tableIn (off := 90) (tgt := 101) C dX12_ofGirl_11 (by rw [s_3_]; decide) (by rw [s_3_]; decide) (by rw [s_3_]; rfl) (by decide) ?_
          refine j_aload_n C dX12_ofGirl_101 rfl (lv_at hl 0 rfl) ?_
          refine j_iload_n C dX12_ofGirl_102 rfl (lv_at hl 1 rfl) ?_
          refine j_callV (k := 0) C [.int (z0)] [] (k_X12_ringers l ad V (z0) j_1_ (ej1) (by omega) (rr j_1_) (hM.2.2.2.2.1 _ hj1).1 (hM.2.2.2.2.1 _ hj1).2) v_RX12_167 (ml (by decide)) (rfl) rfl ⟨rfl, rfl, Nat.le_of_ble_eq_true rfl, Nat.le_of_ble_eq_true rfl⟩ rfl hl.1 rfl (Nat.le_of_ble_eq_true rfl) ⟨Nat.le_of_ble_eq_true rfl, Nat.le_of_ble_eq_true rfl⟩ dX12_ofGirl_103 (kI fun x_8_ U8 h_8_ => ?_)
          obtain ⟨eU8, h_8_⟩ := h_8_
          have eU8 := eU8.symm
          subst eU8
          refine j_iret C ⟨rfl, _, rfl, ?_⟩ dX12_ofGirl_106
          obtain ⟨hin1, hcl1⟩ := inz ej1 hj1 (by omega)
          refine ⟨rfl, ?_⟩
          rw [if_pos hin1, hcl1]
          rw [if_neg (fun q => by rw [q] at s_3_; revert s_3_; decide)]
          rw [if_neg (fun q => by rw [q] at s_3_; revert s_3_; decide)]
          rw [if_neg (fun q => by rw [q] at s_3_; revert s_3_; decide)]
          rw [if_neg (fun q => by rw [q] at s_3_; revert s_3_; decide)]
          rw [if_neg (fun q => by rw [q] at s_3_; revert s_3_; decide)]
          rw [if_pos (show z1 = 5 from s_3_)]
          exact h_8_
      · refine j_tableOut (tgt := 107) C dX12_ofGirl_11 (by omega) (by decide) ?_
        refine j_bipush (v := (-2)) C dX12_ofGirl_107 (by decide) ?_
        refine j_iret C ⟨rfl, _, rfl, ?_⟩ dX12_ofGirl_109
        obtain ⟨hin1, hcl1⟩ := inz ej1 hj1 (by omega)
        refine ⟨rfl, ?_⟩
        rw [if_pos hin1, hcl1]
        rw [if_neg (fun q => by rw [q] at s_3_; revert s_3_; decide)]
        rw [if_neg (fun q => by rw [q] at s_3_; revert s_3_; decide)]
        rw [if_neg (fun q => by rw [q] at s_3_; revert s_3_; decide)]
        rw [if_neg (fun q => by rw [q] at s_3_; revert s_3_; decide)]
        rw [if_neg (fun q => by rw [q] at s_3_; revert s_3_; decide)]
        rw [if_neg (fun q => by rw [q] at s_3_; revert s_3_; decide)]
    · exact absurd c_2_ (by decide)
  · subst ex1
    refine j_if_ne (tgt := 10) C dX12_ofGirl_5 (by decide) (fun c_9_ => ?_) (fun c_9_ => ?_)
    · exact absurd rfl c_9_
    · skip
      refine j_iconst (v := (-1)) C dX12_ofGirl_8 (by decide) ?_
      refine j_iret C ⟨rfl, _, rfl, ?_⟩ dX12_ofGirl_9
      have hot1 := outR ho1
      exact ⟨rfl, by rw [if_neg hot1]⟩
