/-- the refusals of the pairing as sets -/
def rfO (V : Vt) (tn : Nat) (rf : Nat → Nat) : Prop := ∀ t, t < tn → V 52 t = nI (rf t) ∧ rf t < 16
/-- all rows but who is given whom (51) and who refused whom (52) stay -/
def frW (V V2 : Vt) : Prop := ∀ a, a ≠ 51 → a ≠ 52 → V2 a = V a
theorem asP_fr {V V2 : Vt} {tn t g : Nat} {rf : Nat → Nat} (h : asP V tn rf t g V2) : frW V V2 := by
  intro a h_51_ h_52_
  rcases h with ⟨-, rfl⟩ | ⟨rv, -, -, -, rfl⟩ | ⟨rv, -, -, -, rfl⟩
  · rw [up2_k _ _ h_51_]
  · rw [up2_k _ _ h_51_, up2_k _ _ h_52_, up2_k _ _ h_51_]
  · rw [up2_k _ _ h_52_]
theorem frW.tr {V V2 V3 : Vt} (h : frW V V2) (h_2_ : frW V2 V3) : frW V V3 := fun a p q => (h_2_ a p q).trans (h a p q)
/-- what is kept by every asking: Φ counts the steps -/
def wKp (tn gn : Nat) (Φ : Nat → Vt → (Nat → Nat) → Prop) : Prop := ∀ (s_9_ : Nat) (V V2 : Vt) (rf : Nat → Nat) (t g : Nat), Φ s_9_ V rf → rfO V tn rf → t < tn → g < gn → V 51 t = -9 → deI V t (rf t) gn = nI g → asP V tn rf t g V2 → ∃ rf2, rfO V2 tn rf2 ∧ Φ (s_9_ + 1) V2 rf2
abbrev rm_X4_wedAll : Room := { frames := 5, cells := 0, slots := 0, locals := 113 }
set_option maxHeartbeats 4000000 in
set_option maxRecDepth 100000 in
theorem k_X4_wedAll (l : Launch) (ad tk : Nat → Nat) (nt : Nat) (V : Vt) (tn : Nat) (hTn : V 48 0 = nI tn) (t5 : tn ≤ 5) (gn : Nat) (hGn : V 48 1 = nI gn) (g4 : gn ≤ 4) (Φ : Nat → Vt → (Nat → Nat) → Prop) (hΦ : wKp tn gn Φ) (rf0 : Nat → Nat) (hrf0 : rfO V tn rf0) (hΦ0 : Φ 0 V rf0)  : Ct l yX4_wedAll cX4_wedAll 3 none rm_X4_wedAll (xS ad tk nt) V [.ref (ad (48))] (rU fun V2 => ∃ (n_8_ : Nat) (rf2 : Nat → Nat), n_8_ ≤ 24 ∧ frW V V2 ∧ rfO V2 tn rf2 ∧ Φ n_8_ V2 rf2 ∧ (n_8_ = 24 ∨ ∀ q, q < tn → V2 51 q = -9 → deI V2 q (rf2 q) gn = -9)) := by
  refine Ct_of (by decide) (Nat.le_of_ble_eq_true rfl) ?_
  intro p e s m below meth c A D cy ls C hl
  have hl : lv_has ls 3 [(0, .ref (ad (48)))] := hl
  refine j_iconst (v := 0) C dX4_wedAll_0 (by decide) ?_
  refine j_istore_n (lv2 := [(1, .int (0)), (0, .ref (ad (48)))]) C dX4_wedAll_1 rfl hl (by decide) rfl (fun ls hl => ?_)
  have loop : ∀ (n_9_ : Nat) (sn : Nat) (Vi : Vt) (rf : Nat → Nat), sn ≤ 24 → frW V Vi → rfO Vi tn rf → Φ sn Vi rf → 24 - sn < n_9_ → ∀ (ls : Array Slot), lv_has ls 3 [(0, .ref (ad (48))), (1, .int (nI sn))] → J p l e rm_X4_wedAll s m [.ref (ad (48))].toArray below meth c A D cy 0 0 (MQ below (gPost D cy A (fun o9 σ2 V2 => σ2 = xS ad tk nt ∧ (rU fun V2 => ∃ (n_8_ : Nat) (rf2 : Nat → Nat), n_8_ ≤ 24 ∧ frW V V2 ∧ rfO V2 tn rf2 ∧ Φ n_8_ V2 rf2 ∧ (n_8_ = 24 ∨ ∀ q, q < tn → V2 51 q = -9 → deI V2 q (rf2 q) gn = -9)) o9 V2)) [.ref (ad (48))].toArray s 0 0 A) (xS ad tk nt) Vi (F0 m 2 ls []) := by
    intro n_9_
    induction n_9_ with
    | zero =>
      intro sn Vi rf hi hF hrf hP hm
      exact absurd hm (by omega)
    | succ n_9_ ih_loop =>
      intro sn Vi rf hi hF hrf hP hm ls hl
      refine j_iload_n C dX4_wedAll_2 rfl (lv_at hl 1 rfl) ?_
      refine j_bipush (v := 24) C dX4_wedAll_3 (by decide) ?_
      refine j_icmp_ge (tgt := 36) C dX4_wedAll_5 (by decide) (fun c_1_ => ?_) (fun c_1_ => ?_)
      · have n_1_ := Int32.not_lt.mpr c_1_
        have es9 : sn = 24 := by have q := leN (b := 24) (by omega) (by decide) c_1_; omega
        refine j_vret C ⟨rfl, rfl, ?_⟩ dX4_wedAll_36
        exact ⟨sn, rf, hi, hF, hrf, hP, Or.inl es9⟩
      · have n_1_ := Int32.not_le.mp c_1_
        have hlt : sn < 24 := ltN (b := 24) (by omega) c_1_
        refine j_aload_n C dX4_wedAll_8 rfl (lv_at hl 0 rfl) ?_
        refine j_callV (k := 48) C [] [] (k_X4_firstWhoAsks l ad tk nt Vi  tn (by rw [hF 48 (by decide) (by decide)]; exact hTn) t5 gn (by rw [hF 48 (by decide) (by decide)]; exact hGn) g4 rf hrf) v_RX4_71 (xl (by decide)) (rfl) rfl ⟨rfl, rfl, Nat.le_of_ble_eq_true rfl, Nat.le_of_ble_eq_true rfl⟩ rfl hl.1 rfl (Nat.le_of_ble_eq_true rfl) ⟨Nat.le_of_ble_eq_true rfl, Nat.le_of_ble_eq_true rfl⟩ dX4_wedAll_9 (kI fun x_2_ U2 h_2_ => ?_)
        obtain ⟨eU2, h_2_⟩ := h_2_
        have eU2 := eU2.symm
        subst eU2
        rcases h_2_ with ⟨tr2, ht2, hv2, hd2, ex2⟩ | ⟨ho2, ex2⟩
        · subst ex2
          refine j_istore_n (lv2 := [(2, .int (nI tr2)), (0, .ref (ad (48))), (1, .int (nI sn))]) C dX4_wedAll_12 rfl hl (by decide) rfl (fun ls hl => ?_)
          refine j_iload_n C dX4_wedAll_13 rfl (lv_at hl 0 rfl) ?_
          refine j_bipush (v := (-9)) C dX4_wedAll_14 (by decide) ?_
          refine j_icmp_ne (tgt := 20) C dX4_wedAll_16 (by decide) (fun c_3_ => ?_) (fun c_3_ => ?_)
          · skip
            refine j_aload_n C dX4_wedAll_20 rfl (lv_at hl 1 rfl) ?_
            refine j_iload_n C dX4_wedAll_21 rfl (lv_at hl 0 rfl) ?_
            refine j_aload_n C dX4_wedAll_22 rfl (lv_at hl 1 rfl) ?_
            refine j_iload_n C dX4_wedAll_23 rfl (lv_at hl 0 rfl) ?_
            refine j_callV (k := 48) C [.int (nI tr2)] [.int (nI tr2), .ref (ad (48))] (k_X4_dearest l ad tk nt Vi (nI tr2) gn (by rw [hF 48 (by decide) (by decide)]; exact hGn) g4 tr2 rfl (by omega) (rf tr2) (hrf tr2 ht2).1 (hrf tr2 ht2).2) v_RX4_75 (xl (by decide)) (rfl) rfl ⟨rfl, rfl, Nat.le_of_ble_eq_true rfl, Nat.le_of_ble_eq_true rfl⟩ rfl hl.1 rfl (Nat.le_of_ble_eq_true rfl) ⟨Nat.le_of_ble_eq_true rfl, Nat.le_of_ble_eq_true rfl⟩ dX4_wedAll_24 (kI fun x_4_ U4 h_4_ => ?_)
            obtain ⟨eU4, h_4_⟩ := h_4_
            have eU4 := eU4.symm
            subst eU4
            obtain ⟨g7, hg7, eg7⟩ : ∃ g, g < gn ∧ x_4_ = nI g := by
              rcases deI_rng Vi tr2 (rf tr2) gn with h | ⟨q, ha, hb⟩
              · exact absurd h hd2
              · exact ⟨q, ha, h_4_.trans hb⟩
            refine j_callV (k := 48) C [.int (nI tr2), .int (x_4_)] [] (k_X4_ask l ad tk nt Vi (nI tr2) (x_4_) tn (by rw [hF 48 (by decide) (by decide)]; exact hTn) t5 rf hrf tr2 g7 rfl eg7 ht2 (by omega)) v_RX4_78 (xl (by decide)) (rfl) rfl ⟨rfl, rfl, Nat.le_of_ble_eq_true rfl, Nat.le_of_ble_eq_true rfl⟩ rfl hl.1 rfl (Nat.le_of_ble_eq_true rfl) ⟨Nat.le_of_ble_eq_true rfl, Nat.le_of_ble_eq_true rfl⟩ dX4_wedAll_27 (kU fun U5 h_5_ => ?_)
            obtain ⟨rf7, hrf7, hP7⟩ := hΦ sn Vi U5 rf tr2 g7 hP hrf ht2 hg7 hv2 (h_4_.symm.trans eg7) h_5_
            refine j_iinc (v := nI (sn + 1)) (lv2 := [(1, .int (nI (sn + 1))), (2, .int (nI tr2)), (0, .ref (ad (48)))]) C dX4_wedAll_30 hl (k0 := 2) rfl (nI_1 _) (by decide) rfl (fun ls hl => ?_)
            refine j_goto (tgt := 2) C dX4_wedAll_33 (by decide) ?_
            exact ih_loop (sn + 1) U5 rf7 (by omega) (hF.tr (asP_fr h_5_)) hrf7 hP7 (by omega) ls (lv_sub hl [2, 0] rfl)
          · skip
            exact absurd c_3_ (m9_nI (by omega))
        · subst ex2
          refine j_istore_n (lv2 := [(2, .int ((-9))), (0, .ref (ad (48))), (1, .int (nI sn))]) C dX4_wedAll_12 rfl hl (by decide) rfl (fun ls hl => ?_)
          refine j_iload_n C dX4_wedAll_13 rfl (lv_at hl 0 rfl) ?_
          refine j_bipush (v := (-9)) C dX4_wedAll_14 (by decide) ?_
          refine j_icmp_ne (tgt := 20) C dX4_wedAll_16 (by decide) (fun c_6_ => ?_) (fun c_6_ => ?_)
          · skip
            exact absurd rfl c_6_
          · skip
            refine j_vret C ⟨rfl, rfl, ?_⟩ dX4_wedAll_19
            exact ⟨sn, rf, hi, hF, hrf, hP, Or.inr ho2⟩
  exact loop 25 0 V rf0 (by omega) (fun _ _ _ => rfl) hrf0 hΦ0 (by omega) ls (lv_sub hl [1, 0] rfl)
