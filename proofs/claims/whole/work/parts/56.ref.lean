theorem feM_start {V : Vt} {ng nt : Nat} {rc ys ls : Nat → Int32} {F : Fs} (h : feM0 V ng nt rc ys ls F) (h_1_ : F.2.2.2.2.1 = 0) (h_2_ : F.2.2.2.2.2 = 0) : feM (up2 (up2 V 0 25 0) 0 26 0) ng nt rc ys ls F := by
  obtain ⟨q1, q2, q3, q4, q5, q6, q7⟩ := h
  refine ⟨⟨by rw [up2_i _ _ (by decide), up2_i _ _ (by decide)]; exact q1, by rw [up2_i _ _ (by decide), up2_i _ _ (by decide)]; exact q2, q3, fun g hg => ?_, by rw [up2_i _ _ (by decide), up2_i _ _ (by decide)]; exact q5, q6, fun t ht => ?_⟩, by rw [up2_i _ _ (by decide), up2_s, h_1_], by rw [up2_s, h_2_]⟩
  · have e : ∀ a, a ≠ 0 → up2 (up2 V 0 25 0) 0 26 0 a = V a := fun a ha => by rw [up2_k _ _ ha, up2_k _ _ ha]
    unfold mW mM
    rw [e 4 (by decide), e 5 (by decide), e 8 (by decide), e 9 (by decide), e 10 (by decide)]
    exact q4 g hg
  · rw [up2_k _ _ (by decide), up2_k _ _ (by decide), up2_k _ _ (by decide), up2_k _ _ (by decide)]
    exact q7 t ht
theorem frM.r3 {ng : Nat} {V V2 : Vt} (h : frM ng V V2) : V2 3 = V 3 := funext fun j => h 3 j (fun q => absurd q (by decide)) (by decide) (by decide) (fun q => absurd q.1 (by decide))
abbrev rm_X12_goFeast : Room := { frames := 3, cells := 0, slots := 0, locals := 69 }
set_option maxHeartbeats 4000000 in
set_option maxRecDepth 100000 in
theorem k_X12_goFeast (l : Launch) (ad : Nat → Nat) (V : Vt) (z0 z1 : Int32) (f0 : Nat) (e0 : z0 = nI f0) (hf0 : f0 < 241) (n : Nat) (e1 : z1 = nI n) (hn : n < 21) (hfn : f0 + 2 * n ≤ 240) (ng nt : Nat) (rc ys ls9 : Nat → Int32) (F : Fs) (hF : feM0 V ng nt rc ys ls9 F) (hz1 : F.2.2.2.2.1 = 0) (hz2 : F.2.2.2.2.2 = 0) (hok : ∀ p, p < n → rfI nt (V 3 (f0 + 2 * p)) (V 3 (f0 + (2 * p + 1))) = 0)  : Ct l yX12_goFeast cX12_goFeast 4 (some .int) rm_X12_goFeast (mS ad) V [.ref (ad (0)), .int (z0), .int (z1)] (rI fun x V2 => frM ng V V2 ∧ ∃ q G, feN nt ng rc ys ls9 F (fun j => V 3 (f0 + j)) q = some G ∧ feM V2 ng nt rc ys ls9 G ∧ ((q = n ∧ x = -9) ∨ (q < n ∧ feS nt ng rc ys ls9 G ((fun j => V 3 (f0 + j)) (2 * q)) ((fun j => V 3 (f0 + j)) (2 * q + 1)) = none ∧ x = nI q))) := by
  subst e0
  subst e1
  refine Ct_of (by decide) (Nat.le_of_ble_eq_true rfl) ?_
  intro p e s m below meth c A D cy ls C hl
  have hl : lv_has ls 4 [(0, .ref (ad (0))), (1, .int (nI f0)), (2, .int (nI n))] := hl
  refine j_aload_n C dX12_goFeast_0 rfl (lv_at hl 0 rfl) ?_
  refine j_iconst (v := 0) C dX12_goFeast_1 (by decide) ?_
  refine j_putI (k := 0) C (f_RX12_189_12) p_12_25 (ml (by decide)) (rfl) dX12_goFeast_2 (fun V1 eV1 => ?_)
  refine j_aload_n C dX12_goFeast_5 rfl (lv_at hl 0 rfl) ?_
  refine j_iconst (v := 0) C dX12_goFeast_6 (by decide) ?_
  refine j_putI (k := 0) C (f_RX12_192_12) p_12_26 (ml (by decide)) (rfl) dX12_goFeast_7 (fun V2 eV2 => ?_)
  refine j_iconst (v := 0) C dX12_goFeast_10 (by decide) ?_
  refine j_istore_n (lv2 := [(3, .int (0)), (0, .ref (ad (0))), (1, .int (nI f0)), (2, .int (nI n))]) C dX12_goFeast_11 rfl hl (by decide) rfl (fun ls hl => ?_)
  have loop : ∀ (n_9_ : Nat) (p9 : Nat) (Vi : Vt) (G : Fs), p9 ≤ n → frM ng V Vi → feN nt ng rc ys ls9 F (fun j => V 3 (f0 + j)) p9 = some G → feM Vi ng nt rc ys ls9 G → n - p9 < n_9_ → ∀ (ls : Array Slot), lv_has ls 4 [(0, .ref (ad (0))), (1, .int (nI f0)), (2, .int (nI n)), (3, .int (nI p9))] → J p l e rm_X12_goFeast s m [.ref (ad (0)), .int (nI f0), .int (nI n)].toArray below meth c A D cy 0 0 (MQ below (gPost D cy A (fun o9 σ2 V2 => σ2 = mS ad ∧ (rI fun x V2 => frM ng V V2 ∧ ∃ q G, feN nt ng rc ys ls9 F (fun j => V 3 (f0 + j)) q = some G ∧ feM V2 ng nt rc ys ls9 G ∧ ((q = n ∧ x = -9) ∨ (q < n ∧ feS nt ng rc ys ls9 G ((fun j => V 3 (f0 + j)) (2 * q)) ((fun j => V 3 (f0 + j)) (2 * q + 1)) = none ∧ x = nI q))) o9 V2)) [.ref (ad (0)), .int (nI f0), .int (nI n)].toArray s 0 0 A) (mS ad) Vi (F0 m 12 ls []) := by
    intro n_9_
    induction n_9_ with
    | zero =>
      intro p9 Vi G hi hFr hN hR hm
      exact absurd hm (by omega)
    | succ n_9_ ih_loop =>
      intro p9 Vi G hi hFr hN hR hm ls hl
      refine j_iload_n C dX12_goFeast_12 rfl (lv_at hl 3 rfl) ?_
      refine j_iload_n C dX12_goFeast_13 rfl (lv_at hl 2 rfl) ?_
      refine j_icmp_ge (tgt := 54) C dX12_goFeast_14 (by decide) (fun c_1_ => ?_) (fun c_1_ => ?_)
      · have n_1_ := Int32.not_lt.mpr c_1_
        have q1 := cLe (rfl) (rfl) (by omega) (by omega) c_1_
        refine j_bipush (v := (-9)) C dX12_goFeast_54 (by decide) ?_
        refine j_iret C ⟨rfl, _, rfl, ?_⟩ dX12_goFeast_56
        obtain rfl : p9 = n := by omega
        exact ⟨hFr, p9, G, hN, hR, Or.inl ⟨rfl, rfl⟩⟩
      · have n_1_ := Int32.not_le.mp c_1_
        have q1 := cNe (rfl) (rfl) (by omega) (by omega) c_1_
        refine j_aload_n C dX12_goFeast_17 rfl (lv_at hl 0 rfl) ?_
        refine j_aload_n C dX12_goFeast_18 rfl (lv_at hl 0 rfl) ?_
        refine j_getR (k := 0) (k2 := 3) C (f_RX12_16_12) (ml (by decide)) (rfl) (rfl) dX12_goFeast_19 ?_
        refine j_iload_n C dX12_goFeast_22 rfl (lv_at hl 1 rfl) ?_
        refine j_iconst (v := 2) C dX12_goFeast_23 (by decide) ?_
        refine j_iload_n C dX12_goFeast_24 rfl (lv_at hl 3 rfl) ?_
        refine j_imul C dX12_goFeast_25 ?_
        refine j_iadd C dX12_goFeast_26 ?_
        refine j_ialdE (k := 3) (n := 240) (t := f0 + 2 * p9) C (ml (by decide)) (rfl) (rfl) (nA (rfl) (nM (show (2 : Int32) = nI 2 from rfl) (rfl))) (by omega) (by decide) dX12_goFeast_27 ?_
        refine j_aload_n C dX12_goFeast_28 rfl (lv_at hl 0 rfl) ?_
        refine j_getR (k := 0) (k2 := 3) C (f_RX12_16_12) (ml (by decide)) (rfl) (rfl) dX12_goFeast_29 ?_
        refine j_iload_n C dX12_goFeast_32 rfl (lv_at hl 1 rfl) ?_
        refine j_iconst (v := 2) C dX12_goFeast_33 (by decide) ?_
        refine j_iload_n C dX12_goFeast_34 rfl (lv_at hl 3 rfl) ?_
        refine j_imul C dX12_goFeast_35 ?_
        refine j_iadd C dX12_goFeast_36 ?_
        refine j_iconst (v := 1) C dX12_goFeast_37 (by decide) ?_
        refine j_iadd C dX12_goFeast_38 ?_
        refine j_ialdE (k := 3) (n := 240) (t := f0 + 2 * p9 + 1) C (ml (by decide)) (rfl) (rfl) (nA (nA (rfl) (nM (show (2 : Int32) = nI 2 from rfl) (rfl))) (show (1 : Int32) = nI 1 from rfl)) (by omega) (by decide) dX12_goFeast_39 ?_
        refine j_callV (k := 0) C [.int (Vi 3 (f0 + 2 * p9)), .int (Vi 3 (f0 + 2 * p9 + 1))] [] (k_X12_does l ad Vi (Vi 3 (f0 + 2 * p9)) (Vi 3 (f0 + 2 * p9 + 1))  ng nt rc ys ls9 G hR (by rw [hFr.r3]; exact hok p9 (by omega))) v_RX12_195 (ml (by decide)) (rfl) rfl ⟨rfl, rfl, Nat.le_of_ble_eq_true rfl, Nat.le_of_ble_eq_true rfl⟩ rfl hl.1 rfl (Nat.le_of_ble_eq_true rfl) ⟨Nat.le_of_ble_eq_true rfl, Nat.le_of_ble_eq_true rfl⟩ dX12_goFeast_40 (kI fun x_2_ U2 h_2_ => ?_)
        obtain ⟨hfr2, h_2_⟩ := h_2_
        rw [hFr.r3] at h_2_
        refine j_if_ne (tgt := 48) C dX12_goFeast_43 (by decide) (fun c_3_ => ?_) (fun c_3_ => ?_)
        · skip
          obtain ⟨G9, hs9, -, hR9⟩ := h_2_.resolve_right (fun q => c_3_ q.2.1)
          refine j_iinc (v := nI (p9 + 1)) (lv2 := [(3, .int (nI (p9 + 1))), (0, .ref (ad (0))), (1, .int (nI f0)), (2, .int (nI n))]) C dX12_goFeast_48 hl (k0 := 3) rfl (nI_1 _) (by decide) rfl (fun ls hl => ?_)
          refine j_goto (tgt := 12) C dX12_goFeast_51 (by decide) ?_
          exact ih_loop (p9 + 1) U2 G9 (by omega) (hFr.tr hfr2) ((feN_s hN).trans hs9) hR9 (by omega) ls (lv_sub hl [1, 2, 3, 0] rfl)
        · skip
          refine j_iload_n C dX12_goFeast_46 rfl (lv_at hl 3 rfl) ?_
          refine j_iret C ⟨rfl, _, rfl, ?_⟩ dX12_goFeast_47
          obtain ⟨hs9, -, hv9⟩ := h_2_.resolve_left (fun ⟨_, _, q, _⟩ => absurd (q.symm.trans c_3_) (by decide))
          rw [hv9]
          exact ⟨hFr, p9, G, hN, hR, Or.inr ⟨by omega, hs9, rfl⟩⟩
  exact loop (n + 1) 0 V2 F (by omega) (by rw [eV2, eV1]; exact (frM.up (by omega)).tr (frM.up (by omega))) rfl (by rw [eV2, eV1]; exact feM_start hF hz1 hz2) (by omega) ls (lv_sub hl [1, 2, 3, 0] rfl)
def tfM (V : Vt) (ng : Nat) (rr : Nat → Nat) (z : Int32) : Int32 := if 10 ≤ z then (if ¬ z - 10 < 0 ∧ z - 10 < nI ng then holI (mW V (z - 10).toNatClampNeg) (mM V (z - 10).toNatClampNeg) (rr (z - 10).toNatClampNeg) else -9) else if z = 0 then nI (cntI (fun g => 0 < rr g) ng) else if z = 2 then V 0 25 else if z = 3 then V 0 26 else V 0 5
abbrev rm_X12_tellFeast : Room := { frames := 2, cells := 0, slots := 0, locals := 46 }
set_option maxHeartbeats 4000000 in
set_option maxRecDepth 100000 in
theorem k_X12_tellFeast (l : Launch) (ad : Nat → Nat) (V : Vt) (z0 : Int32) (ng : Nat) (hG : V 0 6 = nI ng) (ng4 : ng ≤ 4) (rr : Nat → Nat) (hr : ∀ g, g < ng → V 8 g = nI (rr g) ∧ rr g ≤ 8)  : Ct l yX12_tellFeast cX12_tellFeast 4 (some .int) rm_X12_tellFeast (mS ad) V [.ref (ad (0)), .int (z0)] (rI fun x V2 => V2 = V ∧ x = tfM V ng rr z0) := by
  refine Ct_of (by decide) (Nat.le_of_ble_eq_true rfl) ?_
  intro p e s m below meth c A D cy ls C hl
  have hl : lv_has ls 4 [(0, .ref (ad (0))), (1, .int (z0))] := hl
  refine j_iload_n C dX12_tellFeast_0 rfl (lv_at hl 1 rfl) ?_
  refine j_bipush (v := 10) C dX12_tellFeast_1 (by decide) ?_
  refine j_icmp_lt (tgt := 31) C dX12_tellFeast_3 (by decide) (fun c_1_ => ?_) (fun c_1_ => ?_)
  · have n_1_ := Int32.not_le.mpr c_1_
    skip
    refine j_iload_n C dX12_tellFeast_31 rfl (lv_at hl 1 rfl) ?_
    rcases sw_in (z0) 4 (by decide) with ⟨js2, hjs2, s_2_⟩ | s_2_
    · rcases (show js2 = 0 ∨ js2 = 1 ∨ js2 = 2 ∨ js2 = 3 by omega) with rfl | rfl | rfl | rfl
      · refine j_tableIn (off := 32) (tgt := 64) C dX12_tellFeast_32 (by rw [s_2_]; decide) (by rw [s_2_]; decide) (by rw [s_2_]; rfl) (by decide) ?_
        refine j_iconst (v := 0) C dX12_tellFeast_64 (by decide) ?_
        refine j_istore_n (lv2 := [(2, .int (0)), (0, .ref (ad (0))), (1, .int (z0))]) C dX12_tellFeast_65 rfl hl (by decide) rfl (fun ls hl => ?_)
        refine j_iconst (v := 0) C dX12_tellFeast_66 (by decide) ?_
        refine j_istore_n (lv2 := [(3, .int (0)), (2, .int (0)), (0, .ref (ad (0))), (1, .int (z0))]) C dX12_tellFeast_67 rfl hl (by decide) rfl (fun ls hl => ?_)
        have loop : ∀ (n_9_ : Nat) (g : Nat) (b : Int32), g ≤ ng → b = nI (cntI (fun g => 0 < rr g) g) → ng - g < n_9_ → ∀ (ls : Array Slot), lv_has ls 4 [(0, .ref (ad (0))), (2, .int (b)), (3, .int (nI g))] → J p l e rm_X12_tellFeast s m [.ref (ad (0)), .int (z0)].toArray below meth c A D cy 0 0 (MQ below (gPost D cy A (fun o9 σ2 V2 => σ2 = mS ad ∧ (rI fun x V2 => V2 = V ∧ x = tfM V ng rr z0) o9 V2)) [.ref (ad (0)), .int (z0)].toArray s 0 0 A) (mS ad) V (F0 m 68 ls []) := by
          intro n_9_
          induction n_9_ with
          | zero =>
            intro g b hi hb hm
            exact absurd hm (by omega)
          | succ n_9_ ih_loop =>
            intro g b hi hb hm ls hl
            refine j_iload_n C dX12_tellFeast_68 rfl (lv_at hl 2 rfl) ?_
            refine j_aload_n C dX12_tellFeast_69 rfl (lv_at hl 0 rfl) ?_
            refine j_getI (k := 0) C (f_RX12_89_12) (ml (by decide)) (rfl) dX12_tellFeast_70 ?_
            refine j_icmp_ge (tgt := 99) C dX12_tellFeast_73 (by decide) (fun c_3_ => ?_) (fun c_3_ => ?_)
            · have n_3_ := Int32.not_lt.mpr c_3_
              have q3 := cLe (hG) (rfl) (by omega) (by omega) c_3_
              refine j_iload_n C dX12_tellFeast_99 rfl (lv_at hl 1 rfl) ?_
              refine j_iret C ⟨rfl, _, rfl, ?_⟩ dX12_tellFeast_100
              obtain rfl : g = ng := by omega
              refine ⟨rfl, ?_⟩
              unfold tfM
              rw [if_neg (Int32.not_le.mpr c_1_)]
              rw [if_pos (show z0 = 0 from s_2_)]
              exact hb
            · have n_3_ := Int32.not_le.mp c_3_
              have q3 := cNe (hG) (rfl) (by omega) (by omega) c_3_
              have hlt : g < ng := by omega
              have hr8 := (hr g hlt).2
              refine j_iload_n C dX12_tellFeast_76 rfl (lv_at hl 1 rfl) ?_
              refine j_aload_n C dX12_tellFeast_77 rfl (lv_at hl 0 rfl) ?_
              refine j_getR (k := 0) (k2 := 8) C (f_RX12_31_12) (ml (by decide)) (rfl) (rfl) dX12_tellFeast_78 ?_
              refine j_iload_n C dX12_tellFeast_81 rfl (lv_at hl 2 rfl) ?_
              refine j_ialdE (k := 8) (n := 4) (t := g) C (ml (by decide)) (rfl) (rfl) (rfl) (by omega) (by decide) dX12_tellFeast_82 ?_
              refine j_if_le (tgt := 90) C dX12_tellFeast_83 (by decide) (fun c_4_ => ?_) (fun c_4_ => ?_)
              · have n_4_ := Int32.not_lt.mpr c_4_
                have q4 := cLe ((hr g hlt).1) (show (0 : Int32) = nI 0 from rfl) (by omega) (by omega) c_4_
                refine j_iconst (v := 0) C dX12_tellFeast_90 (by decide) ?_
                refine j_iadd C dX12_tellFeast_91 ?_
                refine j_istore_n (lv2 := [(2, .int (b + 0)), (0, .ref (ad (0))), (3, .int (nI g))]) C dX12_tellFeast_92 rfl hl (by decide) rfl (fun ls hl => ?_)
                refine j_iinc (v := nI (g + 1)) (lv2 := [(3, .int (nI (g + 1))), (2, .int (b + 0)), (0, .ref (ad (0)))]) C dX12_tellFeast_93 hl (k0 := 2) rfl (nI_1 _) (by decide) rfl (fun ls hl => ?_)
                refine j_goto (tgt := 68) C dX12_tellFeast_96 (by decide) ?_
                exact ih_loop (g + 1) (b + 0) (by omega) (by rw [cntI, if_neg (show ¬ 0 < rr g by omega), hb]; exact Int32.add_zero _) (by omega) ls (lv_sub hl [2, 1, 0] rfl)
              · have n_4_ := Int32.not_le.mp c_4_
                have q4 := cNe ((hr g hlt).1) (show (0 : Int32) = nI 0 from rfl) (by omega) (by omega) c_4_
                refine j_iconst (v := 1) C dX12_tellFeast_86 (by decide) ?_
                refine j_goto (tgt := 91) C dX12_tellFeast_87 (by decide) ?_
                refine j_iadd C dX12_tellFeast_91 ?_
                refine j_istore_n (lv2 := [(2, .int (b + 1)), (0, .ref (ad (0))), (3, .int (nI g))]) C dX12_tellFeast_92 rfl hl (by decide) rfl (fun ls hl => ?_)
                refine j_iinc (v := nI (g + 1)) (lv2 := [(3, .int (nI (g + 1))), (2, .int (b + 1)), (0, .ref (ad (0)))]) C dX12_tellFeast_93 hl (k0 := 2) rfl (nI_1 _) (by decide) rfl (fun ls hl => ?_)
                refine j_goto (tgt := 68) C dX12_tellFeast_96 (by decide) ?_
                exact ih_loop (g + 1) (b + 1) (by omega) (by rw [cntI, if_pos (show 0 < rr g by omega), hb]; exact nI_1 _) (by omega) ls (lv_sub hl [2, 1, 0] rfl)
        exact loop (ng + 1) 0 0 (by omega) rfl (by omega) ls (lv_sub hl [2, 1, 0] rfl)
      · refine j_tableIn (off := 79) (tgt := 111) C dX12_tellFeast_32 (by rw [s_2_]; decide) (by rw [s_2_]; decide) (by rw [s_2_]; rfl) (by decide) ?_
        refine j_aload_n C dX12_tellFeast_111 rfl (lv_at hl 0 rfl) ?_
        refine j_getI (k := 0) C (f_RX12_126_12) (ml (by decide)) (rfl) dX12_tellFeast_112 ?_
        refine j_iret C ⟨rfl, _, rfl, ?_⟩ dX12_tellFeast_115
        refine ⟨rfl, ?_⟩
        unfold tfM
        rw [if_neg (Int32.not_le.mpr c_1_)]
        rw [if_neg (fun q => by rw [q] at s_2_; revert s_2_; decide)]
        rw [if_neg (fun q => by rw [q] at s_2_; revert s_2_; decide)]
        rw [if_neg (fun q => by rw [q] at s_2_; revert s_2_; decide)]
      · refine j_tableIn (off := 69) (tgt := 101) C dX12_tellFeast_32 (by rw [s_2_]; decide) (by rw [s_2_]; decide) (by rw [s_2_]; rfl) (by decide) ?_
        refine j_aload_n C dX12_tellFeast_101 rfl (lv_at hl 0 rfl) ?_
        refine j_getI (k := 0) C (f_RX12_189_12) (ml (by decide)) (rfl) dX12_tellFeast_102 ?_
        refine j_iret C ⟨rfl, _, rfl, ?_⟩ dX12_tellFeast_105
        refine ⟨rfl, ?_⟩
        unfold tfM
        rw [if_neg (Int32.not_le.mpr c_1_)]
        rw [if_neg (fun q => by rw [q] at s_2_; revert s_2_; decide)]
        rw [if_pos (show z0 = 2 from s_2_)]
      · refine j_tableIn (off := 74) (tgt := 106) C dX12_tellFeast_32 (by rw [s_2_]; decide) (by rw [s_2_]; decide) (by rw [s_2_]; rfl) (by decide) ?_
        refine j_aload_n C dX12_tellFeast_106 rfl (lv_at hl 0 rfl) ?_
        refine j_getI (k := 0) C (f_RX12_192_12) (ml (by decide)) (rfl) dX12_tellFeast_107 ?_
        refine j_iret C ⟨rfl, _, rfl, ?_⟩ dX12_tellFeast_110
        refine ⟨rfl, ?_⟩
        unfold tfM
        rw [if_neg (Int32.not_le.mpr c_1_)]
        rw [if_neg (fun q => by rw [q] at s_2_; revert s_2_; decide)]
        rw [if_neg (fun q => by rw [q] at s_2_; revert s_2_; decide)]
        rw [if_pos (show z0 = 3 from s_2_)]
    · refine j_tableOut (tgt := 111) C dX12_tellFeast_32 (by omega) (by decide) ?_
      refine j_aload_n C dX12_tellFeast_111 rfl (lv_at hl 0 rfl) ?_
      refine j_getI (k := 0) C (f_RX12_126_12) (ml (by decide)) (rfl) dX12_tellFeast_112 ?_
      refine j_iret C ⟨rfl, _, rfl, ?_⟩ dX12_tellFeast_115
      refine ⟨rfl, ?_⟩
      unfold tfM
      rw [if_neg (Int32.not_le.mpr c_1_)]
      rw [if_neg (fun q => by rw [q] at s_2_; revert s_2_; decide)]
      rw [if_neg (fun q => by rw [q] at s_2_; revert s_2_; decide)]
      rw [if_neg (fun q => by rw [q] at s_2_; revert s_2_; decide)]
  · have n_1_ := Int32.not_lt.mp c_1_
    refine j_aload_n C dX12_tellFeast_6 rfl (lv_at hl 0 rfl) ?_
    refine j_iload_n C dX12_tellFeast_7 rfl (lv_at hl 1 rfl) ?_
    refine j_bipush (v := 10) C dX12_tellFeast_8 (by decide) ?_
    refine j_isub C dX12_tellFeast_10 ?_
    refine j_callV (k := 0) C [.int (z0 - 10)] [] (k_X12_isGirl l ad V (z0 - 10)  ng hG (by omega)) v_RX12_161 (ml (by decide)) (rfl) rfl ⟨rfl, rfl, Nat.le_of_ble_eq_true rfl, Nat.le_of_ble_eq_true rfl⟩ rfl hl.1 rfl (Nat.le_of_ble_eq_true rfl) ⟨Nat.le_of_ble_eq_true rfl, Nat.le_of_ble_eq_true rfl⟩ dX12_tellFeast_11 (kI fun x_5_ U5 h_5_ => ?_)
    obtain ⟨eU5, h_5_⟩ := h_5_
    have eU5 := eU5.symm
    subst eU5
    rcases h_5_ with ⟨j_5_, hj5, ej5, ex5⟩ | ⟨ho5, ex5⟩
    · subst ex5
      refine j_if_eq (tgt := 28) C dX12_tellFeast_14 (by decide) (fun c_6_ => ?_) (fun c_6_ => ?_)
      · exact absurd c_6_ (by decide)
      · skip
        refine j_aload_n C dX12_tellFeast_17 rfl (lv_at hl 0 rfl) ?_
        refine j_iload_n C dX12_tellFeast_18 rfl (lv_at hl 1 rfl) ?_
        refine j_bipush (v := 10) C dX12_tellFeast_19 (by decide) ?_
        refine j_isub C dX12_tellFeast_21 ?_
        refine j_callV (k := 0) C [.int (z0 - 10)] [] (k_X12_hasHer l ad V (z0 - 10) j_5_ (ej5) (by omega) (rr j_5_) (hr _ hj5).1 (hr _ hj5).2) v_RX12_164 (ml (by decide)) (rfl) rfl ⟨rfl, rfl, Nat.le_of_ble_eq_true rfl, Nat.le_of_ble_eq_true rfl⟩ rfl hl.1 rfl (Nat.le_of_ble_eq_true rfl) ⟨Nat.le_of_ble_eq_true rfl, Nat.le_of_ble_eq_true rfl⟩ dX12_tellFeast_22 (kI fun x_7_ U7 h_7_ => ?_)
        obtain ⟨eU7, h_7_⟩ := h_7_
        have eU7 := eU7.symm
        subst eU7
        refine j_goto (tgt := 30) C dX12_tellFeast_25 (by decide) ?_
        refine j_iret C ⟨rfl, _, rfl, ?_⟩ dX12_tellFeast_30
        obtain ⟨hin1, hcl1⟩ := inz ej5 hj5 (by omega)
        refine ⟨rfl, ?_⟩
        unfold tfM
        rw [if_pos (Int32.not_lt.mp c_1_), if_pos hin1, hcl1]
        exact h_7_
    · subst ex5
      refine j_if_eq (tgt := 28) C dX12_tellFeast_14 (by decide) (fun c_8_ => ?_) (fun c_8_ => ?_)
      · skip
        refine j_bipush (v := (-9)) C dX12_tellFeast_28 (by decide) ?_
        refine j_iret C ⟨rfl, _, rfl, ?_⟩ dX12_tellFeast_30
        refine ⟨rfl, ?_⟩
        unfold tfM
        rw [if_pos (Int32.not_lt.mp c_1_), if_neg (outR ho5)]
      · exact absurd rfl c_8_
theorem feM0_K {V : Vt} {ng nt n m : Nat} {rc ys ls : Nat → Int32} {F : Fs} (h : feM0 V ng nt rc ys ls F) : feM0 (kpM V n m) ng nt rc ys ls F := by
  have e : ∀ a j, ¬ (13 ≤ a ∧ a ≤ 15) → ¬ (a = 0 ∧ j = 21) → kpM V n m a j = V a j := fun a j h_1_ h_2_ => by
    unfold kpM
    rw [if_neg h_2_, if_neg (by omega), if_neg (by omega), if_neg (by omega)]
  obtain ⟨q1, q2, q3, q4, q5, q6, q7⟩ := h
  refine ⟨by rw [e _ _ (by omega) (by omega)]; exact q1, by rw [e _ _ (by omega) (by omega)]; exact q2, q3, fun g hg => ?_, by rw [e _ _ (by omega) (by omega)]; exact q5, q6, fun t ht => by rw [e _ _ (by omega) (by omega), e _ _ (by omega) (by omega)]; exact q7 t ht⟩
  obtain ⟨p1, p2, p3, p4, p5⟩ := q4 g hg
  refine ⟨by rw [e _ _ (by omega) (by omega)]; exact p1, by rw [e _ _ (by omega) (by omega)]; exact p2, by rw [e _ _ (by omega) (by omega)]; exact p3, p4, fun j hj => ?_⟩
  unfold mW mM
  rw [e _ _ (by omega) (by omega), e _ _ (by omega) (by omega)]
  exact p5 j hj
theorem fe_sc {V U : Vt} {ng : Nat} {rr : Nat → Nat} (h_4_ : ng ≤ 4) (hr8 : ∀ g, g < ng → rr g ≤ 8) (h : frM ng (kpM V ng 32) U) : scE ng rr V (pbM U ng 32) := by
  have eK : ∀ a j, ¬ (13 ≤ a ∧ a ≤ 15) → ¬ (a = 0 ∧ j = 21) → kpM V ng 32 a j = V a j := fun a j h_1_ h_2_ => by
    unfold kpM
    rw [if_neg h_2_, if_neg (by omega), if_neg (by omega), if_neg (by omega)]
  intro a j q
  obtain ⟨q1, q2, q3⟩ := q
  by_cases c_5_ : a = 0 ∧ j = 5
  · unfold pbM
    rw [if_pos c_5_, h 0 21 (by omega) (by omega) (by omega) (by omega), c_5_.1, c_5_.2]
    unfold kpM
    rw [if_pos ⟨rfl, rfl⟩]
  · by_cases c_8_ : a = 8 ∧ j < ng
    · unfold pbM
      rw [if_neg c_5_, if_pos c_8_, h 13 j (by omega) (by omega) (by omega) (by omega), c_8_.1]
      unfold kpM
      rw [if_neg (by omega), if_pos (by omega)]
    · have h_32_ : (a = 9 ∨ a = 10) → j < 32 := fun z => by
        obtain ⟨g, hg, -, h_2_⟩ := q1 z
        have := hr8 g hg
        omega
      by_cases c_9_ : a = 9 ∧ j < 32
      · unfold pbM
        rw [if_neg c_5_, if_neg c_8_, if_pos c_9_, h 14 j (by omega) (by omega) (by omega) (by omega), c_9_.1]
        unfold kpM
        rw [if_neg (by omega), if_neg (by omega), if_pos (by omega)]
      · by_cases c_10_ : a = 10 ∧ j < 32
        · unfold pbM
          rw [if_neg c_5_, if_neg c_8_, if_neg c_9_, if_pos c_10_, h 15 j (by omega) (by omega) (by omega) (by omega), c_10_.1]
          unfold kpM
          rw [if_neg (by omega), if_neg (by omega), if_neg (by omega), if_pos (by omega)]
        · unfold pbM
          rw [if_neg c_5_, if_neg c_8_, if_neg c_9_, if_neg c_10_, h a j (by omega) (by omega) (by omega) (by omega), eK a j (by omega) (by omega)]
theorem kpM_r3 {V : Vt} {n m : Nat} : kpM V n m 3 = V 3 := by
  funext j
  unfold kpM
  rw [if_neg (by omega), if_neg (by omega), if_neg (by omega), if_neg (by omega)]
theorem agI_0 {s len z1 z2 z3 : Int32} (h : agI s len z1 z2 z3 = 0) : 0 ≤ z2 ∧ z2 ≤ len ∧ 0 ≤ z3 ∧ z3 ≤ len - z2 := by
  unfold agI at h
  split at h
  · exact absurd h (by decide)
  · split at h
    · exact absurd h (by decide)
    · split at h
      · exact absurd h (by decide)
      · split at h
        · exact absurd h (by decide)
        · rename_i n_3_ n_4_
          exact ⟨Int32.not_lt.mp (fun q => n_4_ (Or.inl q)), Int32.not_lt.mp (fun q => n_4_ (Or.inr (Or.inl q))), Int32.not_lt.mp n_3_, Int32.not_lt.mp (fun q => n_4_ (Or.inr (Or.inr q)))⟩
theorem tf_feA {U : Vt} {ng nt : Nat} {rc ys ls : Nat → Int32} {G : Fs} (h : feM U ng nt rc ys ls G) {z : Int32} (hz : (0 ≤ z ∧ z ≤ 4) ∨ (10 ≤ z ∧ z ≤ 13)) (h_1_ : ¬ z = 1) : tfM U ng G.2.1 z = feA G ng z := by
  unfold tfM feA
  by_cases h_10_ : 10 ≤ z
  · have n_0_ : ¬ z = 0 := fun e => absurd (e ▸ h_10_) (by decide)
    have n_2_ : ¬ z = 2 := fun e => absurd (e ▸ h_10_) (by decide)
    have n_3_ : ¬ z = 3 := fun e => absurd (e ▸ h_10_) (by decide)
    have n_4_ : ¬ z = 4 := fun e => absurd (e ▸ h_10_) (by decide)
    rw [if_pos h_10_, if_neg n_0_, if_neg n_2_, if_neg n_3_, if_neg n_4_]
    by_cases q : ¬ z - 10 < 0 ∧ z - 10 < nI ng
    · have h_4_ := h.1.2.2.1
      obtain ⟨j, hj, ej⟩ : ∃ j : Nat, j < ng ∧ z - 10 = nI j := by
        rcases pk_ix (z - 10) (n := ng) (by omega) with q1 | q1 | q1
        · exact absurd q1 q.1
        · exact absurd q.2 (Int32.not_lt.mpr q1)
        · exact q1
      rw [if_pos q, if_pos q, ej, nI_clamp (by omega)]
      have p := h.1.2.2.2.1 j hj
      exact holI_cong (by omega) (fun i hi => (p.2.2.2.2 i hi).1) (fun i hi => (p.2.2.2.2 i hi).2)
    · rw [if_neg q, if_neg q]
  · have hz4 := hz.resolve_right (fun q => h_10_ q.1)
    rw [if_neg h_10_]
    by_cases z0 : z = 0
    · rw [if_pos z0, if_pos z0]
    · rw [if_neg z0, if_neg z0]
      by_cases z2 : z = 2
      · rw [if_pos z2, if_pos z2]; exact h.2.1
      · rw [if_neg z2, if_neg z2]
        by_cases z3 : z = 3
        · rw [if_pos z3, if_pos z3]; exact h.2.2
        · rw [if_neg z3, if_neg z3]
          have z4 : z = 4 := by
            have a1 := (Int32.le_iff_toInt_le).mp hz4.1
            have a2 := (Int32.le_iff_toInt_le).mp hz4.2
            have t0 : (0 : Int32).toInt = 0 := by decide
            have t1 : (1 : Int32).toInt = 1 := by decide
            have t2 : (2 : Int32).toInt = 2 := by decide
            have t3 : (3 : Int32).toInt = 3 := by decide
            have t4 : (4 : Int32).toInt = 4 := by decide
            rw [← Int32.toInt_inj] at z0 z2 z3 h_1_ ⊢
            omega
          rw [if_pos z4]; exact h.1.1
