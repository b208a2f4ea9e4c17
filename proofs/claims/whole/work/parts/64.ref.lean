theorem mvl_st {P : Nat → Nat → Prop} {ng nt t k : Nat} {f : Nat → Nat} (ht : t < nt) : mvl P ng nt f (nt - t) k ↔ ((f t < ng → P t (f t) ∧ k.testBit (f t) = false ∧ mvl P ng nt f (nt - (t + 1)) (k ||| 2 ^ f t)) ∧ (¬ f t < ng → mvl P ng nt f (nt - (t + 1)) k)) := by
  rw [show nt - t = nt - (t + 1) + 1 by omega, mvl, show nt - 1 - (nt - (t + 1)) = t by omega]
/-- whom each wins, as the reference has it -/
def pwM (V : Vt) (rr : Nat → Nat) (t g : Nat) : Prop := hdM V rr t g (rchM (V 6 t) (V 7 t))
theorem pwM_sc {V V2 : Vt} {ng : Nat} {rr : Nat → Nat} (h : scE ng rr V V2) {t g : Nat} (hg : g < ng) : pwM V2 rr t g ↔ pwM V rr t g := by
  unfold pwM
  rw [h.row (a := 6) (by omega), h.row (a := 7) (by omega)]
  exact hdM_sc h hg t _
/-- all stays but the row, and rings that don't lie -/
def frR (ng : Nat) (rr : Nat → Nat) (V V2 : Vt) : Prop := scE ng rr V V2 ∧ ∀ a j, a ≠ 9 → a ≠ 10 → a ≠ 16 → V2 a j = V a j
theorem frR.rf {ng : Nat} {rr : Nat → Nat} {V : Vt} : frR ng rr V V := ⟨scE.rf, fun _ _ _ _ _ => rfl⟩
theorem frR.up {ng i : Nat} {rr : Nat → Nat} {V V2 : Vt} {x : Int32} (h : frR ng rr V V2) : frR ng rr V (up2 V2 16 i x) := ⟨h.1.tr (scE.up (by omega)), fun a j p q r => by rw [up2_k _ _ r]; exact h.2 a j p q r⟩
theorem frR.had {ng g : Nat} {rr : Nat → Nat} {V V2 V3 : Vt} {x y : Int32} (h : frR ng rr V V2) (hr8 : ∀ q, q < ng → rr q ≤ 8) (hg : g < ng) (e : V3 = if rr g < 8 then up2 (up2 V2 9 (8 * g + rr g) x) 10 (8 * g + rr g) y else V2) : frR ng rr V V3 ∧ V3 16 = V2 16 := by
  have k : ∀ a, a ≠ 9 → a ≠ 10 → V3 a = V2 a := by
    intro a p q
    rw [e]
    split
    · rw [up2_k _ _ q, up2_k _ _ p]
    · rfl
  exact ⟨⟨h.1.tr (sc_had hr8 hg e), fun a j p q r => by rw [k a p q]; exact h.2 a j p q r⟩, k 16 (by decide) (by decide)⟩
theorem zdn {z : Int32} {nt m : Nat} (hz : z = nI (nt - m) - 1) (h : m < nt) : z = nI (nt - 1 - m) := by rw [hz, show nt - m = nt - 1 - m + 1 by omega, nI_pred]
theorem zdn0 {z : Int32} {nt m : Nat} (hz : z = nI (nt - m) - 1) (hc : z < 0) (hm : m ≤ nt) (h_5_ : nt ≤ 5) : m = nt := Classical.byContradiction fun q => absurd hc (by rw [zdn hz (by omega)]; exact nI_pos (by omega))
theorem zdn1 {z : Int32} {nt m : Nat} (hz : z = nI (nt - m) - 1) (hc : ¬ z < 0) (hm : m ≤ nt) : m < nt := Classical.byContradiction fun q => hc (by rw [hz, show nt - m = 0 by omega]; decide)
theorem ne0n {x : Int32} {a : Nat} (h : x = nI a) (ha : a < 100) : ¬ x + 1 = 0 := by
  rw [h, nI_1]
  exact fun q => absurd (nI_inj (a := a + 1) (b := 0) (by omega) (by omega) q) (by omega)
theorem dgdiv {rs y : Int32} {N ng m : Nat} (hN : N < 4000) (ng4 : ng ≤ 4) (hy : y = nI ng) (hrs : rs = nI (N / (ng + 1) ^ m)) : rs / (y + 1) = nI (N / (ng + 1) ^ (m + 1)) := by
  have b : N / (ng + 1) ^ m ≤ N := Nat.div_le_self _ _
  rw [hy, nI_1, hrs, pk_div (by omega) (by omega) (by omega), Nat.div_div_eq_div_mul, Nat.pow_succ]
theorem dgst {Vi V1 : Vt} {N ng nt m : Nat} {rs y : Int32} (hN : N < 4000) (ng4 : ng ≤ 4) (hlt : m < nt) (hy : y = nI ng) (hrs : rs = nI (N / (ng + 1) ^ m)) (hd : ∀ t, nt - m ≤ t → t < nt → Vi 16 t = nI (mdg (ng + 1) nt N t)) (e : V1 = up2 Vi 16 (nt - 1 - m) (rs - rs / (y + 1) * (y + 1))) : ∀ t, nt - (m + 1) ≤ t → t < nt → V1 16 t = nI (mdg (ng + 1) nt N t) := by
  intro t h_1_ h_2_
  have b : N / (ng + 1) ^ m ≤ N := Nat.div_le_self _ _
  rw [e]
  by_cases q : t = nt - 1 - m
  · rw [q, up2_s, hy, nI_1, hrs, pk_rem (by omega) (by omega) (by omega)]
    unfold mdg
    rw [show nt - 1 - (nt - 1 - m) = m by omega]
  · rw [up2_i _ _ q]
    exact hd t (by omega) h_2_
abbrev rm_X12_isRow : Room := { frames := 4, cells := 0, slots := 0, locals := 92 }
set_option maxHeartbeats 4000000 in
set_option maxRecDepth 100000 in
theorem k_X12_isRow (l : Launch) (ad : Nat → Nat) (V : Vt) (z0 : Int32) (N : Nat) (e0 : z0 = nI N) (hN : N < 4000) (ng : Nat) (rr : Nat → Nat) (nt c_0_ : Nat) (hM : MI V ng rr nt c_0_)  : Ct l yX12_isRow cX12_isRow 5 (some .boolean) rm_X12_isRow (mS ad) V [.ref (ad (0)), .int (z0)] (rI fun x V2 => frR ng rr V V2 ∧ (∀ t, t < nt → V2 16 t = nI (mdg (ng + 1) nt N t)) ∧ ((x = 1 ∧ mvl (pwM V rr) ng nt (mdg (ng + 1) nt N) nt 0) ∨ (x = 0 ∧ ¬ mvl (pwM V rr) ng nt (mdg (ng + 1) nt N) nt 0))) := by
  subst e0
  refine Ct_of (by decide) (Nat.le_of_ble_eq_true rfl) ?_
  intro p e s m below meth c A D cy ls C hl
  have hl : lv_has ls 5 [(0, .ref (ad (0))), (1, .int (nI N))] := hl
  have ng4 := hM.2.1
  have nt5 := hM.2.2.2.1
  refine j_iload_n C dX12_isRow_0 rfl (lv_at hl 1 rfl) ?_
  refine j_istore_n (lv2 := [(2, .int (nI N)), (0, .ref (ad (0))), (1, .int (nI N))]) C dX12_isRow_1 rfl hl (by decide) rfl (fun ls hl => ?_)
  refine j_aload_n C dX12_isRow_2 rfl (lv_at hl 1 rfl) ?_
  refine j_getI (k := 0) C (f_RX12_92_12) (ml (by decide)) (rfl) dX12_isRow_3 ?_
  refine j_iconst (v := 1) C dX12_isRow_6 (by decide) ?_
  refine j_isub C dX12_isRow_7 ?_
  refine j_istore_n (lv2 := [(3, .int ((V 0 7) - 1)), (2, .int (nI N)), (0, .ref (ad (0))), (1, .int (nI N))]) C dX12_isRow_8 rfl hl (by decide) rfl (fun ls hl => ?_)
  have loop : ∀ (n_9_ : Nat) (m7 : Nat) (rs : Int32) (z : Int32) (Vi : Vt), m7 ≤ nt → rs = nI (N / (ng + 1) ^ m7) → z = nI (nt - m7) - 1 → frR ng rr V Vi → (∀ t, nt - m7 ≤ t → t < nt → Vi 16 t = nI (mdg (ng + 1) nt N t)) → nt - m7 < n_9_ → ∀ (ls : Array Slot), lv_has ls 5 [(0, .ref (ad (0))), (2, .int (rs)), (3, .int (z))] → J p l e rm_X12_isRow s m [.ref (ad (0)), .int (nI N)].toArray below meth c A D cy 0 0 (MQ below (gPost D cy A (fun o9 σ2 V2 => σ2 = mS ad ∧ (rI fun x V2 => frR ng rr V V2 ∧ (∀ t, t < nt → V2 16 t = nI (mdg (ng + 1) nt N t)) ∧ ((x = 1 ∧ mvl (pwM V rr) ng nt (mdg (ng + 1) nt N) nt 0) ∨ (x = 0 ∧ ¬ mvl (pwM V rr) ng nt (mdg (ng + 1) nt N) nt 0))) o9 V2)) [.ref (ad (0)), .int (nI N)].toArray s 0 0 A) (mS ad) Vi (F0 m 9 ls []) := by
    intro n_9_
    induction n_9_ with
    | zero =>
      intro m7 rs z Vi hi hrs hz hf hd hm
      exact absurd hm (by omega)
    | succ n_9_ ih_loop =>
      intro m7 rs z Vi hi hrs hz hf hd hm ls hl
      refine j_iload_n C dX12_isRow_9 rfl (lv_at hl 2 rfl) ?_
      refine j_if_lt (tgt := 42) C dX12_isRow_10 (by decide) (fun c_1_ => ?_) (fun c_1_ => ?_)
      · have n_1_ := Int32.not_le.mpr c_1_
        have em9 := zdn0 hz c_1_ hi nt5
        refine j_iconst (v := 0) C dX12_isRow_42 (by decide) ?_
        refine j_istore_n (lv2 := [(3, .int (0)), (0, .ref (ad (0))), (2, .int (rs))]) C dX12_isRow_43 rfl hl (by decide) rfl (fun ls hl => ?_)
        refine j_iconst (v := 0) C dX12_isRow_44 (by decide) ?_
        refine j_istore (lv2 := [(4, .int (0)), (3, .int (0)), (0, .ref (ad (0))), (2, .int (rs))]) C dX12_isRow_45 hl (by decide) rfl (fun ls hl => ?_)
        have loop2 : ∀ (n_9_ : Nat) (t : Nat) (k : Nat) (us : Int32) (Vj : Vt), t ≤ nt → k < 16 → us = nI k → frR ng rr V Vj → (∀ q, q < nt → Vj 16 q = nI (mdg (ng + 1) nt N q)) → (mvl (pwM V rr) ng nt (mdg (ng + 1) nt N) nt 0 ↔ mvl (pwM V rr) ng nt (mdg (ng + 1) nt N) (nt - t) k) → nt - t < n_9_ → ∀ (ls : Array Slot), lv_has ls 5 [(0, .ref (ad (0))), (3, .int (us)), (4, .int (nI t))] → J p l e rm_X12_isRow s m [.ref (ad (0)), .int (nI N)].toArray below meth c A D cy 0 0 (MQ below (gPost D cy A (fun o9 σ2 V2 => σ2 = mS ad ∧ (rI fun x V2 => frR ng rr V V2 ∧ (∀ t, t < nt → V2 16 t = nI (mdg (ng + 1) nt N t)) ∧ ((x = 1 ∧ mvl (pwM V rr) ng nt (mdg (ng + 1) nt N) nt 0) ∨ (x = 0 ∧ ¬ mvl (pwM V rr) ng nt (mdg (ng + 1) nt N) nt 0))) o9 V2)) [.ref (ad (0)), .int (nI N)].toArray s 0 0 A) (mS ad) Vj (F0 m 47 ls []) := by
          intro n_9_
          induction n_9_ with
          | zero =>
            intro t k us Vj hi2 hk hus hg hd2 hv hm
            exact absurd hm (by omega)
          | succ n_9_ ih_loop2 =>
            intro t k us Vj hi2 hk hus hg hd2 hv hm ls hl
            refine j_iload C dX12_isRow_47 (lv_at hl 2 rfl) ?_
            refine j_aload_n C dX12_isRow_49 rfl (lv_at hl 0 rfl) ?_
            refine j_getI (k := 0) C (f_RX12_92_12) (ml (by decide)) (rfl) dX12_isRow_50 ?_
            refine j_icmp_ge (tgt := 121) C dX12_isRow_53 (by decide) (fun c_2_ => ?_) (fun c_2_ => ?_)
            · have n_2_ := Int32.not_lt.mpr c_2_
              have q2 := cLe (((hg.2 0 7 (by decide) (by decide) (by decide)).trans hM.2.2.1)) (rfl) (by omega) (by omega) c_2_
              refine j_iconst (v := 1) C dX12_isRow_121 (by decide) ?_
              refine j_zret C rfl ⟨rfl, _, rfl, ?_⟩ dX12_isRow_122
              refine ⟨hg, hd2, Or.inl ⟨rfl, hv.mpr ?_⟩⟩
              rw [show nt - t = 0 by omega]
              trivial
            · have n_2_ := Int32.not_le.mp c_2_
              have q2 := cNe (((hg.2 0 7 (by decide) (by decide) (by decide)).trans hM.2.2.1)) (rfl) (by omega) (by omega) c_2_
              have hlt2 : t < nt := by omega
              obtain ⟨g9, eg9⟩ : ∃ g9, g9 = mdg (ng + 1) nt N t := ⟨_, rfl⟩
              have hg9 : g9 < ng + 1 := by rw [eg9]; exact Nat.mod_lt _ (by omega)
              have er9 : Vj 16 t = nI g9 := by rw [eg9]; exact hd2 t hlt2
              have hst9 := mvl_st (P := pwM V rr) (ng := ng) (f := mdg (ng + 1) nt N) (k := k) hlt2
              rw [← eg9] at hst9
              refine j_aload_n C dX12_isRow_56 rfl (lv_at hl 0 rfl) ?_
              refine j_getR (k := 0) (k2 := 16) C (f_RX12_55_12) (ml (by decide)) (rfl) (rfl) dX12_isRow_57 ?_
              refine j_iload C dX12_isRow_60 (lv_at hl 2 rfl) ?_
              refine j_ialdE (k := 16) (n := 5) (t := t) C (ml (by decide)) (rfl) (rfl) (rfl) (by omega) (by decide) dX12_isRow_62 ?_
              refine j_aload_n C dX12_isRow_63 rfl (lv_at hl 0 rfl) ?_
              refine j_getI (k := 0) C (f_RX12_89_12) (ml (by decide)) (rfl) dX12_isRow_64 ?_
              refine j_icmp_ge (tgt := 115) C dX12_isRow_67 (by decide) (fun c_3_ => ?_) (fun c_3_ => ?_)
              · have n_3_ := Int32.not_lt.mpr c_3_
                have q3 := cLe (((hg.2 0 6 (by decide) (by decide) (by decide)).trans hM.1)) (er9) (by omega) (by omega) c_3_
                refine j_iinc (v := nI (t + 1)) (lv2 := [(4, .int (nI (t + 1))), (0, .ref (ad (0))), (3, .int (us))]) C dX12_isRow_115 hl (k0 := 2) rfl (nI_1 _) (by decide) rfl (fun ls hl => ?_)
                refine j_goto (tgt := 47) C dX12_isRow_118 (by decide) ?_
                exact ih_loop2 (t + 1) k us Vj (by omega) hk hus hg hd2 (hv.trans (hst9.trans ⟨fun z => z.2 (by omega), fun z => ⟨fun y => absurd y (by omega), fun _ => z⟩⟩)) (by omega) ls (lv_sub hl [1, 2, 0] rfl)
              · have n_3_ := Int32.not_le.mp c_3_
                have q3 := cNe (((hg.2 0 6 (by decide) (by decide) (by decide)).trans hM.1)) (er9) (by omega) (by omega) c_3_
                have hgn9 : g9 < ng := by omega
                refine j_iload_n C dX12_isRow_70 rfl (lv_at hl 1 rfl) ?_
                refine j_aload_n C dX12_isRow_71 rfl (lv_at hl 0 rfl) ?_
                refine j_getR (k := 0) (k2 := 16) C (f_RX12_55_12) (ml (by decide)) (rfl) (rfl) dX12_isRow_72 ?_
                refine j_iload C dX12_isRow_75 (lv_at hl 2 rfl) ?_
                refine j_ialdE (k := 16) (n := 5) (t := t) C (ml (by decide)) (rfl) (rfl) (rfl) (by omega) (by decide) dX12_isRow_77 ?_
                refine j_ishr C dX12_isRow_78 ?_
                refine j_iconst (v := 1) C dX12_isRow_79 (by decide) ?_
                refine j_iand C dX12_isRow_80 ?_
                refine j_iconst (v := 1) C dX12_isRow_81 (by decide) ?_
                refine j_icmp_eq (tgt := 101) C dX12_isRow_82 (by decide) (fun c_4_ => ?_) (fun c_4_ => ?_)
                · skip
                  have tb9 : k.testBit g9 = true := (bitI5 hk (by omega)).mp (by rw [← hus, ← er9]; exact c_4_)
                  refine j_iconst (v := 0) C dX12_isRow_101 (by decide) ?_
                  refine j_zret C rfl ⟨rfl, _, rfl, ?_⟩ dX12_isRow_102
                  refine ⟨hg, hd2, Or.inr ⟨rfl, fun q => ?_⟩⟩
                  have q2 := (hst9.mp (hv.mp q)).1 hgn9
                  exact absurd (tb9.symm.trans q2.2.1) (by decide)
                · skip
                  have tb9 : k.testBit g9 = false := tb_f (fun q => c_4_ (by rw [hus, er9]; exact (bitI5 hk (by omega)).mpr q))
                  refine j_aload_n C dX12_isRow_85 rfl (lv_at hl 0 rfl) ?_
                  refine j_iload C dX12_isRow_86 (lv_at hl 2 rfl) ?_
                  refine j_aload_n C dX12_isRow_88 rfl (lv_at hl 0 rfl) ?_
                  refine j_getR (k := 0) (k2 := 16) C (f_RX12_55_12) (ml (by decide)) (rfl) (rfl) dX12_isRow_89 ?_
                  refine j_iload C dX12_isRow_92 (lv_at hl 2 rfl) ?_
                  refine j_ialdE (k := 16) (n := 5) (t := t) C (ml (by decide)) (rfl) (rfl) (rfl) (by omega) (by decide) dX12_isRow_94 ?_
                  refine j_callV (k := 0) C [.int (nI t), .int (Vj 16 t)] [] (k_X12_winsHer l ad Vj (nI t) (Vj 16 t) t (rfl) (by omega) g9 (er9) (by omega) (rr g9) ((MI_sc hg.1 hM).2.2.2.2.1 g9 hgn9).1 (hM.2.2.2.2.1 g9 hgn9).2) v_RX12_216 (ml (by decide)) (rfl) rfl ⟨rfl, rfl, Nat.le_of_ble_eq_true rfl, Nat.le_of_ble_eq_true rfl⟩ rfl hl.1 rfl (Nat.le_of_ble_eq_true rfl) ⟨Nat.le_of_ble_eq_true rfl, Nat.le_of_ble_eq_true rfl⟩ dX12_isRow_95 (kI fun x_5_ U5 h_5_ => ?_)
                  obtain ⟨eU5, h_5_⟩ := h_5_
                  have hd9 : x_5_ = 0 ↔ ¬ pwM V rr t g9 := by
                    unfold pwM
                    rw [h_5_, bI_0, ← hdM_sc hg.1 hgn9]
                    unfold hdM nrM
                    rw [hg.1.row (a := 6) (by omega), hg.1.row (a := 7) (by omega)]
                  obtain ⟨hg2, r16⟩ := hg.had (fun q hq => (hM.2.2.2.2.1 q hq).2) hgn9 eU5
                  refine j_if_ne (tgt := 103) C dX12_isRow_98 (by decide) (fun c_6_ => ?_) (fun c_6_ => ?_)
                  · skip
                    refine j_iload_n C dX12_isRow_103 rfl (lv_at hl 1 rfl) ?_
                    refine j_iconst (v := 1) C dX12_isRow_104 (by decide) ?_
                    refine j_aload_n C dX12_isRow_105 rfl (lv_at hl 0 rfl) ?_
                    refine j_getR (k := 0) (k2 := 16) C (f_RX12_55_12) (ml (by decide)) (rfl) (rfl) dX12_isRow_106 ?_
                    refine j_iload C dX12_isRow_109 (lv_at hl 2 rfl) ?_
                    refine j_ialdE (k := 16) (n := 5) (t := t) C (ml (by decide)) (rfl) (rfl) (rfl) (by omega) (by decide) dX12_isRow_111 ?_
                    refine j_ishl C dX12_isRow_112 ?_
                    refine j_ior C dX12_isRow_113 ?_
                    refine j_istore_n (lv2 := [(3, .int (us ||| (1 <<< ((U5 16 t) &&& 31)))), (0, .ref (ad (0))), (4, .int (nI t))]) C dX12_isRow_114 rfl hl (by decide) rfl (fun ls hl => ?_)
                    refine j_iinc (v := nI (t + 1)) (lv2 := [(4, .int (nI (t + 1))), (3, .int (us ||| (1 <<< ((U5 16 t) &&& 31)))), (0, .ref (ad (0)))]) C dX12_isRow_115 hl (k0 := 2) rfl (nI_1 _) (by decide) rfl (fun ls hl => ?_)
                    refine j_goto (tgt := 47) C dX12_isRow_118 (by decide) ?_
                    exact ih_loop2 (t + 1) (k ||| 2 ^ g9) (us ||| (1 <<< ((U5 16 t) &&& 31))) U5 (by omega) (or16 hk (by omega)) (by rw [hus, r16, er9, sh1 (by omega), orI]) hg2 (fun q h => by rw [r16]; exact hd2 q h) (hv.trans (hst9.trans ⟨fun z => (z.1 hgn9).2.2, fun z => ⟨fun _ => ⟨Classical.not_not.mp (mt hd9.mpr c_6_), tb9, z⟩, fun y => absurd hgn9 y⟩⟩)) (by omega) ls (lv_sub hl [2, 1, 0] rfl)
                  · skip
                    refine j_iconst (v := 0) C dX12_isRow_101 (by decide) ?_
                    refine j_zret C rfl ⟨rfl, _, rfl, ?_⟩ dX12_isRow_102
                    refine ⟨hg2, fun q hq => by rw [r16]; exact hd2 q hq, Or.inr ⟨rfl, fun q => ?_⟩⟩
                    have q2 := (hst9.mp (hv.mp q)).1 hgn9
                    exact hd9.mp c_6_ q2.1
        exact loop2 (nt + 1) 0 0 0 Vi (by omega) (by omega) rfl hf (fun q h => hd q (by omega) h) Iff.rfl (by omega) ls (lv_sub hl [2, 1, 0] rfl)
      · have n_1_ := Int32.not_lt.mp c_1_
        have hlt := zdn1 hz c_1_ hi
        have ez9 := zdn hz hlt
        have hv6 : Vi 0 6 = nI ng := ((hf.2 0 6 (by decide) (by decide) (by decide)).trans hM.1)
        refine j_aload_n C dX12_isRow_13 rfl (lv_at hl 0 rfl) ?_
        refine j_getR (k := 0) (k2 := 16) C (f_RX12_55_12) (ml (by decide)) (rfl) (rfl) dX12_isRow_14 ?_
        refine j_iload_n C dX12_isRow_17 rfl (lv_at hl 2 rfl) ?_
        refine j_iload_n C dX12_isRow_18 rfl (lv_at hl 1 rfl) ?_
        refine j_aload_n C dX12_isRow_19 rfl (lv_at hl 0 rfl) ?_
        refine j_getI (k := 0) C (f_RX12_89_12) (ml (by decide)) (rfl) dX12_isRow_20 ?_
        refine j_iconst (v := 1) C dX12_isRow_23 (by decide) ?_
        refine j_iadd C dX12_isRow_24 ?_
        refine j_irem C dX12_isRow_25 (ne0n hv6 (by omega)) ?_
        refine j_iastE (k := 16) (n := 5) (t := nt - 1 - m7) C (ml (by decide)) (rfl) (rfl) (ez9) (by omega) (by decide) dX12_isRow_26 (fun V1 eV1 => ?_)
        have hv7 : V1 0 6 = nI ng := by rw [eV1, up2_k _ _ (by decide)]; exact hv6
        refine j_iload_n C dX12_isRow_27 rfl (lv_at hl 1 rfl) ?_
        refine j_aload_n C dX12_isRow_28 rfl (lv_at hl 0 rfl) ?_
        refine j_getI (k := 0) C (f_RX12_89_12) (ml (by decide)) (rfl) dX12_isRow_29 ?_
        refine j_iconst (v := 1) C dX12_isRow_32 (by decide) ?_
        refine j_iadd C dX12_isRow_33 ?_
        refine j_idiv C dX12_isRow_34 (ne0n hv7 (by omega)) ?_
        refine j_istore_n (lv2 := [(2, .int (rs / ((V1 0 6) + 1))), (0, .ref (ad (0))), (3, .int (z))]) C dX12_isRow_35 rfl hl (by decide) rfl (fun ls hl => ?_)
        refine j_iinc (v := z + (-1)) (lv2 := [(3, .int (z + (-1))), (2, .int (rs / ((V1 0 6) + 1))), (0, .ref (ad (0)))]) C dX12_isRow_36 hl (k0 := 2) rfl rfl (by decide) rfl (fun ls hl => ?_)
        refine j_goto (tgt := 9) C dX12_isRow_39 (by decide) ?_
        exact ih_loop (m7 + 1) (rs / ((V1 0 6) + 1)) (z + (-1)) V1 (by omega) (dgdiv hN ng4 hv7 hrs) (by rw [ez9, show nt - (m7 + 1) = nt - 1 - m7 by omega, Int32.sub_eq_add_neg]) (by rw [eV1]; exact hf.up) (dgst hN ng4 hlt hv6 hrs hd eV1) (by omega) ls (lv_sub hl [2, 1, 0] rfl)
  exact loop (nt + 1) 0 (nI N) ((V 0 7) - 1) V (by omega) (by rw [Nat.pow_zero, Nat.div_one]) (by rw [hM.2.2.1, Nat.sub_zero]) frR.rf (fun t a b => absurd a (by omega)) (by omega) ls (lv_sub hl [2, 1, 0] rfl)
/-- how many girls, and measures together -/
abbrev mct (ng nt : Nat) (f : Nat → Nat) : Nat := cntI (fun t => f t < ng) nt
abbrev msm (nn : Nat → Nat → Nat) (ng nt : Nat) (f : Nat → Nat) : Nat := sumN (fun t => if f t < ng then nn t (f t) else 0) nt
/-- the row is the best now: p of its cells are kept -/
def tbM (V : Vt) (mn sm : Int32) (p : Nat) (V2 : Vt) : Prop := (∀ a j, a ≠ 17 → ¬ (a = 0 ∧ (j = 29 ∨ j = 30)) → V2 a j = V a j) ∧ V2 0 29 = mn ∧ V2 0 30 = sm ∧ ∀ q, q < p → V2 17 q = V 16 q
theorem tbM_0 {V : Vt} {mn sm : Int32} : tbM V mn sm 0 (up2 (up2 V 0 29 mn) 0 30 sm) := by
  refine ⟨fun a j p q => ?_, ?_, up2_s .., fun q h => absurd h (by omega)⟩
  · unfold up2
    rw [if_neg (fun z => q ⟨z.1, Or.inr z.2⟩), if_neg (fun z => q ⟨z.1, Or.inl z.2⟩)]
  · rw [up2_i _ _ (by decide), up2_s]
theorem tbM_s {V Vi : Vt} {mn sm : Int32} {p : Nat} (h : tbM V mn sm p Vi) : tbM V mn sm (p + 1) (up2 Vi 17 p (Vi 16 p)) := by
  refine ⟨fun a j r q => by rw [up2_k _ _ r]; exact h.1 a j r q, by rw [up2_k _ _ (by decide)]; exact h.2.1, by rw [up2_k _ _ (by decide)]; exact h.2.2.1, fun q hq => ?_⟩
  by_cases e : q = p
  · rw [e, up2_s]; exact h.1 16 p (by decide) (by omega)
  · rw [up2_i _ _ e]; exact h.2.2.2 q (by omega)
/-- the row is better than the best so far -/
def bbM (V : Vt) (c s : Nat) : Prop := V 0 29 < nI c ∨ (nI c = V 0 29 ∧ nI s < V 0 30)
abbrev rm_X12_tryRow : Room := { frames := 2, cells := 0, slots := 0, locals := 45 }
set_option maxHeartbeats 4000000 in
set_option maxRecDepth 100000 in
theorem k_X12_tryRow (l : Launch) (ad : Nat → Nat) (V : Vt) (ng : Nat) (rr : Nat → Nat) (nt c_0_ : Nat) (hM : MI V ng rr nt c_0_) (f : Nat → Nat) (hf : ∀ t, t < nt → V 16 t = nI (f t) ∧ f t ≤ ng) (nn : Nat → Nat → Nat) (hn : ∀ t g, t < nt → g < ng → nrM V t g = nI (nn t g) ∧ nn t g ≤ 20)  : Ct l yX12_tryRow cX12_tryRow 4 none rm_X12_tryRow (mS ad) V [.ref (ad (0))] (rU fun V2 => (bbM V (mct ng nt f) (msm nn ng nt f) ∧ tbM V (nI (mct ng nt f)) (nI (msm nn ng nt f)) nt V2) ∨ (¬ bbM V (mct ng nt f) (msm nn ng nt f) ∧ V2 = V)) := by
  refine Ct_of (by decide) (Nat.le_of_ble_eq_true rfl) ?_
  intro p e s m below meth c A D cy ls C hl
  have hl : lv_has ls 4 [(0, .ref (ad (0)))] := hl
  have ng4 := hM.2.1
  have nt5 := hM.2.2.2.1
  refine j_iconst (v := 0) C dX12_tryRow_0 (by decide) ?_
  refine j_istore_n (lv2 := [(1, .int (0)), (0, .ref (ad (0)))]) C dX12_tryRow_1 rfl hl (by decide) rfl (fun ls hl => ?_)
  refine j_iconst (v := 0) C dX12_tryRow_2 (by decide) ?_
  refine j_istore_n (lv2 := [(2, .int (0)), (1, .int (0)), (0, .ref (ad (0)))]) C dX12_tryRow_3 rfl hl (by decide) rfl (fun ls hl => ?_)
  refine j_iconst (v := 0) C dX12_tryRow_4 (by decide) ?_
  refine j_istore_n (lv2 := [(3, .int (0)), (2, .int (0)), (1, .int (0)), (0, .ref (ad (0)))]) C dX12_tryRow_5 rfl hl (by decide) rfl (fun ls hl => ?_)
  have loop : ∀ (n_9_ : Nat) (t : Nat) (mn : Int32) (sm : Int32), t ≤ nt → mn = nI (cntI (fun t => f t < ng) t) → sm = nI (sumN (fun t => if f t < ng then nn t (f t) else 0) t) → nt - t < n_9_ → ∀ (ls : Array Slot), lv_has ls 4 [(0, .ref (ad (0))), (1, .int (mn)), (2, .int (sm)), (3, .int (nI t))] → J p l e rm_X12_tryRow s m [.ref (ad (0))].toArray below meth c A D cy 0 0 (MQ below (gPost D cy A (fun o9 σ2 V2 => σ2 = mS ad ∧ (rU fun V2 => (bbM V (mct ng nt f) (msm nn ng nt f) ∧ tbM V (nI (mct ng nt f)) (nI (msm nn ng nt f)) nt V2) ∨ (¬ bbM V (mct ng nt f) (msm nn ng nt f) ∧ V2 = V)) o9 V2)) [.ref (ad (0))].toArray s 0 0 A) (mS ad) V (F0 m 6 ls []) := by
    intro n_9_
    induction n_9_ with
    | zero =>
      intro t mn sm hi hmn hsm hm
      exact absurd hm (by omega)
    | succ n_9_ ih_loop =>
      intro t mn sm hi hmn hsm hm ls hl
      refine j_iload_n C dX12_tryRow_6 rfl (lv_at hl 3 rfl) ?_
      refine j_aload_n C dX12_tryRow_7 rfl (lv_at hl 0 rfl) ?_
      refine j_getI (k := 0) C (f_RX12_92_12) (ml (by decide)) (rfl) dX12_tryRow_8 ?_
      refine j_icmp_ge (tgt := 72) C dX12_tryRow_11 (by decide) (fun c_1_ => ?_) (fun c_1_ => ?_)
      · have n_1_ := Int32.not_lt.mpr c_1_
        have q1 := cLe (hM.2.2.1) (rfl) (by omega) (by omega) c_1_
        have e9 : t = nt := by omega
        rw [e9] at hmn hsm
        refine j_iload_n C dX12_tryRow_72 rfl (lv_at hl 1 rfl) ?_
        refine j_aload_n C dX12_tryRow_73 rfl (lv_at hl 0 rfl) ?_
        refine j_getI (k := 0) C (f_RX12_219_12) (ml (by decide)) (rfl) dX12_tryRow_74 ?_
        refine j_icmp_gt (tgt := 96) C dX12_tryRow_77 (by decide) (fun c_2_ => ?_) (fun c_2_ => ?_)
        · have n_2_ := Int32.not_le.mpr c_2_
          refine j_aload_n C dX12_tryRow_96 rfl (lv_at hl 0 rfl) ?_
          refine j_iload_n C dX12_tryRow_97 rfl (lv_at hl 1 rfl) ?_
          refine j_putI (k := 0) C (f_RX12_219_12) p_12_29 (ml (by decide)) (rfl) dX12_tryRow_98 (fun V1 eV1 => ?_)
          refine j_aload_n C dX12_tryRow_101 rfl (lv_at hl 0 rfl) ?_
          refine j_iload_n C dX12_tryRow_102 rfl (lv_at hl 2 rfl) ?_
          refine j_putI (k := 0) C (f_RX12_222_12) p_12_30 (ml (by decide)) (rfl) dX12_tryRow_103 (fun V2 eV2 => ?_)
          refine j_iconst (v := 0) C dX12_tryRow_106 (by decide) ?_
          refine j_istore_n (lv2 := [(3, .int (0)), (0, .ref (ad (0))), (1, .int (mn)), (2, .int (sm))]) C dX12_tryRow_107 rfl hl (by decide) rfl (fun ls hl => ?_)
          have loop2 : ∀ (n_9_ : Nat) (p8 : Nat) (Vi : Vt), p8 ≤ nt → tbM V mn sm p8 Vi → nt - p8 < n_9_ → ∀ (ls : Array Slot), lv_has ls 4 [(0, .ref (ad (0))), (3, .int (nI p8))] → J p l e rm_X12_tryRow s m [.ref (ad (0))].toArray below meth c A D cy 0 0 (MQ below (gPost D cy A (fun o9 σ2 V2 => σ2 = mS ad ∧ (rU fun V2 => (bbM V (mct ng nt f) (msm nn ng nt f) ∧ tbM V (nI (mct ng nt f)) (nI (msm nn ng nt f)) nt V2) ∨ (¬ bbM V (mct ng nt f) (msm nn ng nt f) ∧ V2 = V)) o9 V2)) [.ref (ad (0))].toArray s 0 0 A) (mS ad) Vi (F0 m 108 ls []) := by
            intro n_9_
            induction n_9_ with
            | zero =>
              intro p8 Vi hi2 hT hm
              exact absurd hm (by omega)
            | succ n_9_ ih_loop2 =>
              intro p8 Vi hi2 hT hm ls hl
              refine j_iload_n C dX12_tryRow_108 rfl (lv_at hl 1 rfl) ?_
              refine j_aload_n C dX12_tryRow_109 rfl (lv_at hl 0 rfl) ?_
              refine j_getI (k := 0) C (f_RX12_92_12) (ml (by decide)) (rfl) dX12_tryRow_110 ?_
              refine j_icmp_ge (tgt := 134) C dX12_tryRow_113 (by decide) (fun c_3_ => ?_) (fun c_3_ => ?_)
              · have n_3_ := Int32.not_lt.mpr c_3_
                have q3 := cLe (((hT.1 0 7 (by decide) (by decide)).trans hM.2.2.1)) (rfl) (by omega) (by omega) c_3_
                refine j_vret C ⟨rfl, rfl, ?_⟩ dX12_tryRow_134
                obtain rfl : p8 = nt := by omega
                exact Or.inl ⟨Or.inl (by rw [← hmn]; exact c_2_), hmn ▸ hsm ▸ hT⟩
              · have n_3_ := Int32.not_le.mp c_3_
                have q3 := cNe (((hT.1 0 7 (by decide) (by decide)).trans hM.2.2.1)) (rfl) (by omega) (by omega) c_3_
                have hlt2 : p8 < nt := by omega
                refine j_aload_n C dX12_tryRow_116 rfl (lv_at hl 0 rfl) ?_
                refine j_getR (k := 0) (k2 := 17) C (f_RX12_58_12) (ml (by decide)) (rfl) (rfl) dX12_tryRow_117 ?_
                refine j_iload_n C dX12_tryRow_120 rfl (lv_at hl 1 rfl) ?_
                refine j_aload_n C dX12_tryRow_121 rfl (lv_at hl 0 rfl) ?_
                refine j_getR (k := 0) (k2 := 16) C (f_RX12_55_12) (ml (by decide)) (rfl) (rfl) dX12_tryRow_122 ?_
                refine j_iload_n C dX12_tryRow_125 rfl (lv_at hl 1 rfl) ?_
                refine j_ialdE (k := 16) (n := 5) (t := p8) C (ml (by decide)) (rfl) (rfl) (rfl) (by omega) (by decide) dX12_tryRow_126 ?_
                refine j_iastE (k := 17) (n := 5) (t := p8) C (ml (by decide)) (rfl) (rfl) (rfl) (by omega) (by decide) dX12_tryRow_127 (fun V3 eV3 => ?_)
                refine j_iinc (v := nI (p8 + 1)) (lv2 := [(3, .int (nI (p8 + 1))), (0, .ref (ad (0)))]) C dX12_tryRow_128 hl (k0 := 1) rfl (nI_1 _) (by decide) rfl (fun ls hl => ?_)
                refine j_goto (tgt := 108) C dX12_tryRow_131 (by decide) ?_
                exact ih_loop2 (p8 + 1) V3 (by omega) (by rw [eV3]; exact tbM_s hT) (by omega) ls (lv_sub hl [1, 0] rfl)
          exact loop2 (nt + 1) 0 V2 (by omega) (by rw [eV2, eV1]; exact tbM_0) (by omega) ls (lv_sub hl [1, 0] rfl)
        · have n_2_ := Int32.not_lt.mp c_2_
          refine j_iload_n C dX12_tryRow_80 rfl (lv_at hl 1 rfl) ?_
          refine j_aload_n C dX12_tryRow_81 rfl (lv_at hl 0 rfl) ?_
          refine j_getI (k := 0) C (f_RX12_219_12) (ml (by decide)) (rfl) dX12_tryRow_82 ?_
          refine j_icmp_ne (tgt := 134) C dX12_tryRow_85 (by decide) (fun c_4_ => ?_) (fun c_4_ => ?_)
          · skip
            refine j_vret C ⟨rfl, rfl, ?_⟩ dX12_tryRow_134
            exact Or.inr ⟨fun q => q.elim (fun z => c_2_ (by rw [hmn]; exact z)) (fun z => c_4_ (by rw [hmn]; exact z.1)), rfl⟩
          · skip
            refine j_iload_n C dX12_tryRow_88 rfl (lv_at hl 2 rfl) ?_
            refine j_aload_n C dX12_tryRow_89 rfl (lv_at hl 0 rfl) ?_
            refine j_getI (k := 0) C (f_RX12_222_12) (ml (by decide)) (rfl) dX12_tryRow_90 ?_
            refine j_icmp_ge (tgt := 134) C dX12_tryRow_93 (by decide) (fun c_5_ => ?_) (fun c_5_ => ?_)
            · have n_5_ := Int32.not_lt.mpr c_5_
              refine j_vret C ⟨rfl, rfl, ?_⟩ dX12_tryRow_134
              exact Or.inr ⟨fun q => q.elim (fun z => c_2_ (by rw [hmn]; exact z)) (fun z => absurd z.2 (by rw [← hsm]; exact Int32.not_lt.mpr c_5_)), rfl⟩
            · have n_5_ := Int32.not_le.mp c_5_
              refine j_aload_n C dX12_tryRow_96 rfl (lv_at hl 0 rfl) ?_
              refine j_iload_n C dX12_tryRow_97 rfl (lv_at hl 1 rfl) ?_
              refine j_putI (k := 0) C (f_RX12_219_12) p_12_29 (ml (by decide)) (rfl) dX12_tryRow_98 (fun V4 eV4 => ?_)
              refine j_aload_n C dX12_tryRow_101 rfl (lv_at hl 0 rfl) ?_
              refine j_iload_n C dX12_tryRow_102 rfl (lv_at hl 2 rfl) ?_
              refine j_putI (k := 0) C (f_RX12_222_12) p_12_30 (ml (by decide)) (rfl) dX12_tryRow_103 (fun V5 eV5 => ?_)
              refine j_iconst (v := 0) C dX12_tryRow_106 (by decide) ?_
              refine j_istore_n (lv2 := [(3, .int (0)), (0, .ref (ad (0))), (1, .int (mn)), (2, .int (sm))]) C dX12_tryRow_107 rfl hl (by decide) rfl (fun ls hl => ?_)
              have loop2 : ∀ (n_9_ : Nat) (p8 : Nat) (Vi : Vt), p8 ≤ nt → tbM V mn sm p8 Vi → nt - p8 < n_9_ → ∀ (ls : Array Slot), lv_has ls 4 [(0, .ref (ad (0))), (3, .int (nI p8))] → J p l e rm_X12_tryRow s m [.ref (ad (0))].toArray below meth c A D cy 0 0 (MQ below (gPost D cy A (fun o9 σ2 V2 => σ2 = mS ad ∧ (rU fun V2 => (bbM V (mct ng nt f) (msm nn ng nt f) ∧ tbM V (nI (mct ng nt f)) (nI (msm nn ng nt f)) nt V2) ∨ (¬ bbM V (mct ng nt f) (msm nn ng nt f) ∧ V2 = V)) o9 V2)) [.ref (ad (0))].toArray s 0 0 A) (mS ad) Vi (F0 m 108 ls []) := by
                intro n_9_
                induction n_9_ with
                | zero =>
                  intro p8 Vi hi2 hT hm
                  exact absurd hm (by omega)
                | succ n_9_ ih_loop2 =>
                  intro p8 Vi hi2 hT hm ls hl
                  refine j_iload_n C dX12_tryRow_108 rfl (lv_at hl 1 rfl) ?_
                  refine j_aload_n C dX12_tryRow_109 rfl (lv_at hl 0 rfl) ?_
                  refine j_getI (k := 0) C (f_RX12_92_12) (ml (by decide)) (rfl) dX12_tryRow_110 ?_
                  refine j_icmp_ge (tgt := 134) C dX12_tryRow_113 (by decide) (fun c_6_ => ?_) (fun c_6_ => ?_)
                  · have n_6_ := Int32.not_lt.mpr c_6_
                    have q6 := cLe (((hT.1 0 7 (by decide) (by decide)).trans hM.2.2.1)) (rfl) (by omega) (by omega) c_6_
                    refine j_vret C ⟨rfl, rfl, ?_⟩ dX12_tryRow_134
                    obtain rfl : p8 = nt := by omega
                    exact Or.inl ⟨Or.inr ⟨by rw [← hmn]; exact c_4_, by rw [← hsm]; exact Int32.not_le.mp c_5_⟩, hmn ▸ hsm ▸ hT⟩
                  · have n_6_ := Int32.not_le.mp c_6_
                    have q6 := cNe (((hT.1 0 7 (by decide) (by decide)).trans hM.2.2.1)) (rfl) (by omega) (by omega) c_6_
                    have hlt2 : p8 < nt := by omega
                    refine j_aload_n C dX12_tryRow_116 rfl (lv_at hl 0 rfl) ?_
                    refine j_getR (k := 0) (k2 := 17) C (f_RX12_58_12) (ml (by decide)) (rfl) (rfl) dX12_tryRow_117 ?_
                    refine j_iload_n C dX12_tryRow_120 rfl (lv_at hl 1 rfl) ?_
                    refine j_aload_n C dX12_tryRow_121 rfl (lv_at hl 0 rfl) ?_
                    refine j_getR (k := 0) (k2 := 16) C (f_RX12_55_12) (ml (by decide)) (rfl) (rfl) dX12_tryRow_122 ?_
                    refine j_iload_n C dX12_tryRow_125 rfl (lv_at hl 1 rfl) ?_
                    refine j_ialdE (k := 16) (n := 5) (t := p8) C (ml (by decide)) (rfl) (rfl) (rfl) (by omega) (by decide) dX12_tryRow_126 ?_
                    refine j_iastE (k := 17) (n := 5) (t := p8) C (ml (by decide)) (rfl) (rfl) (rfl) (by omega) (by decide) dX12_tryRow_127 (fun V6 eV6 => ?_)
                    refine j_iinc (v := nI (p8 + 1)) (lv2 := [(3, .int (nI (p8 + 1))), (0, .ref (ad (0)))]) C dX12_tryRow_128 hl (k0 := 1) rfl (nI_1 _) (by decide) rfl (fun ls hl => ?_)
                    refine j_goto (tgt := 108) C dX12_tryRow_131 (by decide) ?_
                    exact ih_loop2 (p8 + 1) V6 (by omega) (by rw [eV6]; exact tbM_s hT) (by omega) ls (lv_sub hl [1, 0] rfl)
              exact loop2 (nt + 1) 0 V5 (by omega) (by rw [eV5, eV4]; exact tbM_0) (by omega) ls (lv_sub hl [1, 0] rfl)
      · have n_1_ := Int32.not_le.mp c_1_
        have q1 := cNe (hM.2.2.1) (rfl) (by omega) (by omega) c_1_
        have hlt : t < nt := by omega
        have hft := (hf t hlt).2
        refine j_iload_n C dX12_tryRow_14 rfl (lv_at hl 1 rfl) ?_
        refine j_aload_n C dX12_tryRow_15 rfl (lv_at hl 0 rfl) ?_
        refine j_getR (k := 0) (k2 := 16) C (f_RX12_55_12) (ml (by decide)) (rfl) (rfl) dX12_tryRow_16 ?_
        refine j_iload_n C dX12_tryRow_19 rfl (lv_at hl 3 rfl) ?_
        refine j_ialdE (k := 16) (n := 5) (t := t) C (ml (by decide)) (rfl) (rfl) (rfl) (by omega) (by decide) dX12_tryRow_20 ?_
        refine j_aload_n C dX12_tryRow_21 rfl (lv_at hl 0 rfl) ?_
        refine j_getI (k := 0) C (f_RX12_89_12) (ml (by decide)) (rfl) dX12_tryRow_22 ?_
        refine j_icmp_ge (tgt := 32) C dX12_tryRow_25 (by decide) (fun c_7_ => ?_) (fun c_7_ => ?_)
        · have n_7_ := Int32.not_lt.mpr c_7_
          have q7 := cLe (hM.1) ((hf t hlt).1) (by omega) (by omega) c_7_
          refine j_iconst (v := 0) C dX12_tryRow_32 (by decide) ?_
          refine j_iadd C dX12_tryRow_33 ?_
          refine j_istore_n (lv2 := [(1, .int (mn + 0)), (0, .ref (ad (0))), (2, .int (sm)), (3, .int (nI t))]) C dX12_tryRow_34 rfl hl (by decide) rfl (fun ls hl => ?_)
          refine j_iload_n C dX12_tryRow_35 rfl (lv_at hl 2 rfl) ?_
          refine j_aload_n C dX12_tryRow_36 rfl (lv_at hl 1 rfl) ?_
          refine j_getR (k := 0) (k2 := 16) C (f_RX12_55_12) (ml (by decide)) (rfl) (rfl) dX12_tryRow_37 ?_
          refine j_iload_n C dX12_tryRow_40 rfl (lv_at hl 3 rfl) ?_
          refine j_ialdE (k := 16) (n := 5) (t := t) C (ml (by decide)) (rfl) (rfl) (rfl) (by omega) (by decide) dX12_tryRow_41 ?_
          refine j_aload_n C dX12_tryRow_42 rfl (lv_at hl 1 rfl) ?_
          refine j_getI (k := 0) C (f_RX12_89_12) (ml (by decide)) (rfl) dX12_tryRow_43 ?_
          refine j_icmp_ge (tgt := 63) C dX12_tryRow_46 (by decide) (fun c_8_ => ?_) (fun c_8_ => ?_)
          · have n_8_ := Int32.not_lt.mpr c_8_
            have q8 := cLe (hM.1) ((hf t hlt).1) (by omega) (by omega) c_8_
            refine j_iconst (v := 0) C dX12_tryRow_63 (by decide) ?_
            refine j_iadd C dX12_tryRow_64 ?_
            refine j_istore_n (lv2 := [(2, .int (sm + 0)), (1, .int (mn + 0)), (0, .ref (ad (0))), (3, .int (nI t))]) C dX12_tryRow_65 rfl hl (by decide) rfl (fun ls hl => ?_)
            refine j_iinc (v := nI (t + 1)) (lv2 := [(3, .int (nI (t + 1))), (2, .int (sm + 0)), (1, .int (mn + 0)), (0, .ref (ad (0)))]) C dX12_tryRow_66 hl (k0 := 3) rfl (nI_1 _) (by decide) rfl (fun ls hl => ?_)
            refine j_goto (tgt := 6) C dX12_tryRow_69 (by decide) ?_
            exact ih_loop (t + 1) (mn + 0) (sm + 0) (by omega) (by rw [cntI, if_neg (show ¬ f t < ng by omega), hmn]; exact Int32.add_zero _) (by rw [sumN, if_neg (show ¬ f t < ng by omega), Nat.add_zero, hsm]; exact Int32.add_zero _) (by omega) ls (lv_sub hl [3, 2, 1, 0] rfl)
          · have n_8_ := Int32.not_le.mp c_8_
            have q8 := cNe (hM.1) ((hf t hlt).1) (by omega) (by omega) c_8_
            exact absurd hlt (by omega)
        · have n_7_ := Int32.not_le.mp c_7_
          have q7 := cNe (hM.1) ((hf t hlt).1) (by omega) (by omega) c_7_
          refine j_iconst (v := 1) C dX12_tryRow_28 (by decide) ?_
          refine j_goto (tgt := 33) C dX12_tryRow_29 (by decide) ?_
          refine j_iadd C dX12_tryRow_33 ?_
          refine j_istore_n (lv2 := [(1, .int (mn + 1)), (0, .ref (ad (0))), (2, .int (sm)), (3, .int (nI t))]) C dX12_tryRow_34 rfl hl (by decide) rfl (fun ls hl => ?_)
          refine j_iload_n C dX12_tryRow_35 rfl (lv_at hl 2 rfl) ?_
          refine j_aload_n C dX12_tryRow_36 rfl (lv_at hl 1 rfl) ?_
          refine j_getR (k := 0) (k2 := 16) C (f_RX12_55_12) (ml (by decide)) (rfl) (rfl) dX12_tryRow_37 ?_
          refine j_iload_n C dX12_tryRow_40 rfl (lv_at hl 3 rfl) ?_
          refine j_ialdE (k := 16) (n := 5) (t := t) C (ml (by decide)) (rfl) (rfl) (rfl) (by omega) (by decide) dX12_tryRow_41 ?_
          refine j_aload_n C dX12_tryRow_42 rfl (lv_at hl 1 rfl) ?_
          refine j_getI (k := 0) C (f_RX12_89_12) (ml (by decide)) (rfl) dX12_tryRow_43 ?_
          refine j_icmp_ge (tgt := 63) C dX12_tryRow_46 (by decide) (fun c_9_ => ?_) (fun c_9_ => ?_)
          · have n_9_ := Int32.not_lt.mpr c_9_
            have q9 := cLe (hM.1) ((hf t hlt).1) (by omega) (by omega) c_9_
            exact absurd hlt (by omega)
          · have n_9_ := Int32.not_le.mp c_9_
            have q9 := cNe (hM.1) ((hf t hlt).1) (by omega) (by omega) c_9_
            refine j_aload_n C dX12_tryRow_49 rfl (lv_at hl 1 rfl) ?_
            refine j_iload_n C dX12_tryRow_50 rfl (lv_at hl 3 rfl) ?_
            refine j_aload_n C dX12_tryRow_51 rfl (lv_at hl 1 rfl) ?_
            refine j_getR (k := 0) (k2 := 16) C (f_RX12_55_12) (ml (by decide)) (rfl) (rfl) dX12_tryRow_52 ?_
            refine j_iload_n C dX12_tryRow_55 rfl (lv_at hl 3 rfl) ?_
            refine j_ialdE (k := 16) (n := 5) (t := t) C (ml (by decide)) (rfl) (rfl) (rfl) (by omega) (by decide) dX12_tryRow_56 ?_
            refine j_callV (k := 0) C [.int (nI t), .int (V 16 t)] [.int (sm)] (k_X12_measureOf l ad V (nI t) (V 16 t) t (rfl) (by omega) (f t) ((hf t hlt).1) (by omega) ) v_RX12_179 (ml (by decide)) (rfl) rfl ⟨rfl, rfl, Nat.le_of_ble_eq_true rfl, Nat.le_of_ble_eq_true rfl⟩ rfl hl.1 rfl (Nat.le_of_ble_eq_true rfl) ⟨Nat.le_of_ble_eq_true rfl, Nat.le_of_ble_eq_true rfl⟩ dX12_tryRow_57 (kI fun x_10_ U10 h_10_ => ?_)
            obtain ⟨eU10, h_10_⟩ := h_10_
            have eU10 := eU10.symm
            subst eU10
            refine j_goto (tgt := 64) C dX12_tryRow_60 (by decide) ?_
            refine j_iadd C dX12_tryRow_64 ?_
            refine j_istore_n (lv2 := [(2, .int (sm + x_10_)), (1, .int (mn + 1)), (0, .ref (ad (0))), (3, .int (nI t))]) C dX12_tryRow_65 rfl hl (by decide) rfl (fun ls hl => ?_)
            refine j_iinc (v := nI (t + 1)) (lv2 := [(3, .int (nI (t + 1))), (2, .int (sm + x_10_)), (1, .int (mn + 1)), (0, .ref (ad (0)))]) C dX12_tryRow_66 hl (k0 := 3) rfl (nI_1 _) (by decide) rfl (fun ls hl => ?_)
            refine j_goto (tgt := 6) C dX12_tryRow_69 (by decide) ?_
            exact ih_loop (t + 1) (mn + 1) (sm + x_10_) (by omega) (by rw [cntI, if_pos (show f t < ng by omega), hmn]; exact nI_1 _) (by rw [sumN, if_pos (show f t < ng by omega), hsm, h_10_, (hn t (f t) hlt (by omega)).1, nI_add]) (by omega) ls (lv_sub hl [3, 2, 1, 0] rfl)
  exact loop (nt + 1) 0 0 0 (by omega) rfl rfl (by omega) ls (lv_sub hl [3, 2, 1, 0] rfl)
/-- the rows 0 .. N - 1 are tried -/
def mGo (P : Nat → Nat → Prop) (nn : Nat → Nat → Nat) (ng nt N : Nat) (W : Vt) : Prop := (W 0 29 = -9 ∧ W 0 30 = 0 ∧ ∀ M, M < N → ¬ mvl P ng nt (mdg (ng + 1) nt M) nt 0) ∨ ∃ B, mTr P nn ng nt N B ∧ W 0 29 = nI (mct ng nt (mdg (ng + 1) nt B)) ∧ W 0 30 = nI (msm nn ng nt (mdg (ng + 1) nt B)) ∧ ∀ t, t < nt → W 17 t = nI (mdg (ng + 1) nt B t)
theorem mGo_cg {P : Nat → Nat → Prop} {nn : Nat → Nat → Nat} {ng nt N : Nat} {W W2 : Vt} (h_1_ : W2 0 29 = W 0 29) (h_2_ : W2 0 30 = W 0 30) (h_3_ : W2 17 = W 17) (h : mGo P nn ng nt N W) : mGo P nn ng nt N W2 := by
  unfold mGo
  rw [h_1_, h_2_, h_3_]
  exact h
theorem mGo_no {P : Nat → Nat → Prop} {nn : Nat → Nat → Nat} {ng nt N : Nat} {W : Vt} (h : mGo P nn ng nt N W) (hv : ¬ mvl P ng nt (mdg (ng + 1) nt N) nt 0) : mGo P nn ng nt (N + 1) W := by
  rcases h with ⟨a, b, c⟩ | ⟨B, a, b⟩
  · refine Or.inl ⟨a, b, fun M hM => ?_⟩
    by_cases e : M = N
    · rw [e]; exact hv
    · exact c M (by omega)
  · exact Or.inr ⟨B, mTr_no a (fun z => absurd z hv), b⟩
theorem m9_lt {v : Nat} (hv : v < 100000) : (-9 : Int32) < nI v := by
  rw [Int32.lt_iff_toInt_lt, nI_toInt (by omega), show (-9 : Int32).toInt = -9 by decide]
  omega
theorem mGo_try {P : Nat → Nat → Prop} {nn : Nat → Nat → Nat} {ng nt N : Nat} {W W2 : Vt} (h_5_ : nt ≤ 5) (hb : ∀ t g, t < nt → g < ng → nn t g ≤ 20) (h : mGo P nn ng nt N W) (hv : mvl P ng nt (mdg (ng + 1) nt N) nt 0) (hd : ∀ t, t < nt → W 16 t = nI (mdg (ng + 1) nt N t))
    (ht : (bbM W (mct ng nt (mdg (ng + 1) nt N)) (msm nn ng nt (mdg (ng + 1) nt N)) ∧ tbM W (nI (mct ng nt (mdg (ng + 1) nt N))) (nI (msm nn ng nt (mdg (ng + 1) nt N))) nt W2) ∨ (¬ bbM W (mct ng nt (mdg (ng + 1) nt N)) (msm nn ng nt (mdg (ng + 1) nt N)) ∧ W2 = W)) : mGo P nn ng nt (N + 1) W2 := by
  have n_1_ : mwt nn ng nt (mdg (ng + 1) nt N) nt + msm nn ng nt (mdg (ng + 1) nt N) = 1000 * mct ng nt (mdg (ng + 1) nt N) ∧ msm nn ng nt (mdg (ng + 1) nt N) ≤ nt * 20 := mwt_ms hb
  have n_2_ : mct ng nt (mdg (ng + 1) nt N) ≤ nt := cntI_le _ nt
  rcases h with ⟨a, b, c⟩ | ⟨B, a, b, c, d⟩
  · rcases ht with ⟨-, t2⟩ | ⟨t1, -⟩
    · exact Or.inr ⟨N, mTr_0 c hv, t2.2.1, t2.2.2.1, fun t h => by rw [t2.2.2.2 t h, hd t h]⟩
    · exact absurd (Or.inl (by rw [a]; exact m9_lt (by omega))) t1
  · have b1 : mwt nn ng nt (mdg (ng + 1) nt B) nt + msm nn ng nt (mdg (ng + 1) nt B) = 1000 * mct ng nt (mdg (ng + 1) nt B) ∧ msm nn ng nt (mdg (ng + 1) nt B) ≤ nt * 20 := mwt_ms hb
    have b2 : mct ng nt (mdg (ng + 1) nt B) ≤ nt := cntI_le _ nt
    have key : bbM W (mct ng nt (mdg (ng + 1) nt N)) (msm nn ng nt (mdg (ng + 1) nt N)) ↔ mwt nn ng nt (mdg (ng + 1) nt B) nt < mwt nn ng nt (mdg (ng + 1) nt N) nt := by
      unfold bbM
      rw [b, c, nI_ltI (by omega) (by omega), nI_ltI (by omega) (by omega), nI_eq (by omega) (by omega)]
      omega
    rcases ht with ⟨t1, t2⟩ | ⟨t1, t2⟩
    · exact Or.inr ⟨N, mTr_up a hv (key.mp t1), t2.2.1, t2.2.2.1, fun t h => by rw [t2.2.2.2 t h, hd t h]⟩
    · subst t2
      exact Or.inr ⟨B, mTr_no a (fun _ => Nat.le_of_not_lt (fun z => t1 (key.mpr z))), b, c, d⟩
theorem mGo_end {P : Nat → Nat → Prop} {nn : Nat → Nat → Nat} {ng nt R : Nat} {W : Vt} (eR : R = (ng + 1) ^ nt) (h : mGo P nn ng nt R W) : ∃ f, mBs P nn ng nt f ∧ W 0 29 = nI (mct ng nt f) ∧ W 0 30 = nI (msm nn ng nt f) ∧ ∀ t, t < nt → W 17 t = nI (f t) ∧ f t ≤ ng := by
  subst eR
  rcases h with ⟨-, -, c⟩ | ⟨B, a, b, c, d⟩
  · exact (mTr_ex c).elim
  · exact ⟨mdg (ng + 1) nt B, mTr_bs a, b, c, fun t h => ⟨d t h, Nat.le_of_lt_succ (Nat.mod_lt _ (by omega))⟩⟩
theorem pw5 {a b : Nat} (ha : a ≤ 4) (hb : b ≤ 5) : (a + 1) ^ b ≤ 3125 := by
  have h_1_ : (a + 1) ^ b ≤ 5 ^ b := Nat.pow_le_pow_left (by omega) b
  have h_2_ : 5 ^ b ≤ 5 ^ 5 := Nat.pow_le_pow_right (by omega) hb
  omega
theorem tbM_sc {V V2 : Vt} {ng nt : Nat} {rr : Nat → Nat} {mn sm : Int32} (h : tbM V mn sm nt V2) : scE ng rr V V2 := fun a j q => h.1 a j (fun e => q.2.1 (by omega)) (fun e => q.2.2 (by omega))
theorem zm1 {z : Int32} (h : z < 0) (h_2_ : -2 ≤ z) (h_3_ : ¬ z = -2) : z = -1 := by
  have t1 : (-1 : Int32).toInt = -1 := by decide
  have t2 : (-2 : Int32).toInt = -2 := by decide
  have t0 : (0 : Int32).toInt = 0 := by decide
  rw [Int32.lt_iff_toInt_lt] at h
  rw [Int32.le_iff_toInt_le] at h_2_
  rw [← Int32.toInt_inj] at h_3_
  rw [← Int32.toInt_inj]
  omega
abbrev rm_X12_match : Room := { frames := 5, cells := 0, slots := 0, locals := 116 }
set_option maxHeartbeats 4000000 in
set_option maxRecDepth 100000 in
theorem k_X12_match (l : Launch) (ad : Nat → Nat) (V : Vt) (z0 : Int32) (ng : Nat) (rr : Nat → Nat) (nt c_0_ : Nat) (hM : MI V ng rr nt c_0_) (nn : Nat → Nat → Nat) (hn : ∀ t g, t < nt → g < ng → nrM V t g = nI (nn t g) ∧ nn t g ≤ 20)  : Ct l yX12_match cX12_match 4 (some .int) rm_X12_match (mS ad) V [.ref (ad (0)), .int (z0)] (rI fun x V2 => scE ng rr V V2 ∧ ((¬ (-2 ≤ z0 ∧ z0 ≤ 4) ∧ x = -2) ∨ ((-2 ≤ z0 ∧ z0 ≤ 4) ∧ ng = 0 ∧ x = -3) ∨ ((-2 ≤ z0 ∧ z0 ≤ 4) ∧ ¬ ng = 0 ∧ ∃ f, mBs (pwM V rr) nn ng nt f ∧ x = mAn nn ng nt f z0))) := by
  refine Ct_of (by decide) (Nat.le_of_ble_eq_true rfl) ?_
  intro p e s m below meth c A D cy ls C hl
  have hl : lv_has ls 4 [(0, .ref (ad (0))), (1, .int (z0))] := hl
  have ng4 := hM.2.1
  have nt5 := hM.2.2.2.1
  refine j_iload_n C dX12_match_0 rfl (lv_at hl 1 rfl) ?_
  refine j_bipush (v := (-2)) C dX12_match_1 (by decide) ?_
  refine j_iconst (v := 4) C dX12_match_3 (by decide) ?_
  refine j_callS C [.int (z0), .int ((-2)), .int (4)] [] (k_X12_within l (mS ad) V (z0) ((-2)) (4)  ) v_RX12_85 ⟨rfl, rfl, Nat.le_of_ble_eq_true rfl, Nat.le_of_ble_eq_true rfl⟩ rfl hl.1 rfl (Nat.le_of_ble_eq_true rfl) ⟨Nat.le_of_ble_eq_true rfl, Nat.le_of_ble_eq_true rfl⟩ dX12_match_4 (kI fun x_1_ U1 h_1_ => ?_)
  obtain ⟨eU1, h_1_⟩ := h_1_
  have eU1 := eU1.symm
  subst eU1
  refine j_if_ne (tgt := 13) C dX12_match_7 (by decide) (fun c_2_ => ?_) (fun c_2_ => ?_)
  · skip
    have b2 := Decidable.not_not.mp (mt bI_0.mpr (h_1_ ▸ c_2_))
    refine j_aload_n C dX12_match_13 rfl (lv_at hl 0 rfl) ?_
    refine j_getI (k := 0) C (f_RX12_89_12) (ml (by decide)) (rfl) dX12_match_14 ?_
    refine j_if_ne (tgt := 23) C dX12_match_17 (by decide) (fun c_3_ => ?_) (fun c_3_ => ?_)
    · skip
      have q3 := cNq (hM.1) (show (0 : Int32) = nI 0 from rfl) (by omega) (by omega) c_3_
      refine j_iconst (v := 1) C dX12_match_23 (by decide) ?_
      refine j_istore_n (lv2 := [(2, .int (1)), (0, .ref (ad (0))), (1, .int (z0))]) C dX12_match_24 rfl hl (by decide) rfl (fun ls hl => ?_)
      refine j_iconst (v := 0) C dX12_match_25 (by decide) ?_
      refine j_istore_n (lv2 := [(3, .int (0)), (2, .int (1)), (0, .ref (ad (0))), (1, .int (z0))]) C dX12_match_26 rfl hl (by decide) rfl (fun ls hl => ?_)
      have loop : ∀ (n_9_ : Nat) (t : Nat) (rv : Int32), t ≤ nt → rv = nI ((ng + 1) ^ t) → nt - t < n_9_ → ∀ (ls : Array Slot), lv_has ls 4 [(0, .ref (ad (0))), (1, .int (z0)), (2, .int (rv)), (3, .int (nI t))] → J p l e rm_X12_match s m [.ref (ad (0)), .int (z0)].toArray below meth c A D cy 0 0 (MQ below (gPost D cy A (fun o9 σ2 V2 => σ2 = mS ad ∧ (rI fun x V2 => scE ng rr V V2 ∧ ((¬ (-2 ≤ z0 ∧ z0 ≤ 4) ∧ x = -2) ∨ ((-2 ≤ z0 ∧ z0 ≤ 4) ∧ ng = 0 ∧ x = -3) ∨ ((-2 ≤ z0 ∧ z0 ≤ 4) ∧ ¬ ng = 0 ∧ ∃ f, mBs (pwM V rr) nn ng nt f ∧ x = mAn nn ng nt f z0))) o9 V2)) [.ref (ad (0)), .int (z0)].toArray s 0 0 A) (mS ad) V (F0 m 27 ls []) := by
        intro n_9_
        induction n_9_ with
        | zero =>
          intro t rv hi hrw hm
          exact absurd hm (by omega)
        | succ n_9_ ih_loop =>
          intro t rv hi hrw hm ls hl
          refine j_iload_n C dX12_match_27 rfl (lv_at hl 3 rfl) ?_
          refine j_aload_n C dX12_match_28 rfl (lv_at hl 0 rfl) ?_
          refine j_getI (k := 0) C (f_RX12_92_12) (ml (by decide)) (rfl) dX12_match_29 ?_
          refine j_icmp_ge (tgt := 50) C dX12_match_32 (by decide) (fun c_4_ => ?_) (fun c_4_ => ?_)
          · have n_4_ := Int32.not_lt.mpr c_4_
            have q4 := cLe (hM.2.2.1) (rfl) (by omega) (by omega) c_4_
            have e9 : t = nt := by omega
            rw [e9] at hrw
            have hp9 := pw5 ng4 nt5
            obtain ⟨R9, eR9⟩ : ∃ R9, R9 = (ng + 1) ^ nt := ⟨_, rfl⟩
            rw [← eR9] at hrw hp9
            refine j_aload_n C dX12_match_50 rfl (lv_at hl 0 rfl) ?_
            refine j_bipush (v := (-9)) C dX12_match_51 (by decide) ?_
            refine j_putI (k := 0) C (f_RX12_219_12) p_12_29 (ml (by decide)) (rfl) dX12_match_53 (fun V1 eV1 => ?_)
            refine j_aload_n C dX12_match_56 rfl (lv_at hl 0 rfl) ?_
            refine j_iconst (v := 0) C dX12_match_57 (by decide) ?_
            refine j_putI (k := 0) C (f_RX12_222_12) p_12_30 (ml (by decide)) (rfl) dX12_match_58 (fun V2 eV2 => ?_)
            refine j_iconst (v := 0) C dX12_match_61 (by decide) ?_
            refine j_istore_n (lv2 := [(3, .int (0)), (0, .ref (ad (0))), (1, .int (z0)), (2, .int (rv))]) C dX12_match_62 rfl hl (by decide) rfl (fun ls hl => ?_)
            have loop2 : ∀ (n_9_ : Nat) (N : Nat) (Vi : Vt), N ≤ R9 → scE ng rr V Vi → mGo (pwM V rr) nn ng nt N Vi → R9 - N < n_9_ → ∀ (ls : Array Slot), lv_has ls 4 [(0, .ref (ad (0))), (1, .int (z0)), (2, .int (rv)), (3, .int (nI N))] → J p l e rm_X12_match s m [.ref (ad (0)), .int (z0)].toArray below meth c A D cy 0 0 (MQ below (gPost D cy A (fun o9 σ2 V2 => σ2 = mS ad ∧ (rI fun x V2 => scE ng rr V V2 ∧ ((¬ (-2 ≤ z0 ∧ z0 ≤ 4) ∧ x = -2) ∨ ((-2 ≤ z0 ∧ z0 ≤ 4) ∧ ng = 0 ∧ x = -3) ∨ ((-2 ≤ z0 ∧ z0 ≤ 4) ∧ ¬ ng = 0 ∧ ∃ f, mBs (pwM V rr) nn ng nt f ∧ x = mAn nn ng nt f z0))) o9 V2)) [.ref (ad (0)), .int (z0)].toArray s 0 0 A) (mS ad) Vi (F0 m 63 ls []) := by
              intro n_9_
              induction n_9_ with
              | zero =>
                intro N Vi hi2 hE hG hm
                exact absurd hm (by omega)
              | succ n_9_ ih_loop2 =>
                intro N Vi hi2 hE hG hm ls hl
                refine j_iload_n C dX12_match_63 rfl (lv_at hl 3 rfl) ?_
                refine j_iload_n C dX12_match_64 rfl (lv_at hl 2 rfl) ?_
                refine j_icmp_ge (tgt := 86) C dX12_match_65 (by decide) (fun c_5_ => ?_) (fun c_5_ => ?_)
                · have n_5_ := Int32.not_lt.mpr c_5_
                  have q5 := cLe (hrw) (rfl) (by omega) (by omega) c_5_
                  have e8 : N = R9 := by omega
                  rw [e8] at hG
                  obtain ⟨f9, hB9, hc9, hs9, hr9⟩ := mGo_end eR9 hG
                  refine j_iload_n C dX12_match_86 rfl (lv_at hl 1 rfl) ?_
                  refine j_if_ge (tgt := 108) C dX12_match_87 (by decide) (fun c_6_ => ?_) (fun c_6_ => ?_)
                  · have n_6_ := Int32.not_lt.mpr c_6_
                    refine j_aload_n C dX12_match_108 rfl (lv_at hl 0 rfl) ?_
                    refine j_iload_n C dX12_match_109 rfl (lv_at hl 1 rfl) ?_
                    refine j_callV (k := 0) C [.int (z0)] [] (k_X12_isThrower l ad Vi (z0)  nt ((hE.o (j := 7) (by omega)).trans hM.2.2.1) nt5) v_RX12_170 (ml (by decide)) (rfl) rfl ⟨rfl, rfl, Nat.le_of_ble_eq_true rfl, Nat.le_of_ble_eq_true rfl⟩ rfl hl.1 rfl (Nat.le_of_ble_eq_true rfl) ⟨Nat.le_of_ble_eq_true rfl, Nat.le_of_ble_eq_true rfl⟩ dX12_match_110 (kI fun x_7_ U7 h_7_ => ?_)
                    obtain ⟨eU7, h_7_⟩ := h_7_
                    have eU7 := eU7.symm
                    subst eU7
                    rcases h_7_ with ⟨j_7_, hj7, ej7, ex7⟩ | ⟨ho7, ex7⟩
                    · subst ex7
                      have hfl9 := (hr9 j_7_ hj7).2
                      refine j_if_eq (tgt := 138) C dX12_match_113 (by decide) (fun c_8_ => ?_) (fun c_8_ => ?_)
                      · exact absurd c_8_ (by decide)
                      · skip
                        refine j_aload_n C dX12_match_116 rfl (lv_at hl 0 rfl) ?_
                        refine j_getR (k := 0) (k2 := 17) C (f_RX12_58_12) (ml (by decide)) (rfl) (rfl) dX12_match_117 ?_
                        refine j_iload_n C dX12_match_120 rfl (lv_at hl 1 rfl) ?_
                        refine j_ialdE (k := 17) (n := 5) (t := j_7_) C (ml (by decide)) (rfl) (rfl) (ej7) (by omega) (by decide) dX12_match_121 ?_
                        refine j_aload_n C dX12_match_122 rfl (lv_at hl 0 rfl) ?_
                        refine j_getI (k := 0) C (f_RX12_89_12) (ml (by decide)) (rfl) dX12_match_123 ?_
                        refine j_icmp_ge (tgt := 138) C dX12_match_126 (by decide) (fun c_9_ => ?_) (fun c_9_ => ?_)
                        · have n_9_ := Int32.not_lt.mpr c_9_
                          have q9 := cLe (((hE.o (j := 6) (by omega)).trans hM.1)) ((hr9 j_7_ hj7).1) (by omega) (by omega) c_9_
                          refine j_bipush (v := (-9)) C dX12_match_138 (by decide) ?_
                          refine j_iret C ⟨rfl, _, rfl, ?_⟩ dX12_match_140
                          refine ⟨hE, Or.inr (Or.inr ⟨b2, q3, f9, hB9, ?_⟩)⟩
                          unfold mAn
                          rw [if_neg (fun e => by rw [e] at c_6_; exact absurd c_6_ (by decide)), if_neg (fun e => by rw [e] at c_6_; exact absurd c_6_ (by decide))]
                          obtain ⟨hin1, hcl1⟩ := inz ej7 hj7 (by omega)
                          rw [if_pos hin1, hcl1, if_neg (by omega)]
                        · have n_9_ := Int32.not_le.mp c_9_
                          have q9 := cNe (((hE.o (j := 6) (by omega)).trans hM.1)) ((hr9 j_7_ hj7).1) (by omega) (by omega) c_9_
                          refine j_aload_n C dX12_match_129 rfl (lv_at hl 0 rfl) ?_
                          refine j_getR (k := 0) (k2 := 17) C (f_RX12_58_12) (ml (by decide)) (rfl) (rfl) dX12_match_130 ?_
                          refine j_iload_n C dX12_match_133 rfl (lv_at hl 1 rfl) ?_
                          refine j_ialdE (k := 17) (n := 5) (t := j_7_) C (ml (by decide)) (rfl) (rfl) (ej7) (by omega) (by decide) dX12_match_134 ?_
                          refine j_goto (tgt := 140) C dX12_match_135 (by decide) ?_
                          refine j_iret C ⟨rfl, _, rfl, ?_⟩ dX12_match_140
                          refine ⟨hE, Or.inr (Or.inr ⟨b2, q3, f9, hB9, ?_⟩)⟩
                          unfold mAn
                          rw [if_neg (fun e => by rw [e] at c_6_; exact absurd c_6_ (by decide)), if_neg (fun e => by rw [e] at c_6_; exact absurd c_6_ (by decide))]
                          obtain ⟨hin1, hcl1⟩ := inz ej7 hj7 (by omega)
                          rw [if_pos hin1, hcl1, if_pos (by omega)]
                          exact (hr9 j_7_ hj7).1
                    · subst ex7
                      refine j_if_eq (tgt := 138) C dX12_match_113 (by decide) (fun c_10_ => ?_) (fun c_10_ => ?_)
                      · skip
                        refine j_bipush (v := (-9)) C dX12_match_138 (by decide) ?_
                        refine j_iret C ⟨rfl, _, rfl, ?_⟩ dX12_match_140
                        refine ⟨hE, Or.inr (Or.inr ⟨b2, q3, f9, hB9, ?_⟩)⟩
                        unfold mAn
                        rw [if_neg (fun e => by rw [e] at c_6_; exact absurd c_6_ (by decide)), if_neg (fun e => by rw [e] at c_6_; exact absurd c_6_ (by decide))]
                        rw [if_neg (outR ho7)]
                      · exact absurd rfl c_10_
                  · have n_6_ := Int32.not_le.mp c_6_
                    refine j_iload_n C dX12_match_90 rfl (lv_at hl 1 rfl) ?_
                    refine j_bipush (v := (-2)) C dX12_match_91 (by decide) ?_
                    refine j_icmp_ne (tgt := 103) C dX12_match_93 (by decide) (fun c_11_ => ?_) (fun c_11_ => ?_)
                    · skip
                      refine j_aload_n C dX12_match_103 rfl (lv_at hl 0 rfl) ?_
                      refine j_getI (k := 0) C (f_RX12_222_12) (ml (by decide)) (rfl) dX12_match_104 ?_
                      refine j_iret C ⟨rfl, _, rfl, ?_⟩ dX12_match_107
                      refine ⟨hE, Or.inr (Or.inr ⟨b2, q3, f9, hB9, ?_⟩)⟩
                      unfold mAn
                      rw [if_neg c_11_, if_pos (zm1 (Int32.not_le.mp c_6_) b2.1 c_11_)]
                      exact hs9
                    · skip
                      refine j_aload_n C dX12_match_96 rfl (lv_at hl 0 rfl) ?_
                      refine j_getI (k := 0) C (f_RX12_219_12) (ml (by decide)) (rfl) dX12_match_97 ?_
                      refine j_goto (tgt := 107) C dX12_match_100 (by decide) ?_
                      refine j_iret C ⟨rfl, _, rfl, ?_⟩ dX12_match_107
                      refine ⟨hE, Or.inr (Or.inr ⟨b2, q3, f9, hB9, ?_⟩)⟩
                      unfold mAn
                      rw [if_pos c_11_]
                      exact hc9
                · have n_5_ := Int32.not_le.mp c_5_
                  have q5 := cNe (hrw) (rfl) (by omega) (by omega) c_5_
                  have hlt2 : N < R9 := by omega
                  refine j_aload_n C dX12_match_68 rfl (lv_at hl 0 rfl) ?_
                  refine j_iload_n C dX12_match_69 rfl (lv_at hl 3 rfl) ?_
                  refine j_callV (k := 0) C [.int (nI N)] [] (k_X12_isRow l ad Vi (nI N) N (rfl) (by omega) ng rr nt c_0_ (MI_sc hE hM)) v_RX12_225 (ml (by decide)) (rfl) rfl ⟨rfl, rfl, Nat.le_of_ble_eq_true rfl, Nat.le_of_ble_eq_true rfl⟩ rfl hl.1 rfl (Nat.le_of_ble_eq_true rfl) ⟨Nat.le_of_ble_eq_true rfl, Nat.le_of_ble_eq_true rfl⟩ dX12_match_70 (kI fun x_12_ U12 h_12_ => ?_)
                  obtain ⟨hf12, hd12, h_12_⟩ := h_12_
                  rcases h_12_ with ⟨ex12, hs12⟩ | ⟨ex12, hs12⟩
                  · subst ex12
                    refine j_if_eq (tgt := 80) C dX12_match_73 (by decide) (fun c_13_ => ?_) (fun c_13_ => ?_)
                    · exact absurd c_13_ (by decide)
                    · skip
                      refine j_aload_n C dX12_match_76 rfl (lv_at hl 0 rfl) ?_
                      refine j_callV (k := 0) C [] [] (k_X12_tryRow l ad U12   ng rr nt c_0_ (MI_sc (hE.tr hf12.1) hM) (mdg (ng + 1) nt N) (fun t h => ⟨hd12 t h, Nat.le_of_lt_succ (Nat.mod_lt _ (by omega))⟩) nn (fun t g a b => by rw [nrM_sc (hE.tr hf12.1)]; exact hn t g a b)) v_RX12_228 (ml (by decide)) (rfl) rfl ⟨rfl, rfl, Nat.le_of_ble_eq_true rfl, Nat.le_of_ble_eq_true rfl⟩ rfl hl.1 rfl (Nat.le_of_ble_eq_true rfl) ⟨Nat.le_of_ble_eq_true rfl, Nat.le_of_ble_eq_true rfl⟩ dX12_match_77 (kU fun U14 h_14_ => ?_)
                      have hE9 : scE ng rr V U14 := by
                        refine (hE.tr hf12.1).tr ?_
                        rcases h_14_ with z | z
                        · exact tbM_sc z.2
                        · rw [z.2]; exact scE.rf
                      have hG9 := mGo_try nt5 (fun t g a b => (hn t g a b).2) (mGo_cg (hf12.2 0 29 (by decide) (by decide) (by decide)) (hf12.2 0 30 (by decide) (by decide) (by decide)) (funext fun j => hf12.2 17 j (by decide) (by decide) (by decide)) hG) ((mvl_P (fun t g _ h => pwM_sc hE h) nt (Nat.le_refl nt) 0).mp hs12) hd12 h_14_
                      refine j_iinc (v := nI (N + 1)) (lv2 := [(3, .int (nI (N + 1))), (0, .ref (ad (0))), (1, .int (z0)), (2, .int (rv))]) C dX12_match_80 hl (k0 := 3) rfl (nI_1 _) (by decide) rfl (fun ls hl => ?_)
                      refine j_goto (tgt := 63) C dX12_match_83 (by decide) ?_
                      exact ih_loop2 (N + 1) U14 (by omega) hE9 hG9 (by omega) ls (lv_sub hl [1, 2, 3, 0] rfl)
                  · subst ex12
                    refine j_if_eq (tgt := 80) C dX12_match_73 (by decide) (fun c_15_ => ?_) (fun c_15_ => ?_)
                    · skip
                      refine j_iinc (v := nI (N + 1)) (lv2 := [(3, .int (nI (N + 1))), (0, .ref (ad (0))), (1, .int (z0)), (2, .int (rv))]) C dX12_match_80 hl (k0 := 3) rfl (nI_1 _) (by decide) rfl (fun ls hl => ?_)
                      refine j_goto (tgt := 63) C dX12_match_83 (by decide) ?_
                      exact ih_loop2 (N + 1) U12 (by omega) (hE.tr hf12.1) (mGo_no (mGo_cg (hf12.2 0 29 (by decide) (by decide) (by decide)) (hf12.2 0 30 (by decide) (by decide) (by decide)) (funext fun j => hf12.2 17 j (by decide) (by decide) (by decide)) hG) (fun z => hs12 ((mvl_P (fun t g _ h => pwM_sc hE h) nt (Nat.le_refl nt) 0).mpr z))) (by omega) ls (lv_sub hl [1, 2, 3, 0] rfl)
                    · exact absurd rfl c_15_
            exact loop2 (R9 + 1) 0 V2 (by omega) (by rw [eV2, eV1]; exact (scE.up (by omega)).tr (scE.up (by omega))) (Or.inl ⟨by rw [eV2, eV1, up2_i _ _ (by decide), up2_s], by rw [eV2, up2_s], fun M h => absurd h (by omega)⟩) (by omega) ls (lv_sub hl [1, 2, 3, 0] rfl)
          · have n_4_ := Int32.not_le.mp c_4_
            have q4 := cNe (hM.2.2.1) (rfl) (by omega) (by omega) c_4_
            have hlt : t < nt := by omega
            refine j_iload_n C dX12_match_35 rfl (lv_at hl 2 rfl) ?_
            refine j_aload_n C dX12_match_36 rfl (lv_at hl 0 rfl) ?_
            refine j_getI (k := 0) C (f_RX12_89_12) (ml (by decide)) (rfl) dX12_match_37 ?_
            refine j_iconst (v := 1) C dX12_match_40 (by decide) ?_
            refine j_iadd C dX12_match_41 ?_
            refine j_imul C dX12_match_42 ?_
            refine j_istore_n (lv2 := [(2, .int (rv * ((V 0 6) + 1))), (0, .ref (ad (0))), (1, .int (z0)), (3, .int (nI t))]) C dX12_match_43 rfl hl (by decide) rfl (fun ls hl => ?_)
            refine j_iinc (v := nI (t + 1)) (lv2 := [(3, .int (nI (t + 1))), (2, .int (rv * ((V 0 6) + 1))), (0, .ref (ad (0))), (1, .int (z0))]) C dX12_match_44 hl (k0 := 3) rfl (nI_1 _) (by decide) rfl (fun ls hl => ?_)
            refine j_goto (tgt := 27) C dX12_match_47 (by decide) ?_
            exact ih_loop (t + 1) (rv * ((V 0 6) + 1)) (by omega) (by rw [hrw, hM.1, nI_1, pk_mul, Nat.pow_succ]) (by omega) ls (lv_sub hl [2, 3, 1, 0] rfl)
      exact loop (nt + 1) 0 1 (by omega) rfl (by omega) ls (lv_sub hl [2, 3, 1, 0] rfl)
    · skip
      have q3 := cEq (hM.1) (show (0 : Int32) = nI 0 from rfl) (by omega) (by omega) c_3_
      refine j_bipush (v := (-3)) C dX12_match_20 (by decide) ?_
      refine j_iret C ⟨rfl, _, rfl, ?_⟩ dX12_match_22
      exact ⟨scE.rf, Or.inr (Or.inl ⟨b2, q3, rfl⟩)⟩
  · skip
    have b2 := bI_0.mp (h_1_ ▸ c_2_)
    refine j_bipush (v := (-2)) C dX12_match_10 (by decide) ?_
    refine j_iret C ⟨rfl, _, rfl, ?_⟩ dX12_match_12
    exact ⟨scE.rf, Or.inl ⟨b2, rfl⟩⟩
