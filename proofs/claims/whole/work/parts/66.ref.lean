theorem auS_0 (fr : Int32) (g t : Nat) (ys lz ks ar : Nat → Int32) (z : Int32) : auS (0, fr, g, t, ys, lz, ks, ar) z = if z = 113 then some (1, fr, g, t, ys, lz, ks, ar) else none := rfl
theorem auS_1 (fr : Int32) (g t : Nat) (ys lz ks ar : Nat → Int32) (z : Int32) : auS (1, fr, g, t, ys, lz, ks, ar) z = if 0 ≤ dgI z ∧ dgI z ≤ 3 then some (2, dgI z, g, t, ys, lz, ks, ar) else none := rfl
theorem auS_2 (fr : Int32) (g t : Nat) (ys lz ks ar : Nat → Int32) (z : Int32) : auS (2, fr, g, t, ys, lz, ks, ar) z = if z = 44 then (if g < 4 then some (3, fr, g, t, ys, lz, ks, ar) else none) else if z = 59 ∧ 0 < g then some (5, fr, g, t, ys, lz, ks, ar) else none := rfl
theorem auS_3 (fr : Int32) (g t : Nat) (ys lz ks ar : Nat → Int32) (z : Int32) : auS (3, fr, g, t, ys, lz, ks, ar) z = if 1 ≤ dgI z ∧ dgI z ≤ 9 then some (4, fr, g, t, upd ys g (dgI z), lz, ks, ar) else none := rfl
theorem auS_4 (fr : Int32) (g t : Nat) (ys lz ks ar : Nat → Int32) (z : Int32) : auS (4, fr, g, t, ys, lz, ks, ar) z = if 0 ≤ dgI z ∧ dgI z ≤ 9 then some (2, fr, g + 1, t, ys, upd lz g (dgI z), ks, ar) else none := rfl
theorem auS_5 (fr : Int32) (g t : Nat) (ys lz ks ar : Nat → Int32) (z : Int32) : auS (5, fr, g, t, ys, lz, ks, ar) z = if 0 ≤ kbI z ∧ kbI z ≤ 2 then some (6, fr, g, t, ys, lz, upd ks t (kbI z), ar) else none := rfl
theorem auS_6 (fr : Int32) (g t : Nat) (ys lz ks ar : Nat → Int32) (z : Int32) : auS (6, fr, g, t, ys, lz, ks, ar) z = if 1 ≤ dgI z ∧ dgI z ≤ 9 then some (7, fr, g, t + 1, ys, lz, ks, upd ar t (dgI z)) else none := rfl
theorem auS_7 (fr : Int32) (g t : Nat) (ys lz ks ar : Nat → Int32) (z : Int32) : auS (7, fr, g, t, ys, lz, ks, ar) z = if z = 59 ∧ t < 5 then some (5, fr, g, t, ys, lz, ks, ar) else none := rfl
/-- what the reference has read is the machine's -/
def rmR (V : Vt) (b : Au) : Prop := V 0 17 = nI b.2.2.1 ∧ V 0 18 = nI b.2.2.2.1 ∧ (2 ≤ b.1 → V 0 16 = b.2.1) ∧ (∀ i, i < b.2.2.1 → V 11 (2 * i) = b.2.2.2.2.1 i ∧ V 11 (2 * i + 1) = b.2.2.2.2.2.1 i) ∧ ∀ i, i < b.2.2.2.1 → V 12 (2 * i) = b.2.2.2.2.2.2.1 i ∧ V 12 (2 * i + 1) = b.2.2.2.2.2.2.2 i
/-- p cells are read, and the machine stands at b -/
def rdR (V : Vt) (f n : Nat) (a : Au) (U : Vt) (p : Nat) (b : Au) : Prop := frD V U ∧ auN a (fun j => V 3 (f + j)) p = some b ∧ p ≤ n ∧ U 0 15 = nI (f + p) ∧ rmR U b
/-- how the reading ends -/
def rdO (V : Vt) (f n : Nat) (a : Au) (x : Int32) (V2 : Vt) : Prop := frD V V2 ∧ ((x = 1 ∧ ∃ b, auN a (fun j => V 3 (f + j)) n = some b ∧ b.1 = 7 ∧ rmR V2 b ∧ b.2.2.1 ≤ 4 ∧ b.2.2.2.1 ≤ 5) ∨ (x = 0 ∧ ∃ p b, p ≤ n ∧ V2 0 15 = nI (f + p) ∧ auN a (fun j => V 3 (f + j)) p = some b ∧ (p = n → ¬ b.1 = 7) ∧ (p < n → auS b (V 3 (f + p)) = none)))
theorem rmR_at {U : Vt} {b : Au} {x : Int32} (h : rmR U b) : rmR (up2 U 0 15 x) b :=
  ⟨by rw [up2_i _ _ (by decide)]; exact h.1, by rw [up2_i _ _ (by decide)]; exact h.2.1, fun q => by rw [up2_i _ _ (by decide)]; exact h.2.2.1 q, by rw [up2_k _ _ (by decide)]; exact h.2.2.2.1, by rw [up2_k _ _ (by decide)]; exact h.2.2.2.2⟩
theorem rd_3 {V U : Vt} (h : frD V U) : U 3 = V 3 := h.row (by decide) (by decide) (by decide)
theorem rd_sign {V U : Vt} {f n p s s_2_ : Nat} {a : Au} {r : Int32 × Nat × Nat × (Nat → Int32) × (Nat → Int32) × (Nat → Int32) × (Nat → Int32)} (h : rdR V f n a U p (s, r)) (hp : p < n) (hs : auS (s, r) (V 3 (f + p)) = some (s_2_, r)) (h_2_ : 2 ≤ s_2_ → 2 ≤ s) : rdR V f n a (up2 U 0 15 (nI (f + p + 1))) (p + 1) (s_2_, r) := by
  obtain ⟨h_1_, hn, -, -, hm⟩ := h
  refine ⟨h_1_.tr (frD.up (by omega)), by rw [auN_s hn]; exact hs, hp, up2_s .., ?_⟩
  have k := rmR_at (x := nI (f + p + 1)) hm
  exact ⟨k.1, k.2.1, fun q => k.2.2.1 (h_2_ q), k.2.2.2.1, k.2.2.2.2⟩
theorem rd_frost {V U : Vt} {f n p q en : Nat} {a : Au} {fr : Int32} {r : Nat × Nat × (Nat → Int32) × (Nat → Int32) × (Nat → Int32) × (Nat → Int32)} (he : en = f + n) (hq : q = f + p) (h : rdR V f n a U p (1, fr, r)) (d : dgP U q en 0 3) : rdR V f n a (up2 (up2 U 0 15 (nI (q + 1))) 0 16 (dgI (V 3 (f + p)))) (p + 1) (2, dgI (V 3 (f + p)), r) := by
  subst he hq
  obtain ⟨h_1_, hn, -, -, hm⟩ := h
  have e3 := rd_3 h_1_
  have d2 := d.2
  rw [e3] at d2
  obtain ⟨r1, r2, r3, r4, r5, r6⟩ := r
  refine ⟨(h_1_.tr (frD.up (by omega))).tr (frD.up (by omega)), by rw [auN_s hn]; exact (auS_1 ..).trans (if_pos d2), by have := d.1; omega, by rw [up2_i _ _ (by decide), up2_s]; rfl, ?_⟩
  have k := rmR_at (x := nI (f + p + 1)) hm
  exact ⟨by rw [up2_i _ _ (by decide)]; exact k.1, by rw [up2_i _ _ (by decide)]; exact k.2.1, fun q => by rw [up2_s], by rw [up2_k _ _ (by decide)]; exact k.2.2.2.1, by rw [up2_k _ _ (by decide)]; exact k.2.2.2.2⟩
theorem rd_girl {V U : Vt} {f n p g t q en : Nat} {a : Au} {fr : Int32} {ys lz ks ar : Nat → Int32} (he : en = f + n) (hq : q = f + p) (h : rdR V f n a U p (3, fr, g, t, ys, lz, ks, ar)) (d : dgP U q en 1 9) (d2 : dgP U (q + 1) en 0 9) : rdR V f n a (rgV U q g) (p + 2) (2, fr, g + 1, t, upd ys g (dgI (V 3 (f + p))), upd lz g (dgI (V 3 (f + p + 1))), ks, ar) := by
  subst he hq
  obtain ⟨h_1_, hn, -, -, hm⟩ := h
  have e3 := rd_3 h_1_
  have q1 := d.2
  have q2 := d2.2
  rw [e3] at q1 q2
  unfold rgV
  rw [e3]
  have n_1_ : auN a (fun j => V 3 (f + j)) (p + 1) = some (4, fr, g, t, upd ys g (dgI (V 3 (f + p))), lz, ks, ar) := by rw [auN_s hn]; exact (auS_3 ..).trans (if_pos q1)
  refine ⟨((((h_1_.tr (frD.up (by omega))).tr (frD.up (by omega))).tr (frD.up (by omega))).tr (frD.up (by omega))).tr (frD.up (by omega)), by rw [auN_s n_1_]; exact (auS_4 ..).trans (if_pos q2), by have := d2.1; omega, ?_, ?_, ?_, fun _ => ?_, fun i hi => ?_, fun i hi => ?_⟩
  · rw [up2_i _ _ (by decide), up2_k _ _ (by decide), up2_s]; rfl
  · rw [up2_s]
  · rw [up2_i _ _ (by decide), up2_k _ _ (by decide), up2_i _ _ (by decide), up2_k _ _ (by decide), up2_i _ _ (by decide)]; exact hm.2.1
  · rw [up2_i _ _ (by decide), up2_k _ _ (by decide), up2_i _ _ (by decide), up2_k _ _ (by decide), up2_i _ _ (by decide)]; exact hm.2.2.1 (by decide : 2 ≤ 3)
  · rw [up2_k _ _ (by decide)]
    dsimp only at hi ⊢
    by_cases e : i = g
    · subst e
      rw [up2_i _ _ (by omega), up2_k _ _ (by decide), up2_s, up2_s]
      exact ⟨pk_us.symm, pk_us.symm⟩
    · rw [up2_i _ _ (by omega), up2_k _ _ (by decide), up2_i _ _ (by omega), up2_k _ _ (by decide), up2_i _ _ (by omega), up2_k _ _ (by decide), up2_i _ _ (by omega), up2_k _ _ (by decide), pk_un e, pk_un e]
      exact hm.2.2.2.1 i (show i < g by omega)
  · rw [up2_k _ _ (by decide), up2_k _ _ (by decide), up2_k _ _ (by decide), up2_k _ _ (by decide), up2_k _ _ (by decide)]
    exact hm.2.2.2.2 i hi
theorem rd_thr {V U : Vt} {f n p g t q en : Nat} {a : Au} {fr : Int32} {ys lz ks ar : Nat → Int32} (he : en = f + n) (hq : q = f + p) (h : rdR V f n a U p (5, fr, g, t, ys, lz, ks, ar)) (d : kbP U q en) (d2 : dgP U (q + 1) en 1 9) : rdR V f n a (rtV U q t) (p + 2) (7, fr, g, t + 1, ys, lz, upd ks t (kbI (V 3 (f + p))), upd ar t (dgI (V 3 (f + p + 1)))) := by
  subst he hq
  obtain ⟨h_1_, hn, -, -, hm⟩ := h
  have e3 := rd_3 h_1_
  have q1 := d.2
  have q2 := d2.2
  rw [e3] at q1 q2
  unfold rtV
  rw [e3]
  have n_1_ : auN a (fun j => V 3 (f + j)) (p + 1) = some (6, fr, g, t, ys, lz, upd ks t (kbI (V 3 (f + p))), ar) := by rw [auN_s hn]; exact (auS_5 ..).trans (if_pos q1)
  refine ⟨((((h_1_.tr (frD.up (by omega))).tr (frD.up (by omega))).tr (frD.up (by omega))).tr (frD.up (by omega))).tr (frD.up (by omega)), by rw [auN_s n_1_]; exact (auS_6 ..).trans (if_pos q2), by have := d2.1; omega, ?_, ?_, ?_, fun _ => ?_, fun i hi => ?_, fun i hi => ?_⟩
  · rw [up2_i _ _ (by decide), up2_k _ _ (by decide), up2_s]; rfl
  · rw [up2_i _ _ (by decide), up2_k _ _ (by decide), up2_i _ _ (by decide), up2_i _ _ (by decide), up2_k _ _ (by decide)]; exact hm.1
  · rw [up2_s]
  · rw [up2_i _ _ (by decide), up2_k _ _ (by decide), up2_i _ _ (by decide), up2_i _ _ (by decide), up2_k _ _ (by decide)]; exact hm.2.2.1 (by decide : 2 ≤ 5)
  · rw [up2_k _ _ (by decide), up2_k _ _ (by decide), up2_k _ _ (by decide), up2_k _ _ (by decide), up2_k _ _ (by decide)]
    exact hm.2.2.2.1 i hi
  · rw [up2_k _ _ (by decide)]
    dsimp only at hi ⊢
    by_cases e : i = t
    · subst e
      rw [up2_i _ _ (by omega), up2_k _ _ (by decide), up2_k _ _ (by decide), up2_s, up2_s]
      exact ⟨pk_us.symm, pk_us.symm⟩
    · rw [up2_i _ _ (by omega), up2_k _ _ (by decide), up2_k _ _ (by decide), up2_i _ _ (by omega), up2_i _ _ (by omega), up2_k _ _ (by decide), up2_k _ _ (by decide), up2_i _ _ (by omega), pk_un e, pk_un e]
      exact hm.2.2.2.2 i (show i < t by omega)
theorem rd_no {V U V2 : Vt} {f n p : Nat} {a b : Au} (h : rdR V f n a U p b) (h_7_ : p = n → ¬ b.1 = 7) (hs : p < n → auS b (V 3 (f + p)) = none) (hf : frD U V2) (ha : V2 0 15 = nI (f + p)) : rdO V f n a 0 V2 :=
  ⟨h.1.tr hf, Or.inr ⟨rfl, p, b, h.2.2.1, ha, h.2.1, h_7_, hs⟩⟩
theorem rd_no2 {V U V2 : Vt} {f n p : Nat} {a b b2 : Au} (h : rdR V f n a U p b) (hp : p < n) (hb : auS b (V 3 (f + p)) = some b2) (h_7_ : ¬ b2.1 = 7) (hs : p + 1 < n → auS b2 (V 3 (f + p + 1)) = none) (hf : frD U V2) (ha : V2 0 15 = nI (f + p + 1)) : rdO V f n a 0 V2 :=
  ⟨h.1.tr hf, Or.inr ⟨rfl, p + 1, b2, hp, ha, by rw [auN_s h.2.1]; exact hb, fun _ => h_7_, hs⟩⟩
theorem rd_0 {V : Vt} {f n : Nat} {fr : Int32} {ys lz ks ar : Nat → Int32} (h : V 0 15 = nI f) : rdR V f n (0, fr, 0, 0, ys, lz, ks, ar) (up2 (up2 V 0 17 0) 0 18 0) 0 (0, fr, 0, 0, ys, lz, ks, ar) :=
  ⟨(frD.up (by omega)).tr (frD.up (by omega)), rfl, Nat.zero_le n, by rw [up2_i _ _ (by decide), up2_i _ _ (by decide)]; exact h, by rw [up2_i _ _ (by decide), up2_s]; rfl, by rw [up2_s]; rfl, fun q => absurd q (show ¬ 2 ≤ 0 by decide), fun i hi => absurd hi (Nat.not_lt_zero i), fun i hi => absurd hi (Nat.not_lt_zero i)⟩
/-- the throwers' loop: the girls are read, or a thrower is -/
def rdS (V : Vt) (f n g t p s : Nat) : Prop := (s = 2 ∧ t = 0 ∧ 0 < g ∧ (g < 4 → ¬ (p < n ∧ V 3 (f + p) = 44))) ∨ (s = 7 ∧ 0 < t)
theorem rdS_no {V : Vt} {f n g t p s : Nat} {fr : Int32} {ys lz ks ar : Nat → Int32} (h : rdS V f n g t p s) (hp : p < n) (hz : ¬ V 3 (f + p) = 59) : auS (s, fr, g, t, ys, lz, ks, ar) (V 3 (f + p)) = none := by
  rcases h with ⟨rfl, -, -, h_4_⟩ | ⟨rfl, -⟩
  · rw [auS_2]
    by_cases c : V 3 (f + p) = 44
    · rw [if_pos c, if_neg (fun q => h_4_ q ⟨hp, c⟩)]
    · rw [if_neg c, if_neg (fun q => hz q.1)]
  · rw [auS_7, if_neg (fun q => hz q.1)]
theorem rdS_yes {V : Vt} {f n g t p s : Nat} {fr : Int32} {ys lz ks ar : Nat → Int32} (h : rdS V f n g t p s) (ht : t < 5) (hz : V 3 (f + p) = 59) : auS (s, fr, g, t, ys, lz, ks, ar) (V 3 (f + p)) = some (5, fr, g, t, ys, lz, ks, ar) := by
  rcases h with ⟨rfl, -, hg, -⟩ | ⟨rfl, -⟩
  · rw [auS_2, hz, if_neg (by decide), if_pos ⟨rfl, hg⟩]
  · rw [auS_7, if_pos ⟨hz, ht⟩]
abbrev rm_X12_readDale : Room := { frames := 3, cells := 0, slots := 0, locals := 68 }
set_option maxHeartbeats 4000000 in
set_option maxRecDepth 100000 in
theorem k_X12_readDale (l : Launch) (ad : Nat → Nat) (V : Vt) (z0 : Int32) (en : Nat) (e0 : z0 = nI en) (hen : en < 241) (f9 n : Nat) (hen9 : en = f9 + n) (hat : V 0 15 = nI f9) (fr0 : Int32) (ys0 ls0 ks0 as0 : Nat → Int32)  : Ct l yX12_readDale cX12_readDale 2 (some .boolean) rm_X12_readDale (mS ad) V [.ref (ad (0)), .int (z0)] (rI fun x V2 => rdO V f9 n (0, fr0, 0, 0, ys0, ls0, ks0, as0) x V2) := by
  subst e0
  refine Ct_of (by decide) (Nat.le_of_ble_eq_true rfl) ?_
  intro p e s m below meth c A D cy ls C hl
  have hl : lv_has ls 2 [(0, .ref (ad (0))), (1, .int (nI en))] := hl
  refine j_aload_n C dX12_readDale_0 rfl (lv_at hl 0 rfl) ?_
  refine j_iconst (v := 0) C dX12_readDale_1 (by decide) ?_
  refine j_putI (k := 0) C (f_RX12_129_12) p_12_17 (ml (by decide)) (rfl) dX12_readDale_2 (fun V1 eV1 => ?_)
  refine j_aload_n C dX12_readDale_5 rfl (lv_at hl 0 rfl) ?_
  refine j_iconst (v := 0) C dX12_readDale_6 (by decide) ?_
  refine j_putI (k := 0) C (f_RX12_132_12) p_12_18 (ml (by decide)) (rfl) dX12_readDale_7 (fun V2 eV2 => ?_)
  have hR0 : rdR V f9 n (0, fr0, 0, 0, ys0, ls0, ks0, as0) V2 0 (0, fr0, 0, 0, ys0, ls0, ks0, as0) := by rw [eV2, eV1]; exact rd_0 hat
  refine j_aload_n C dX12_readDale_10 rfl (lv_at hl 0 rfl) ?_
  refine j_iload_n C dX12_readDale_11 rfl (lv_at hl 1 rfl) ?_
  refine j_bipush (v := 113) C dX12_readDale_12 (by decide) ?_
  refine j_callV (k := 0) C [.int (nI en), .int (113)] [] (k_X12_isSign l ad V2 (nI en) (113) en (rfl) (by omega) f9 hR0.2.2.2.1 (by omega)) v_RX12_138 (ml (by decide)) (rfl) rfl ⟨rfl, rfl, Nat.le_of_ble_eq_true rfl, Nat.le_of_ble_eq_true rfl⟩ rfl hl.1 rfl (Nat.le_of_ble_eq_true rfl) ⟨Nat.le_of_ble_eq_true rfl, Nat.le_of_ble_eq_true rfl⟩ dX12_readDale_14 (kI fun x_1_ U1 h_1_ => ?_)
  obtain ⟨eU1, h_1_⟩ := h_1_
  by_cases dq1 : (f9) < en ∧ V2 3 (f9) = 113
  · replace h_1_ := h_1_.trans (bI_t dq1)
    replace eU1 := eU1.trans (if_pos dq1)
    subst h_1_
    have hR1 : rdR V f9 n (0, fr0, 0, 0, ys0, ls0, ks0, as0) U1 1 (1, fr0, 0, 0, ys0, ls0, ks0, as0) := by rw [eU1]; exact rd_sign hR0 (by omega) ((auS_0 ..).trans (if_pos (by rw [← rd_3 hR0.1]; exact dq1.2))) (by decide)
    refine j_if_ne (tgt := 22) C dX12_readDale_17 (by decide) (fun c_2_ => ?_) (fun c_2_ => ?_)
    · skip
      refine j_aload_n C dX12_readDale_22 rfl (lv_at hl 0 rfl) ?_
      refine j_aload_n C dX12_readDale_23 rfl (lv_at hl 0 rfl) ?_
      refine j_iload_n C dX12_readDale_24 rfl (lv_at hl 1 rfl) ?_
      refine j_iconst (v := 0) C dX12_readDale_25 (by decide) ?_
      refine j_iconst (v := 3) C dX12_readDale_26 (by decide) ?_
      refine j_callV (k := 0) C [.int (nI en), .int (0), .int (3)] [.ref (ad (0))] (k_X12_digit l ad U1 (nI en) (0) (3) en (rfl) (by omega) 0 (show (0 : Int32) = nI 0 from rfl) (by omega) 3 (show (3 : Int32) = nI 3 from rfl) (by omega) (f9 + 1) hR1.2.2.2.1 (by have := dq1.1; omega)) v_RX12_141 (ml (by decide)) (rfl) rfl ⟨rfl, rfl, Nat.le_of_ble_eq_true rfl, Nat.le_of_ble_eq_true rfl⟩ rfl hl.1 rfl (Nat.le_of_ble_eq_true rfl) ⟨Nat.le_of_ble_eq_true rfl, Nat.le_of_ble_eq_true rfl⟩ dX12_readDale_27 (kI fun x_3_ U3 h_3_ => ?_)
      obtain ⟨eU3, h_3_⟩ := h_3_
      by_cases dq3 : dgP U1 (f9 + 1) en 0 3
      · replace h_3_ := h_3_.trans (if_pos dq3)
        replace eU3 := eU3.trans (if_pos dq3)
        refine j_putI (k := 0) C (f_RX12_123_12) p_12_16 (ml (by decide)) (rfl) dX12_readDale_30 (fun V3 eV3 => ?_)
        have e31 := rd_3 hR1.1
        obtain ⟨fr9, efr9⟩ : ∃ fr9, fr9 = dgI (V 3 (f9 + 1)) := ⟨_, rfl⟩
        have hRg : rdR V f9 n (0, fr0, 0, 0, ys0, ls0, ks0, as0) V3 2 (2, fr9, 0, 0, ys0, ls0, ks0, as0) := by rw [eV3, eU3, h_3_, efr9, e31]; exact rd_frost hen9 rfl hR1 dq3
        refine j_aload_n C dX12_readDale_33 rfl (lv_at hl 0 rfl) ?_
        refine j_getI (k := 0) C (f_RX12_123_12) (ml (by decide)) (rfl) dX12_readDale_34 ?_
        refine j_bipush (v := (-9)) C dX12_readDale_37 (by decide) ?_
        refine j_icmp_ne (tgt := 44) C dX12_readDale_39 (by decide) (fun c_4_ => ?_) (fun c_4_ => ?_)
        · skip
          have loop : ∀ (n_9_ : Nat) (p8 : Nat) (g : Nat) (ys : Nat → Int32) (lz9 : Nat → Int32) (Vi : Vt), g ≤ 4 → rdR V f9 n (0, fr0, 0, 0, ys0, ls0, ks0, as0) Vi p8 (2, fr9, g, 0, ys, lz9, ks0, as0) → 4 - g < n_9_ → ∀ (ls : Array Slot), lv_has ls 2 [(0, .ref (ad (0))), (1, .int (nI en))] → J p l e rm_X12_readDale s m [.ref (ad (0)), .int (nI en)].toArray below meth c A D cy 0 0 (MQ below (gPost D cy A (fun o9 σ2 V2 => σ2 = mS ad ∧ (rI fun x V2 => rdO V f9 n (0, fr0, 0, 0, ys0, ls0, ks0, as0) x V2) o9 V2)) [.ref (ad (0)), .int (nI en)].toArray s 0 0 A) (mS ad) Vi (F0 m 44 ls []) := by
            intro n_9_
            induction n_9_ with
            | zero =>
              intro p8 g ys lz9 Vi hi hR hm
              exact absurd hm (by omega)
            | succ n_9_ ih_loop =>
              intro p8 g ys lz9 Vi hi hR hm ls hl
              refine j_aload_n C dX12_readDale_44 rfl (lv_at hl 0 rfl) ?_
              refine j_getI (k := 0) C (f_RX12_129_12) (ml (by decide)) (rfl) dX12_readDale_45 ?_
              refine j_if_eq (tgt := 69) C dX12_readDale_48 (by decide) (fun c_5_ => ?_) (fun c_5_ => ?_)
              · skip
                have q5 := cEq ((show Vi 0 17 = nI g from hR.2.2.2.2.1)) (show (0 : Int32) = nI 0 from rfl) (by omega) (by omega) c_5_
                refine j_aload_n C dX12_readDale_69 rfl (lv_at hl 0 rfl) ?_
                refine j_iload_n C dX12_readDale_70 rfl (lv_at hl 1 rfl) ?_
                refine j_bipush (v := 44) C dX12_readDale_71 (by decide) ?_
                refine j_callV (k := 0) C [.int (nI en), .int (44)] [] (k_X12_isSign l ad Vi (nI en) (44) en (rfl) (by omega) (f9 + p8) hR.2.2.2.1 (by have := hR.2.2.1; omega)) v_RX12_138 (ml (by decide)) (rfl) rfl ⟨rfl, rfl, Nat.le_of_ble_eq_true rfl, Nat.le_of_ble_eq_true rfl⟩ rfl hl.1 rfl (Nat.le_of_ble_eq_true rfl) ⟨Nat.le_of_ble_eq_true rfl, Nat.le_of_ble_eq_true rfl⟩ dX12_readDale_73 (kI fun x_6_ U6 h_6_ => ?_)
                obtain ⟨eU6, h_6_⟩ := h_6_
                by_cases dq6 : (f9 + p8) < en ∧ Vi 3 (f9 + p8) = 44
                · replace h_6_ := h_6_.trans (bI_t dq6)
                  replace eU6 := eU6.trans (if_pos dq6)
                  subst h_6_
                  have hR3 : rdR V f9 n (0, fr0, 0, 0, ys0, ls0, ks0, as0) U6 (p8 + 1) (3, fr9, g, 0, ys, lz9, ks0, as0) := by rw [eU6]; exact rd_sign hR (by omega) (by rw [auS_2, if_pos (by rw [← rd_3 hR.1]; exact dq6.2), if_pos (by omega)]) (by decide)
                  refine j_if_eq (tgt := 87) C dX12_readDale_76 (by decide) (fun c_7_ => ?_) (fun c_7_ => ?_)
                  · exact absurd c_7_ (by decide)
                  · skip
                    refine j_aload_n C dX12_readDale_79 rfl (lv_at hl 0 rfl) ?_
                    refine j_iload_n C dX12_readDale_80 rfl (lv_at hl 1 rfl) ?_
                    refine j_callV (k := 0) C [.int (nI en)] [] (k_X12_readTheGirl l ad U6 (nI en) en (rfl) (by omega) (f9 + p8 + 1) hR3.2.2.2.1 (by have := hR3.2.2.1; omega) g hR3.2.2.2.2.1 (by omega)) v_RX12_145 (ml (by decide)) (rfl) rfl ⟨rfl, rfl, Nat.le_of_ble_eq_true rfl, Nat.le_of_ble_eq_true rfl⟩ rfl hl.1 rfl (Nat.le_of_ble_eq_true rfl) ⟨Nat.le_of_ble_eq_true rfl, Nat.le_of_ble_eq_true rfl⟩ dX12_readDale_81 (kI fun x_8_ U8 h_8_ => ?_)
                    obtain ⟨hfd8, h_8_⟩ := h_8_
                    rcases h_8_ with ⟨ex8, da8, at8⟩ | ⟨ex8, da8, db8, at8⟩ | ⟨ex8, da8, db8, eW8⟩
                    · subst ex8
                      refine j_if_ne (tgt := 44) C dX12_readDale_84 (by decide) (fun c_9_ => ?_) (fun c_9_ => ?_)
                      · exact absurd rfl c_9_
                      · skip
                        refine j_iconst (v := 0) C dX12_readDale_87 (by decide) ?_
                        refine j_zret C rfl ⟨rfl, _, rfl, ?_⟩ dX12_readDale_88
                        exact rd_no hR3 (fun _ => (show ¬ (3 : Nat) = 7 by decide)) (fun z => (auS_3 ..).trans (if_neg (fun y => da8 ⟨by omega, by rw [rd_3 hR3.1]; exact y⟩))) hfd8 at8
                    · subst ex8
                      refine j_if_ne (tgt := 44) C dX12_readDale_84 (by decide) (fun c_10_ => ?_) (fun c_10_ => ?_)
                      · exact absurd rfl c_10_
                      · skip
                        refine j_iconst (v := 0) C dX12_readDale_87 (by decide) ?_
                        refine j_zret C rfl ⟨rfl, _, rfl, ?_⟩ dX12_readDale_88
                        exact rd_no2 hR3 (by have := da8.1; omega) ((auS_3 ..).trans (if_pos (by have y := da8.2; rw [rd_3 hR3.1] at y; exact y))) (show ¬ (4 : Nat) = 7 by decide) (fun z => (auS_4 ..).trans (if_neg (fun y => db8 ⟨by omega, by rw [rd_3 hR3.1]; exact y⟩))) hfd8 at8
                    · subst ex8
                      refine j_if_ne (tgt := 44) C dX12_readDale_84 (by decide) (fun c_11_ => ?_) (fun c_11_ => ?_)
                      · skip
                        exact ih_loop (p8 + 3) (g + 1) (upd ys g (dgI (V 3 (f9 + (p8 + 1))))) (upd lz9 g (dgI (V 3 (f9 + (p8 + 1) + 1)))) U8 (by omega) (by rw [eW8]; exact rd_girl hen9 rfl hR3 da8 db8) (by omega) ls (lv_sub hl [0, 1] rfl)
                      · exact absurd c_11_ (by decide)
                · replace h_6_ := h_6_.trans (bI_f dq6)
                  replace eU6 := eU6.trans (if_neg dq6)
                  subst h_6_
                  skip
                  refine j_if_eq (tgt := 87) C dX12_readDale_76 (by decide) (fun c_12_ => ?_) (fun c_12_ => ?_)
                  · skip
                    refine j_iconst (v := 0) C dX12_readDale_87 (by decide) ?_
                    refine j_zret C rfl ⟨rfl, _, rfl, ?_⟩ dX12_readDale_88
                    refine rd_no hR (fun _ => (show ¬ (2 : Nat) = 7 by decide)) (fun z => ?_) (by rw [eU6]; exact frD.rf) (by rw [eU6]; exact hR.2.2.2.1)
                    rw [auS_2, if_neg (fun y => dq6 ⟨by omega, by rw [rd_3 hR.1]; exact y⟩), if_neg (fun y => absurd y.2 (by omega))]
                  · exact absurd rfl c_12_
              · skip
                have q5 := cNq ((show Vi 0 17 = nI g from hR.2.2.2.2.1)) (show (0 : Int32) = nI 0 from rfl) (by omega) (by omega) c_5_
                refine j_aload_n C dX12_readDale_51 rfl (lv_at hl 0 rfl) ?_
                refine j_getI (k := 0) C (f_RX12_129_12) (ml (by decide)) (rfl) dX12_readDale_52 ?_
                refine j_iconst (v := 4) C dX12_readDale_55 (by decide) ?_
                refine j_icmp_ge (tgt := 89) C dX12_readDale_56 (by decide) (fun c_13_ => ?_) (fun c_13_ => ?_)
                · have n_13_ := Int32.not_lt.mpr c_13_
                  have q13 := cLe (show (4 : Int32) = nI 4 from rfl) ((show Vi 0 17 = nI g from hR.2.2.2.2.1)) (by omega) (by omega) c_13_
                  have loop2 : ∀ (n_9_ : Nat) (p7 : Nat) (t : Nat) (ks : Nat → Int32) (ar9 : Nat → Int32) (s_9_ : Nat) (Vj : Vt), t ≤ 5 → p7 ≤ n → rdR V f9 n (0, fr0, 0, 0, ys0, ls0, ks0, as0) Vj p7 (s_9_, fr9, g, t, ys, lz9, ks, ar9) → rdS V f9 n g t p7 s_9_ → 5 - t < n_9_ → ∀ (ls : Array Slot), lv_has ls 2 [(0, .ref (ad (0))), (1, .int (nI en))] → J p l e rm_X12_readDale s m [.ref (ad (0)), .int (nI en)].toArray below meth c A D cy 0 0 (MQ below (gPost D cy A (fun o9 σ2 V2 => σ2 = mS ad ∧ (rI fun x V2 => rdO V f9 n (0, fr0, 0, 0, ys0, ls0, ks0, as0) x V2) o9 V2)) [.ref (ad (0)), .int (nI en)].toArray s 0 0 A) (mS ad) Vj (F0 m 89 ls []) := by
                    intro n_9_
                    induction n_9_ with
                    | zero =>
                      intro p7 t ks ar9 s_9_ Vj hi2 hp7 hR2 hst hm
                      exact absurd hm (by omega)
                    | succ n_9_ ih_loop2 =>
                      intro p7 t ks ar9 s_9_ Vj hi2 hp7 hR2 hst hm ls hl
                      refine j_aload_n C dX12_readDale_89 rfl (lv_at hl 0 rfl) ?_
                      refine j_getI (k := 0) C (f_RX12_132_12) (ml (by decide)) (rfl) dX12_readDale_90 ?_
                      refine j_if_eq (tgt := 112) C dX12_readDale_93 (by decide) (fun c_14_ => ?_) (fun c_14_ => ?_)
                      · skip
                        have q14 := cEq ((show Vj 0 18 = nI t from hR2.2.2.2.2.2.1)) (show (0 : Int32) = nI 0 from rfl) (by omega) (by omega) c_14_
                        have p78 := hR2.2.2.1
                        refine j_aload_n C dX12_readDale_112 rfl (lv_at hl 0 rfl) ?_
                        refine j_iload_n C dX12_readDale_113 rfl (lv_at hl 1 rfl) ?_
                        refine j_bipush (v := 59) C dX12_readDale_114 (by decide) ?_
                        refine j_callV (k := 0) C [.int (nI en), .int (59)] [] (k_X12_isSign l ad Vj (nI en) (59) en (rfl) (by omega) (f9 + p7) hR2.2.2.2.1 (by have := hR2.2.2.1; omega)) v_RX12_138 (ml (by decide)) (rfl) rfl ⟨rfl, rfl, Nat.le_of_ble_eq_true rfl, Nat.le_of_ble_eq_true rfl⟩ rfl hl.1 rfl (Nat.le_of_ble_eq_true rfl) ⟨Nat.le_of_ble_eq_true rfl, Nat.le_of_ble_eq_true rfl⟩ dX12_readDale_116 (kI fun x_15_ U15 h_15_ => ?_)
                        obtain ⟨eU15, h_15_⟩ := h_15_
                        by_cases dq15 : (f9 + p7) < en ∧ Vj 3 (f9 + p7) = 59
                        · replace h_15_ := h_15_.trans (bI_t dq15)
                          replace eU15 := eU15.trans (if_pos dq15)
                          subst h_15_
                          have hR5 : rdR V f9 n (0, fr0, 0, 0, ys0, ls0, ks0, as0) U15 (p7 + 1) (5, fr9, g, t, ys, lz9, ks, ar9) := by rw [eU15]; exact rd_sign hR2 (by omega) (rdS_yes hst (by omega) (by rw [← rd_3 hR2.1]; exact dq15.2)) (fun _ => by rcases hst with z | z <;> omega)
                          refine j_if_eq (tgt := 130) C dX12_readDale_119 (by decide) (fun c_16_ => ?_) (fun c_16_ => ?_)
                          · exact absurd c_16_ (by decide)
                          · skip
                            refine j_aload_n C dX12_readDale_122 rfl (lv_at hl 0 rfl) ?_
                            refine j_iload_n C dX12_readDale_123 rfl (lv_at hl 1 rfl) ?_
                            refine j_callV (k := 0) C [.int (nI en)] [] (k_X12_readTheThrower l ad U15 (nI en) en (rfl) (by omega) (f9 + p7 + 1) hR5.2.2.2.1 (by have := hR5.2.2.1; omega) t hR5.2.2.2.2.2.1 (by omega)) v_RX12_148 (ml (by decide)) (rfl) rfl ⟨rfl, rfl, Nat.le_of_ble_eq_true rfl, Nat.le_of_ble_eq_true rfl⟩ rfl hl.1 rfl (Nat.le_of_ble_eq_true rfl) ⟨Nat.le_of_ble_eq_true rfl, Nat.le_of_ble_eq_true rfl⟩ dX12_readDale_124 (kI fun x_17_ U17 h_17_ => ?_)
                            obtain ⟨hfd17, h_17_⟩ := h_17_
                            rcases h_17_ with ⟨ex17, da17, at17⟩ | ⟨ex17, da17, db17, at17⟩ | ⟨ex17, da17, db17, eW17⟩
                            · subst ex17
                              refine j_if_ne (tgt := 89) C dX12_readDale_127 (by decide) (fun c_18_ => ?_) (fun c_18_ => ?_)
                              · exact absurd rfl c_18_
                              · skip
                                refine j_iconst (v := 0) C dX12_readDale_130 (by decide) ?_
                                refine j_zret C rfl ⟨rfl, _, rfl, ?_⟩ dX12_readDale_131
                                exact rd_no hR5 (fun _ => (show ¬ (5 : Nat) = 7 by decide)) (fun z => (auS_5 ..).trans (if_neg (fun y => da17 ⟨by omega, by rw [rd_3 hR5.1]; exact y⟩))) hfd17 at17
                            · subst ex17
                              refine j_if_ne (tgt := 89) C dX12_readDale_127 (by decide) (fun c_19_ => ?_) (fun c_19_ => ?_)
                              · exact absurd rfl c_19_
                              · skip
                                refine j_iconst (v := 0) C dX12_readDale_130 (by decide) ?_
                                refine j_zret C rfl ⟨rfl, _, rfl, ?_⟩ dX12_readDale_131
                                exact rd_no2 hR5 (by have := da17.1; omega) ((auS_5 ..).trans (if_pos (by have y := da17.2; rw [rd_3 hR5.1] at y; exact y))) (show ¬ (6 : Nat) = 7 by decide) (fun z => (auS_6 ..).trans (if_neg (fun y => db17 ⟨by omega, by rw [rd_3 hR5.1]; exact y⟩))) hfd17 at17
                            · subst ex17
                              refine j_if_ne (tgt := 89) C dX12_readDale_127 (by decide) (fun c_20_ => ?_) (fun c_20_ => ?_)
                              · skip
                                exact ih_loop2 (p7 + 3) (t + 1) (upd ks t (kbI (V 3 (f9 + (p7 + 1))))) (upd ar9 t (dgI (V 3 (f9 + (p7 + 1) + 1)))) 7 U17 (by omega) (by have := db17.1; omega) (by rw [eW17]; exact rd_thr hen9 rfl hR5 da17 db17) (Or.inr ⟨rfl, by omega⟩) (by omega) ls (lv_sub hl [0, 1] rfl)
                              · exact absurd c_20_ (by decide)
                        · replace h_15_ := h_15_.trans (bI_f dq15)
                          replace eU15 := eU15.trans (if_neg dq15)
                          subst h_15_
                          skip
                          refine j_if_eq (tgt := 130) C dX12_readDale_119 (by decide) (fun c_21_ => ?_) (fun c_21_ => ?_)
                          · skip
                            refine j_iconst (v := 0) C dX12_readDale_130 (by decide) ?_
                            refine j_zret C rfl ⟨rfl, _, rfl, ?_⟩ dX12_readDale_131
                            exact rd_no hR2 (fun y => by rcases hst with z | z; (rw [z.1]; exact (show ¬ (2 : Nat) = 7 by decide)); exact absurd z.2 (by omega)) (fun z => rdS_no hst z (fun y => dq15 ⟨by omega, by rw [rd_3 hR2.1]; exact y⟩)) (by rw [eU15]; exact frD.rf) (by rw [eU15]; exact hR2.2.2.2.1)
                          · exact absurd rfl c_21_
                      · skip
                        have q14 := cNq ((show Vj 0 18 = nI t from hR2.2.2.2.2.2.1)) (show (0 : Int32) = nI 0 from rfl) (by omega) (by omega) c_14_
                        refine j_aload_n C dX12_readDale_96 rfl (lv_at hl 0 rfl) ?_
                        refine j_getI (k := 0) C (f_RX12_132_12) (ml (by decide)) (rfl) dX12_readDale_97 ?_
                        refine j_iconst (v := 5) C dX12_readDale_100 (by decide) ?_
                        refine j_icmp_ge (tgt := 132) C dX12_readDale_101 (by decide) (fun c_22_ => ?_) (fun c_22_ => ?_)
                        · have n_22_ := Int32.not_lt.mpr c_22_
                          have q22 := cLe (show (5 : Int32) = nI 5 from rfl) ((show Vj 0 18 = nI t from hR2.2.2.2.2.2.1)) (by omega) (by omega) c_22_
                          refine j_aload_n C dX12_readDale_132 rfl (lv_at hl 0 rfl) ?_
                          refine j_getI (k := 0) C (f_RX12_95_12) (ml (by decide)) (rfl) dX12_readDale_133 ?_
                          refine j_iload_n C dX12_readDale_136 rfl (lv_at hl 1 rfl) ?_
                          refine j_icmp_ne (tgt := 144) C dX12_readDale_137 (by decide) (fun c_23_ => ?_) (fun c_23_ => ?_)
                          · skip
                            have q23 := cNq (hR2.2.2.2.1) (rfl) (by omega) (by omega) c_23_
                            refine j_iconst (v := 0) C dX12_readDale_144 (by decide) ?_
                            refine j_zret C rfl ⟨rfl, _, rfl, ?_⟩ dX12_readDale_145
                            have es7 : s_9_ = 7 ∧ 0 < t := hst.resolve_left (fun z => absurd z.2.1 (by omega))
                            have p79 := hR2.2.2.1
                            refine rd_no hR2 (fun y => absurd y (by omega)) (fun z => ?_) frD.rf hR2.2.2.2.1
                            rw [es7.1, auS_7, if_neg (fun y => absurd y.2 (by omega))]
                          · skip
                            have q23 := cEq (hR2.2.2.2.1) (rfl) (by omega) (by omega) c_23_
                            refine j_iconst (v := 1) C dX12_readDale_140 (by decide) ?_
                            refine j_goto (tgt := 145) C dX12_readDale_141 (by decide) ?_
                            refine j_zret C rfl ⟨rfl, _, rfl, ?_⟩ dX12_readDale_145
                            have es7 : s_9_ = 7 ∧ 0 < t := hst.resolve_left (fun z => absurd z.2.1 (by omega))
                            obtain rfl : p7 = n := by omega
                            exact ⟨hR2.1, Or.inl ⟨rfl, _, hR2.2.1, es7.1, hR2.2.2.2.2, (show g ≤ 4 by omega), (show t ≤ 5 by omega)⟩⟩
                        · have n_22_ := Int32.not_le.mp c_22_
                          have q22 := cNe (show (5 : Int32) = nI 5 from rfl) ((show Vj 0 18 = nI t from hR2.2.2.2.2.2.1)) (by omega) (by omega) c_22_
                          refine j_aload_n C dX12_readDale_104 rfl (lv_at hl 0 rfl) ?_
                          refine j_getI (k := 0) C (f_RX12_95_12) (ml (by decide)) (rfl) dX12_readDale_105 ?_
                          refine j_iload_n C dX12_readDale_108 rfl (lv_at hl 1 rfl) ?_
                          refine j_icmp_ge (tgt := 132) C dX12_readDale_109 (by decide) (fun c_24_ => ?_) (fun c_24_ => ?_)
                          · have n_24_ := Int32.not_lt.mpr c_24_
                            have q24 := cLe (rfl) (hR2.2.2.2.1) (by omega) (by omega) c_24_
                            have p78 := hR2.2.2.1
                            refine j_aload_n C dX12_readDale_132 rfl (lv_at hl 0 rfl) ?_
                            refine j_getI (k := 0) C (f_RX12_95_12) (ml (by decide)) (rfl) dX12_readDale_133 ?_
                            refine j_iload_n C dX12_readDale_136 rfl (lv_at hl 1 rfl) ?_
                            refine j_icmp_ne (tgt := 144) C dX12_readDale_137 (by decide) (fun c_25_ => ?_) (fun c_25_ => ?_)
                            · skip
                              have q25 := cNq (hR2.2.2.2.1) (rfl) (by omega) (by omega) c_25_
                              refine j_iconst (v := 0) C dX12_readDale_144 (by decide) ?_
                              refine j_zret C rfl ⟨rfl, _, rfl, ?_⟩ dX12_readDale_145
                              have es7 : s_9_ = 7 ∧ 0 < t := hst.resolve_left (fun z => absurd z.2.1 (by omega))
                              have p79 := hR2.2.2.1
                              refine rd_no hR2 (fun y => absurd y (by omega)) (fun z => ?_) frD.rf hR2.2.2.2.1
                              rw [es7.1, auS_7, if_neg (fun y => absurd y.2 (by omega))]
                            · skip
                              have q25 := cEq (hR2.2.2.2.1) (rfl) (by omega) (by omega) c_25_
                              refine j_iconst (v := 1) C dX12_readDale_140 (by decide) ?_
                              refine j_goto (tgt := 145) C dX12_readDale_141 (by decide) ?_
                              refine j_zret C rfl ⟨rfl, _, rfl, ?_⟩ dX12_readDale_145
                              have es7 : s_9_ = 7 ∧ 0 < t := hst.resolve_left (fun z => absurd z.2.1 (by omega))
                              obtain rfl : p7 = n := by omega
                              exact ⟨hR2.1, Or.inl ⟨rfl, _, hR2.2.1, es7.1, hR2.2.2.2.2, (show g ≤ 4 by omega), (show t ≤ 5 by omega)⟩⟩
                          · have n_24_ := Int32.not_le.mp c_24_
                            have q24 := cNe (rfl) (hR2.2.2.2.1) (by omega) (by omega) c_24_
                            have p78 := hR2.2.2.1
                            refine j_aload_n C dX12_readDale_112 rfl (lv_at hl 0 rfl) ?_
                            refine j_iload_n C dX12_readDale_113 rfl (lv_at hl 1 rfl) ?_
                            refine j_bipush (v := 59) C dX12_readDale_114 (by decide) ?_
                            refine j_callV (k := 0) C [.int (nI en), .int (59)] [] (k_X12_isSign l ad Vj (nI en) (59) en (rfl) (by omega) (f9 + p7) hR2.2.2.2.1 (by have := hR2.2.2.1; omega)) v_RX12_138 (ml (by decide)) (rfl) rfl ⟨rfl, rfl, Nat.le_of_ble_eq_true rfl, Nat.le_of_ble_eq_true rfl⟩ rfl hl.1 rfl (Nat.le_of_ble_eq_true rfl) ⟨Nat.le_of_ble_eq_true rfl, Nat.le_of_ble_eq_true rfl⟩ dX12_readDale_116 (kI fun x_26_ U26 h_26_ => ?_)
                            obtain ⟨eU26, h_26_⟩ := h_26_
                            by_cases dq26 : (f9 + p7) < en ∧ Vj 3 (f9 + p7) = 59
                            · replace h_26_ := h_26_.trans (bI_t dq26)
                              replace eU26 := eU26.trans (if_pos dq26)
                              subst h_26_
                              have hR5 : rdR V f9 n (0, fr0, 0, 0, ys0, ls0, ks0, as0) U26 (p7 + 1) (5, fr9, g, t, ys, lz9, ks, ar9) := by rw [eU26]; exact rd_sign hR2 (by omega) (rdS_yes hst (by omega) (by rw [← rd_3 hR2.1]; exact dq26.2)) (fun _ => by rcases hst with z | z <;> omega)
                              refine j_if_eq (tgt := 130) C dX12_readDale_119 (by decide) (fun c_27_ => ?_) (fun c_27_ => ?_)
                              · exact absurd c_27_ (by decide)
                              · skip
                                refine j_aload_n C dX12_readDale_122 rfl (lv_at hl 0 rfl) ?_
                                refine j_iload_n C dX12_readDale_123 rfl (lv_at hl 1 rfl) ?_
                                refine j_callV (k := 0) C [.int (nI en)] [] (k_X12_readTheThrower l ad U26 (nI en) en (rfl) (by omega) (f9 + p7 + 1) hR5.2.2.2.1 (by have := hR5.2.2.1; omega) t hR5.2.2.2.2.2.1 (by omega)) v_RX12_148 (ml (by decide)) (rfl) rfl ⟨rfl, rfl, Nat.le_of_ble_eq_true rfl, Nat.le_of_ble_eq_true rfl⟩ rfl hl.1 rfl (Nat.le_of_ble_eq_true rfl) ⟨Nat.le_of_ble_eq_true rfl, Nat.le_of_ble_eq_true rfl⟩ dX12_readDale_124 (kI fun x_28_ U28 h_28_ => ?_)
                                obtain ⟨hfd28, h_28_⟩ := h_28_
                                rcases h_28_ with ⟨ex28, da28, at28⟩ | ⟨ex28, da28, db28, at28⟩ | ⟨ex28, da28, db28, eW28⟩
                                · subst ex28
                                  refine j_if_ne (tgt := 89) C dX12_readDale_127 (by decide) (fun c_29_ => ?_) (fun c_29_ => ?_)
                                  · exact absurd rfl c_29_
                                  · skip
                                    refine j_iconst (v := 0) C dX12_readDale_130 (by decide) ?_
                                    refine j_zret C rfl ⟨rfl, _, rfl, ?_⟩ dX12_readDale_131
                                    exact rd_no hR5 (fun _ => (show ¬ (5 : Nat) = 7 by decide)) (fun z => (auS_5 ..).trans (if_neg (fun y => da28 ⟨by omega, by rw [rd_3 hR5.1]; exact y⟩))) hfd28 at28
                                · subst ex28
                                  refine j_if_ne (tgt := 89) C dX12_readDale_127 (by decide) (fun c_30_ => ?_) (fun c_30_ => ?_)
                                  · exact absurd rfl c_30_
                                  · skip
                                    refine j_iconst (v := 0) C dX12_readDale_130 (by decide) ?_
                                    refine j_zret C rfl ⟨rfl, _, rfl, ?_⟩ dX12_readDale_131
                                    exact rd_no2 hR5 (by have := da28.1; omega) ((auS_5 ..).trans (if_pos (by have y := da28.2; rw [rd_3 hR5.1] at y; exact y))) (show ¬ (6 : Nat) = 7 by decide) (fun z => (auS_6 ..).trans (if_neg (fun y => db28 ⟨by omega, by rw [rd_3 hR5.1]; exact y⟩))) hfd28 at28
                                · subst ex28
                                  refine j_if_ne (tgt := 89) C dX12_readDale_127 (by decide) (fun c_31_ => ?_) (fun c_31_ => ?_)
                                  · skip
                                    exact ih_loop2 (p7 + 3) (t + 1) (upd ks t (kbI (V 3 (f9 + (p7 + 1))))) (upd ar9 t (dgI (V 3 (f9 + (p7 + 1) + 1)))) 7 U28 (by omega) (by have := db28.1; omega) (by rw [eW28]; exact rd_thr hen9 rfl hR5 da28 db28) (Or.inr ⟨rfl, by omega⟩) (by omega) ls (lv_sub hl [0, 1] rfl)
                                  · exact absurd c_31_ (by decide)
                            · replace h_26_ := h_26_.trans (bI_f dq26)
                              replace eU26 := eU26.trans (if_neg dq26)
                              subst h_26_
                              skip
                              refine j_if_eq (tgt := 130) C dX12_readDale_119 (by decide) (fun c_32_ => ?_) (fun c_32_ => ?_)
                              · skip
                                refine j_iconst (v := 0) C dX12_readDale_130 (by decide) ?_
                                refine j_zret C rfl ⟨rfl, _, rfl, ?_⟩ dX12_readDale_131
                                exact rd_no hR2 (fun y => absurd y (by omega)) (fun z => rdS_no hst z (fun y => dq26 ⟨by omega, by rw [rd_3 hR2.1]; exact y⟩)) (by rw [eU26]; exact frD.rf) (by rw [eU26]; exact hR2.2.2.2.1)
                              · exact absurd rfl c_32_
                  exact loop2 6 p8 0 ks0 as0 2 Vi (by omega) hR.2.2.1 hR (Or.inl ⟨rfl, rfl, by omega, fun z => absurd z (by omega)⟩) (by omega) ls (lv_sub hl [0, 1] rfl)
                · have n_13_ := Int32.not_le.mp c_13_
                  have q13 := cNe (show (4 : Int32) = nI 4 from rfl) ((show Vi 0 17 = nI g from hR.2.2.2.2.1)) (by omega) (by omega) c_13_
                  refine j_aload_n C dX12_readDale_59 rfl (lv_at hl 0 rfl) ?_
                  refine j_iload_n C dX12_readDale_60 rfl (lv_at hl 1 rfl) ?_
                  refine j_bipush (v := 44) C dX12_readDale_61 (by decide) ?_
                  refine j_callV (k := 0) C [.int (nI en), .int (44)] [] (k_X12_isNext l ad Vi (nI en) (44) en (rfl) (by omega) (f9 + p8) hR.2.2.2.1 (by have := hR.2.2.1; omega)) v_RX12_98 (ml (by decide)) (rfl) rfl ⟨rfl, rfl, Nat.le_of_ble_eq_true rfl, Nat.le_of_ble_eq_true rfl⟩ rfl hl.1 rfl (Nat.le_of_ble_eq_true rfl) ⟨Nat.le_of_ble_eq_true rfl, Nat.le_of_ble_eq_true rfl⟩ dX12_readDale_63 (kI fun x_33_ U33 h_33_ => ?_)
                  obtain ⟨eU33, h_33_⟩ := h_33_
                  have eU33 := eU33.symm
                  subst eU33
                  refine j_if_eq (tgt := 89) C dX12_readDale_66 (by decide) (fun c_34_ => ?_) (fun c_34_ => ?_)
                  · skip
                    have b34 := bI_0.mp (h_33_ ▸ c_34_)
                    have loop2 : ∀ (n_9_ : Nat) (p7 : Nat) (t : Nat) (ks : Nat → Int32) (ar9 : Nat → Int32) (s_9_ : Nat) (Vj : Vt), t ≤ 5 → p7 ≤ n → rdR V f9 n (0, fr0, 0, 0, ys0, ls0, ks0, as0) Vj p7 (s_9_, fr9, g, t, ys, lz9, ks, ar9) → rdS V f9 n g t p7 s_9_ → 5 - t < n_9_ → ∀ (ls : Array Slot), lv_has ls 2 [(0, .ref (ad (0))), (1, .int (nI en))] → J p l e rm_X12_readDale s m [.ref (ad (0)), .int (nI en)].toArray below meth c A D cy 0 0 (MQ below (gPost D cy A (fun o9 σ2 V2 => σ2 = mS ad ∧ (rI fun x V2 => rdO V f9 n (0, fr0, 0, 0, ys0, ls0, ks0, as0) x V2) o9 V2)) [.ref (ad (0)), .int (nI en)].toArray s 0 0 A) (mS ad) Vj (F0 m 89 ls []) := by
                      intro n_9_
                      induction n_9_ with
                      | zero =>
                        intro p7 t ks ar9 s_9_ Vj hi2 hp7 hR2 hst hm
                        exact absurd hm (by omega)
                      | succ n_9_ ih_loop2 =>
                        intro p7 t ks ar9 s_9_ Vj hi2 hp7 hR2 hst hm ls hl
                        refine j_aload_n C dX12_readDale_89 rfl (lv_at hl 0 rfl) ?_
                        refine j_getI (k := 0) C (f_RX12_132_12) (ml (by decide)) (rfl) dX12_readDale_90 ?_
                        refine j_if_eq (tgt := 112) C dX12_readDale_93 (by decide) (fun c_35_ => ?_) (fun c_35_ => ?_)
                        · skip
                          have q35 := cEq ((show Vj 0 18 = nI t from hR2.2.2.2.2.2.1)) (show (0 : Int32) = nI 0 from rfl) (by omega) (by omega) c_35_
                          have p78 := hR2.2.2.1
                          refine j_aload_n C dX12_readDale_112 rfl (lv_at hl 0 rfl) ?_
                          refine j_iload_n C dX12_readDale_113 rfl (lv_at hl 1 rfl) ?_
                          refine j_bipush (v := 59) C dX12_readDale_114 (by decide) ?_
                          refine j_callV (k := 0) C [.int (nI en), .int (59)] [] (k_X12_isSign l ad Vj (nI en) (59) en (rfl) (by omega) (f9 + p7) hR2.2.2.2.1 (by have := hR2.2.2.1; omega)) v_RX12_138 (ml (by decide)) (rfl) rfl ⟨rfl, rfl, Nat.le_of_ble_eq_true rfl, Nat.le_of_ble_eq_true rfl⟩ rfl hl.1 rfl (Nat.le_of_ble_eq_true rfl) ⟨Nat.le_of_ble_eq_true rfl, Nat.le_of_ble_eq_true rfl⟩ dX12_readDale_116 (kI fun x_36_ U36 h_36_ => ?_)
                          obtain ⟨eU36, h_36_⟩ := h_36_
                          by_cases dq36 : (f9 + p7) < en ∧ Vj 3 (f9 + p7) = 59
                          · replace h_36_ := h_36_.trans (bI_t dq36)
                            replace eU36 := eU36.trans (if_pos dq36)
                            subst h_36_
                            have hR5 : rdR V f9 n (0, fr0, 0, 0, ys0, ls0, ks0, as0) U36 (p7 + 1) (5, fr9, g, t, ys, lz9, ks, ar9) := by rw [eU36]; exact rd_sign hR2 (by omega) (rdS_yes hst (by omega) (by rw [← rd_3 hR2.1]; exact dq36.2)) (fun _ => by rcases hst with z | z <;> omega)
                            refine j_if_eq (tgt := 130) C dX12_readDale_119 (by decide) (fun c_37_ => ?_) (fun c_37_ => ?_)
                            · exact absurd c_37_ (by decide)
                            · skip
                              refine j_aload_n C dX12_readDale_122 rfl (lv_at hl 0 rfl) ?_
                              refine j_iload_n C dX12_readDale_123 rfl (lv_at hl 1 rfl) ?_
                              refine j_callV (k := 0) C [.int (nI en)] [] (k_X12_readTheThrower l ad U36 (nI en) en (rfl) (by omega) (f9 + p7 + 1) hR5.2.2.2.1 (by have := hR5.2.2.1; omega) t hR5.2.2.2.2.2.1 (by omega)) v_RX12_148 (ml (by decide)) (rfl) rfl ⟨rfl, rfl, Nat.le_of_ble_eq_true rfl, Nat.le_of_ble_eq_true rfl⟩ rfl hl.1 rfl (Nat.le_of_ble_eq_true rfl) ⟨Nat.le_of_ble_eq_true rfl, Nat.le_of_ble_eq_true rfl⟩ dX12_readDale_124 (kI fun x_38_ U38 h_38_ => ?_)
                              obtain ⟨hfd38, h_38_⟩ := h_38_
                              rcases h_38_ with ⟨ex38, da38, at38⟩ | ⟨ex38, da38, db38, at38⟩ | ⟨ex38, da38, db38, eW38⟩
                              · subst ex38
                                refine j_if_ne (tgt := 89) C dX12_readDale_127 (by decide) (fun c_39_ => ?_) (fun c_39_ => ?_)
                                · exact absurd rfl c_39_
                                · skip
                                  refine j_iconst (v := 0) C dX12_readDale_130 (by decide) ?_
                                  refine j_zret C rfl ⟨rfl, _, rfl, ?_⟩ dX12_readDale_131
                                  exact rd_no hR5 (fun _ => (show ¬ (5 : Nat) = 7 by decide)) (fun z => (auS_5 ..).trans (if_neg (fun y => da38 ⟨by omega, by rw [rd_3 hR5.1]; exact y⟩))) hfd38 at38
                              · subst ex38
                                refine j_if_ne (tgt := 89) C dX12_readDale_127 (by decide) (fun c_40_ => ?_) (fun c_40_ => ?_)
                                · exact absurd rfl c_40_
                                · skip
                                  refine j_iconst (v := 0) C dX12_readDale_130 (by decide) ?_
                                  refine j_zret C rfl ⟨rfl, _, rfl, ?_⟩ dX12_readDale_131
                                  exact rd_no2 hR5 (by have := da38.1; omega) ((auS_5 ..).trans (if_pos (by have y := da38.2; rw [rd_3 hR5.1] at y; exact y))) (show ¬ (6 : Nat) = 7 by decide) (fun z => (auS_6 ..).trans (if_neg (fun y => db38 ⟨by omega, by rw [rd_3 hR5.1]; exact y⟩))) hfd38 at38
                              · subst ex38
                                refine j_if_ne (tgt := 89) C dX12_readDale_127 (by decide) (fun c_41_ => ?_) (fun c_41_ => ?_)
                                · skip
                                  exact ih_loop2 (p7 + 3) (t + 1) (upd ks t (kbI (V 3 (f9 + (p7 + 1))))) (upd ar9 t (dgI (V 3 (f9 + (p7 + 1) + 1)))) 7 U38 (by omega) (by have := db38.1; omega) (by rw [eW38]; exact rd_thr hen9 rfl hR5 da38 db38) (Or.inr ⟨rfl, by omega⟩) (by omega) ls (lv_sub hl [0, 1] rfl)
                                · exact absurd c_41_ (by decide)
                          · replace h_36_ := h_36_.trans (bI_f dq36)
                            replace eU36 := eU36.trans (if_neg dq36)
                            subst h_36_
                            skip
                            refine j_if_eq (tgt := 130) C dX12_readDale_119 (by decide) (fun c_42_ => ?_) (fun c_42_ => ?_)
                            · skip
                              refine j_iconst (v := 0) C dX12_readDale_130 (by decide) ?_
                              refine j_zret C rfl ⟨rfl, _, rfl, ?_⟩ dX12_readDale_131
                              exact rd_no hR2 (fun y => by rcases hst with z | z; (rw [z.1]; exact (show ¬ (2 : Nat) = 7 by decide)); exact absurd z.2 (by omega)) (fun z => rdS_no hst z (fun y => dq36 ⟨by omega, by rw [rd_3 hR2.1]; exact y⟩)) (by rw [eU36]; exact frD.rf) (by rw [eU36]; exact hR2.2.2.2.1)
                            · exact absurd rfl c_42_
                        · skip
                          have q35 := cNq ((show Vj 0 18 = nI t from hR2.2.2.2.2.2.1)) (show (0 : Int32) = nI 0 from rfl) (by omega) (by omega) c_35_
                          refine j_aload_n C dX12_readDale_96 rfl (lv_at hl 0 rfl) ?_
                          refine j_getI (k := 0) C (f_RX12_132_12) (ml (by decide)) (rfl) dX12_readDale_97 ?_
                          refine j_iconst (v := 5) C dX12_readDale_100 (by decide) ?_
                          refine j_icmp_ge (tgt := 132) C dX12_readDale_101 (by decide) (fun c_43_ => ?_) (fun c_43_ => ?_)
                          · have n_43_ := Int32.not_lt.mpr c_43_
                            have q43 := cLe (show (5 : Int32) = nI 5 from rfl) ((show Vj 0 18 = nI t from hR2.2.2.2.2.2.1)) (by omega) (by omega) c_43_
                            refine j_aload_n C dX12_readDale_132 rfl (lv_at hl 0 rfl) ?_
                            refine j_getI (k := 0) C (f_RX12_95_12) (ml (by decide)) (rfl) dX12_readDale_133 ?_
                            refine j_iload_n C dX12_readDale_136 rfl (lv_at hl 1 rfl) ?_
                            refine j_icmp_ne (tgt := 144) C dX12_readDale_137 (by decide) (fun c_44_ => ?_) (fun c_44_ => ?_)
                            · skip
                              have q44 := cNq (hR2.2.2.2.1) (rfl) (by omega) (by omega) c_44_
                              refine j_iconst (v := 0) C dX12_readDale_144 (by decide) ?_
                              refine j_zret C rfl ⟨rfl, _, rfl, ?_⟩ dX12_readDale_145
                              have es7 : s_9_ = 7 ∧ 0 < t := hst.resolve_left (fun z => absurd z.2.1 (by omega))
                              have p79 := hR2.2.2.1
                              refine rd_no hR2 (fun y => absurd y (by omega)) (fun z => ?_) frD.rf hR2.2.2.2.1
                              rw [es7.1, auS_7, if_neg (fun y => absurd y.2 (by omega))]
                            · skip
                              have q44 := cEq (hR2.2.2.2.1) (rfl) (by omega) (by omega) c_44_
                              refine j_iconst (v := 1) C dX12_readDale_140 (by decide) ?_
                              refine j_goto (tgt := 145) C dX12_readDale_141 (by decide) ?_
                              refine j_zret C rfl ⟨rfl, _, rfl, ?_⟩ dX12_readDale_145
                              have es7 : s_9_ = 7 ∧ 0 < t := hst.resolve_left (fun z => absurd z.2.1 (by omega))
                              obtain rfl : p7 = n := by omega
                              exact ⟨hR2.1, Or.inl ⟨rfl, _, hR2.2.1, es7.1, hR2.2.2.2.2, (show g ≤ 4 by omega), (show t ≤ 5 by omega)⟩⟩
                          · have n_43_ := Int32.not_le.mp c_43_
                            have q43 := cNe (show (5 : Int32) = nI 5 from rfl) ((show Vj 0 18 = nI t from hR2.2.2.2.2.2.1)) (by omega) (by omega) c_43_
                            refine j_aload_n C dX12_readDale_104 rfl (lv_at hl 0 rfl) ?_
                            refine j_getI (k := 0) C (f_RX12_95_12) (ml (by decide)) (rfl) dX12_readDale_105 ?_
                            refine j_iload_n C dX12_readDale_108 rfl (lv_at hl 1 rfl) ?_
                            refine j_icmp_ge (tgt := 132) C dX12_readDale_109 (by decide) (fun c_45_ => ?_) (fun c_45_ => ?_)
                            · have n_45_ := Int32.not_lt.mpr c_45_
                              have q45 := cLe (rfl) (hR2.2.2.2.1) (by omega) (by omega) c_45_
                              have p78 := hR2.2.2.1
                              refine j_aload_n C dX12_readDale_132 rfl (lv_at hl 0 rfl) ?_
                              refine j_getI (k := 0) C (f_RX12_95_12) (ml (by decide)) (rfl) dX12_readDale_133 ?_
                              refine j_iload_n C dX12_readDale_136 rfl (lv_at hl 1 rfl) ?_
                              refine j_icmp_ne (tgt := 144) C dX12_readDale_137 (by decide) (fun c_46_ => ?_) (fun c_46_ => ?_)
                              · skip
                                have q46 := cNq (hR2.2.2.2.1) (rfl) (by omega) (by omega) c_46_
                                refine j_iconst (v := 0) C dX12_readDale_144 (by decide) ?_
                                refine j_zret C rfl ⟨rfl, _, rfl, ?_⟩ dX12_readDale_145
                                have es7 : s_9_ = 7 ∧ 0 < t := hst.resolve_left (fun z => absurd z.2.1 (by omega))
                                have p79 := hR2.2.2.1
                                refine rd_no hR2 (fun y => absurd y (by omega)) (fun z => ?_) frD.rf hR2.2.2.2.1
                                rw [es7.1, auS_7, if_neg (fun y => absurd y.2 (by omega))]
                              · skip
                                have q46 := cEq (hR2.2.2.2.1) (rfl) (by omega) (by omega) c_46_
                                refine j_iconst (v := 1) C dX12_readDale_140 (by decide) ?_
                                refine j_goto (tgt := 145) C dX12_readDale_141 (by decide) ?_
                                refine j_zret C rfl ⟨rfl, _, rfl, ?_⟩ dX12_readDale_145
                                have es7 : s_9_ = 7 ∧ 0 < t := hst.resolve_left (fun z => absurd z.2.1 (by omega))
                                obtain rfl : p7 = n := by omega
                                exact ⟨hR2.1, Or.inl ⟨rfl, _, hR2.2.1, es7.1, hR2.2.2.2.2, (show g ≤ 4 by omega), (show t ≤ 5 by omega)⟩⟩
                            · have n_45_ := Int32.not_le.mp c_45_
                              have q45 := cNe (rfl) (hR2.2.2.2.1) (by omega) (by omega) c_45_
                              have p78 := hR2.2.2.1
                              refine j_aload_n C dX12_readDale_112 rfl (lv_at hl 0 rfl) ?_
                              refine j_iload_n C dX12_readDale_113 rfl (lv_at hl 1 rfl) ?_
                              refine j_bipush (v := 59) C dX12_readDale_114 (by decide) ?_
                              refine j_callV (k := 0) C [.int (nI en), .int (59)] [] (k_X12_isSign l ad Vj (nI en) (59) en (rfl) (by omega) (f9 + p7) hR2.2.2.2.1 (by have := hR2.2.2.1; omega)) v_RX12_138 (ml (by decide)) (rfl) rfl ⟨rfl, rfl, Nat.le_of_ble_eq_true rfl, Nat.le_of_ble_eq_true rfl⟩ rfl hl.1 rfl (Nat.le_of_ble_eq_true rfl) ⟨Nat.le_of_ble_eq_true rfl, Nat.le_of_ble_eq_true rfl⟩ dX12_readDale_116 (kI fun x_47_ U47 h_47_ => ?_)
                              obtain ⟨eU47, h_47_⟩ := h_47_
                              by_cases dq47 : (f9 + p7) < en ∧ Vj 3 (f9 + p7) = 59
                              · replace h_47_ := h_47_.trans (bI_t dq47)
                                replace eU47 := eU47.trans (if_pos dq47)
                                subst h_47_
                                have hR5 : rdR V f9 n (0, fr0, 0, 0, ys0, ls0, ks0, as0) U47 (p7 + 1) (5, fr9, g, t, ys, lz9, ks, ar9) := by rw [eU47]; exact rd_sign hR2 (by omega) (rdS_yes hst (by omega) (by rw [← rd_3 hR2.1]; exact dq47.2)) (fun _ => by rcases hst with z | z <;> omega)
                                refine j_if_eq (tgt := 130) C dX12_readDale_119 (by decide) (fun c_48_ => ?_) (fun c_48_ => ?_)
                                · exact absurd c_48_ (by decide)
                                · skip
                                  refine j_aload_n C dX12_readDale_122 rfl (lv_at hl 0 rfl) ?_
                                  refine j_iload_n C dX12_readDale_123 rfl (lv_at hl 1 rfl) ?_
                                  refine j_callV (k := 0) C [.int (nI en)] [] (k_X12_readTheThrower l ad U47 (nI en) en (rfl) (by omega) (f9 + p7 + 1) hR5.2.2.2.1 (by have := hR5.2.2.1; omega) t hR5.2.2.2.2.2.1 (by omega)) v_RX12_148 (ml (by decide)) (rfl) rfl ⟨rfl, rfl, Nat.le_of_ble_eq_true rfl, Nat.le_of_ble_eq_true rfl⟩ rfl hl.1 rfl (Nat.le_of_ble_eq_true rfl) ⟨Nat.le_of_ble_eq_true rfl, Nat.le_of_ble_eq_true rfl⟩ dX12_readDale_124 (kI fun x_49_ U49 h_49_ => ?_)
                                  obtain ⟨hfd49, h_49_⟩ := h_49_
                                  rcases h_49_ with ⟨ex49, da49, at49⟩ | ⟨ex49, da49, db49, at49⟩ | ⟨ex49, da49, db49, eW49⟩
                                  · subst ex49
                                    refine j_if_ne (tgt := 89) C dX12_readDale_127 (by decide) (fun c_50_ => ?_) (fun c_50_ => ?_)
                                    · exact absurd rfl c_50_
                                    · skip
                                      refine j_iconst (v := 0) C dX12_readDale_130 (by decide) ?_
                                      refine j_zret C rfl ⟨rfl, _, rfl, ?_⟩ dX12_readDale_131
                                      exact rd_no hR5 (fun _ => (show ¬ (5 : Nat) = 7 by decide)) (fun z => (auS_5 ..).trans (if_neg (fun y => da49 ⟨by omega, by rw [rd_3 hR5.1]; exact y⟩))) hfd49 at49
                                  · subst ex49
                                    refine j_if_ne (tgt := 89) C dX12_readDale_127 (by decide) (fun c_51_ => ?_) (fun c_51_ => ?_)
                                    · exact absurd rfl c_51_
                                    · skip
                                      refine j_iconst (v := 0) C dX12_readDale_130 (by decide) ?_
                                      refine j_zret C rfl ⟨rfl, _, rfl, ?_⟩ dX12_readDale_131
                                      exact rd_no2 hR5 (by have := da49.1; omega) ((auS_5 ..).trans (if_pos (by have y := da49.2; rw [rd_3 hR5.1] at y; exact y))) (show ¬ (6 : Nat) = 7 by decide) (fun z => (auS_6 ..).trans (if_neg (fun y => db49 ⟨by omega, by rw [rd_3 hR5.1]; exact y⟩))) hfd49 at49
                                  · subst ex49
                                    refine j_if_ne (tgt := 89) C dX12_readDale_127 (by decide) (fun c_52_ => ?_) (fun c_52_ => ?_)
                                    · skip
                                      exact ih_loop2 (p7 + 3) (t + 1) (upd ks t (kbI (V 3 (f9 + (p7 + 1))))) (upd ar9 t (dgI (V 3 (f9 + (p7 + 1) + 1)))) 7 U49 (by omega) (by have := db49.1; omega) (by rw [eW49]; exact rd_thr hen9 rfl hR5 da49 db49) (Or.inr ⟨rfl, by omega⟩) (by omega) ls (lv_sub hl [0, 1] rfl)
                                    · exact absurd c_52_ (by decide)
                              · replace h_47_ := h_47_.trans (bI_f dq47)
                                replace eU47 := eU47.trans (if_neg dq47)
                                subst h_47_
                                skip
                                refine j_if_eq (tgt := 130) C dX12_readDale_119 (by decide) (fun c_53_ => ?_) (fun c_53_ => ?_)
                                · skip
                                  refine j_iconst (v := 0) C dX12_readDale_130 (by decide) ?_
                                  refine j_zret C rfl ⟨rfl, _, rfl, ?_⟩ dX12_readDale_131
                                  exact rd_no hR2 (fun y => absurd y (by omega)) (fun z => rdS_no hst z (fun y => dq47 ⟨by omega, by rw [rd_3 hR2.1]; exact y⟩)) (by rw [eU47]; exact frD.rf) (by rw [eU47]; exact hR2.2.2.2.1)
                                · exact absurd rfl c_53_
                    exact loop2 6 p8 0 ks0 as0 2 Vi (by omega) hR.2.2.1 hR (Or.inl ⟨rfl, rfl, by omega, fun _ y => b34 ⟨by omega, by rw [rd_3 hR.1]; exact y.2⟩⟩) (by omega) ls (lv_sub hl [0, 1] rfl)
                  · skip
                    have b34 := Decidable.not_not.mp (mt bI_0.mpr (h_33_ ▸ c_34_))
                    refine j_aload_n C dX12_readDale_69 rfl (lv_at hl 0 rfl) ?_
                    refine j_iload_n C dX12_readDale_70 rfl (lv_at hl 1 rfl) ?_
                    refine j_bipush (v := 44) C dX12_readDale_71 (by decide) ?_
                    refine j_callV (k := 0) C [.int (nI en), .int (44)] [] (k_X12_isSign l ad Vi (nI en) (44) en (rfl) (by omega) (f9 + p8) hR.2.2.2.1 (by have := hR.2.2.1; omega)) v_RX12_138 (ml (by decide)) (rfl) rfl ⟨rfl, rfl, Nat.le_of_ble_eq_true rfl, Nat.le_of_ble_eq_true rfl⟩ rfl hl.1 rfl (Nat.le_of_ble_eq_true rfl) ⟨Nat.le_of_ble_eq_true rfl, Nat.le_of_ble_eq_true rfl⟩ dX12_readDale_73 (kI fun x_54_ U54 h_54_ => ?_)
                    obtain ⟨eU54, h_54_⟩ := h_54_
                    by_cases dq54 : (f9 + p8) < en ∧ Vi 3 (f9 + p8) = 44
                    · replace h_54_ := h_54_.trans (bI_t dq54)
                      replace eU54 := eU54.trans (if_pos dq54)
                      subst h_54_
                      have hR3 : rdR V f9 n (0, fr0, 0, 0, ys0, ls0, ks0, as0) U54 (p8 + 1) (3, fr9, g, 0, ys, lz9, ks0, as0) := by rw [eU54]; exact rd_sign hR (by omega) (by rw [auS_2, if_pos (by rw [← rd_3 hR.1]; exact dq54.2), if_pos (by omega)]) (by decide)
                      refine j_if_eq (tgt := 87) C dX12_readDale_76 (by decide) (fun c_55_ => ?_) (fun c_55_ => ?_)
                      · exact absurd c_55_ (by decide)
                      · skip
                        refine j_aload_n C dX12_readDale_79 rfl (lv_at hl 0 rfl) ?_
                        refine j_iload_n C dX12_readDale_80 rfl (lv_at hl 1 rfl) ?_
                        refine j_callV (k := 0) C [.int (nI en)] [] (k_X12_readTheGirl l ad U54 (nI en) en (rfl) (by omega) (f9 + p8 + 1) hR3.2.2.2.1 (by have := hR3.2.2.1; omega) g hR3.2.2.2.2.1 (by omega)) v_RX12_145 (ml (by decide)) (rfl) rfl ⟨rfl, rfl, Nat.le_of_ble_eq_true rfl, Nat.le_of_ble_eq_true rfl⟩ rfl hl.1 rfl (Nat.le_of_ble_eq_true rfl) ⟨Nat.le_of_ble_eq_true rfl, Nat.le_of_ble_eq_true rfl⟩ dX12_readDale_81 (kI fun x_56_ U56 h_56_ => ?_)
                        obtain ⟨hfd56, h_56_⟩ := h_56_
                        rcases h_56_ with ⟨ex56, da56, at56⟩ | ⟨ex56, da56, db56, at56⟩ | ⟨ex56, da56, db56, eW56⟩
                        · subst ex56
                          refine j_if_ne (tgt := 44) C dX12_readDale_84 (by decide) (fun c_57_ => ?_) (fun c_57_ => ?_)
                          · exact absurd rfl c_57_
                          · skip
                            refine j_iconst (v := 0) C dX12_readDale_87 (by decide) ?_
                            refine j_zret C rfl ⟨rfl, _, rfl, ?_⟩ dX12_readDale_88
                            exact rd_no hR3 (fun _ => (show ¬ (3 : Nat) = 7 by decide)) (fun z => (auS_3 ..).trans (if_neg (fun y => da56 ⟨by omega, by rw [rd_3 hR3.1]; exact y⟩))) hfd56 at56
                        · subst ex56
                          refine j_if_ne (tgt := 44) C dX12_readDale_84 (by decide) (fun c_58_ => ?_) (fun c_58_ => ?_)
                          · exact absurd rfl c_58_
                          · skip
                            refine j_iconst (v := 0) C dX12_readDale_87 (by decide) ?_
                            refine j_zret C rfl ⟨rfl, _, rfl, ?_⟩ dX12_readDale_88
                            exact rd_no2 hR3 (by have := da56.1; omega) ((auS_3 ..).trans (if_pos (by have y := da56.2; rw [rd_3 hR3.1] at y; exact y))) (show ¬ (4 : Nat) = 7 by decide) (fun z => (auS_4 ..).trans (if_neg (fun y => db56 ⟨by omega, by rw [rd_3 hR3.1]; exact y⟩))) hfd56 at56
                        · subst ex56
                          refine j_if_ne (tgt := 44) C dX12_readDale_84 (by decide) (fun c_59_ => ?_) (fun c_59_ => ?_)
                          · skip
                            exact ih_loop (p8 + 3) (g + 1) (upd ys g (dgI (V 3 (f9 + (p8 + 1))))) (upd lz9 g (dgI (V 3 (f9 + (p8 + 1) + 1)))) U56 (by omega) (by rw [eW56]; exact rd_girl hen9 rfl hR3 da56 db56) (by omega) ls (lv_sub hl [0, 1] rfl)
                          · exact absurd c_59_ (by decide)
                    · replace h_54_ := h_54_.trans (bI_f dq54)
                      replace eU54 := eU54.trans (if_neg dq54)
                      subst h_54_
                      skip
                      refine j_if_eq (tgt := 87) C dX12_readDale_76 (by decide) (fun c_60_ => ?_) (fun c_60_ => ?_)
                      · skip
                        refine j_iconst (v := 0) C dX12_readDale_87 (by decide) ?_
                        refine j_zret C rfl ⟨rfl, _, rfl, ?_⟩ dX12_readDale_88
                        exact absurd b34 dq54
                      · exact absurd rfl c_60_
          exact loop 5 2 0 ys0 ls0 V3 (by omega) hRg (by omega) ls (lv_sub hl [0, 1] rfl)
        · skip
          exact absurd (by rw [eV3, up2_s, h_3_] at c_4_; exact c_4_) (dg_9 (lo := 0) (by omega) dq3.2.1)
      · replace h_3_ := h_3_.trans (if_neg dq3)
        replace eU3 := eU3.trans (if_neg dq3)
        refine j_putI (k := 0) C (f_RX12_123_12) p_12_16 (ml (by decide)) (rfl) dX12_readDale_30 (fun V4 eV4 => ?_)
        skip
        refine j_aload_n C dX12_readDale_33 rfl (lv_at hl 0 rfl) ?_
        refine j_getI (k := 0) C (f_RX12_123_12) (ml (by decide)) (rfl) dX12_readDale_34 ?_
        refine j_bipush (v := (-9)) C dX12_readDale_37 (by decide) ?_
        refine j_icmp_ne (tgt := 44) C dX12_readDale_39 (by decide) (fun c_61_ => ?_) (fun c_61_ => ?_)
        · skip
          exact absurd (by rw [eV4, up2_s, h_3_]) c_61_
        · skip
          refine j_iconst (v := 0) C dX12_readDale_42 (by decide) ?_
          refine j_zret C rfl ⟨rfl, _, rfl, ?_⟩ dX12_readDale_43
          exact rd_no hR1 (fun _ => (show ¬ (1 : Nat) = 7 by decide)) (fun z => (auS_1 ..).trans (if_neg (fun y => dq3 ⟨by omega, by rw [rd_3 hR1.1]; exact y⟩))) (by rw [eV4, eU3]; exact frD.up (by omega)) (by rw [eV4, up2_i _ _ (by decide), eU3]; exact hR1.2.2.2.1)
    · exact absurd c_2_ (by decide)
  · replace h_1_ := h_1_.trans (bI_f dq1)
    replace eU1 := eU1.trans (if_neg dq1)
    subst h_1_
    skip
    refine j_if_ne (tgt := 22) C dX12_readDale_17 (by decide) (fun c_62_ => ?_) (fun c_62_ => ?_)
    · exact absurd rfl c_62_
    · skip
      refine j_iconst (v := 0) C dX12_readDale_20 (by decide) ?_
      refine j_zret C rfl ⟨rfl, _, rfl, ?_⟩ dX12_readDale_21
      exact rd_no hR0 (fun _ => (show ¬ (0 : Nat) = 7 by decide)) (fun z => (auS_0 ..).trans (if_neg (fun y => dq1 ⟨by omega, by rw [rd_3 hR0.1]; exact y⟩))) (by rw [eU1]; exact frD.rf) (by rw [eU1]; exact hR0.2.2.2.1)
