/-- all cells stay but the pairing's (48 .. 53) and those of rings that don't lie -/
def prE (ng : Nat) (rr : Nat → Nat) (V V2 : Vt) : Prop := ∀ a j, (a < 48 ∨ 53 < a) → (∀ g, g < ng → (a = 0 + 2 + 3 * g + 1 ∨ a = 0 + 2 + 3 * g + 2) → j < rr g) → V2 a j = V a j
theorem prE.rf {ng : Nat} {rr : Nat → Nat} {V : Vt} : prE ng rr V V := fun _ _ _ _ => rfl
theorem prE.tr {ng : Nat} {rr : Nat → Nat} {V V2 V3 : Vt} (h : prE ng rr V V2) (h_2_ : prE ng rr V2 V3) : prE ng rr V V3 := fun a j p q => (h_2_ a j p q).trans (h a j p q)
theorem prE.gb {ng : Nat} {rr : Nat → Nat} {V V2 : Vt} (h : gbE ng rr V V2) : prE ng rr V V2 := fun a j _ q => h a j q
theorem prE.up {ng : Nat} {rr : Nat → Nat} {V : Vt} {a i : Nat} {x : Int32} (h : 48 ≤ a ∧ a ≤ 53) : prE ng rr V (up2 V a i x) := fun b j p _ => by rw [up2_k _ _ (by omega)]
theorem prE.row {ng : Nat} {rr : Nat → Nat} {V V2 : Vt} (h : prE ng rr V V2) {a : Nat} (h_48_ : a < 48 ∨ 53 < a) (ha : ∀ g, g < ng → a ≠ 0 + 2 + 3 * g + 1 ∧ a ≠ 0 + 2 + 3 * g + 2) : V2 a = V a := by
  funext j
  exact h a j h_48_ (fun g hg q => absurd q (by have := ha g hg; omega))
/-- the part of the pool outside the pairing, as gbE has it -/
def cutV (V V2 : Vt) : Vt := fun a j => if 48 ≤ a ∧ a ≤ 53 then V a j else V2 a j
theorem cutV_gb {ng : Nat} {rr : Nat → Nat} {V V2 : Vt} (h : prE ng rr V V2) : gbE ng rr V (cutV V V2) := by
  intro a j q
  unfold cutV
  split
  · rfl
  · exact h a j (by omega) q
theorem cutV_o (V V2 : Vt) {a : Nat} (h : a < 48 ∨ 53 < a) : cutV V V2 a = V2 a := by
  funext j
  unfold cutV
  rw [if_neg (by omega)]
theorem XI_pr {tk : Nat → Nat} {nt : Nat} {V V2 : Vt} {ng : Nat} {rr : Nat → Nat} {c_0_ : Nat} (h : prE ng rr V V2) (hX : XI tk nt V ng rr c_0_) : XI tk nt V2 ng rr c_0_ := by
  have h_2_ := XI_gb (cutV_gb h) hX
  obtain ⟨⟨a1, a2, a3⟩, b, c, d, e, f, g, k⟩ := h_2_
  refine ⟨⟨?_, a2, fun j hj => ?_⟩, ?_, c, fun t ht => ⟨(d t ht).1, ?_⟩, ?_, f, fun r hr => ?_, fun q hq => ?_⟩
  · rw [← cutV_o V V2 (by omega)]; exact a1
  · rw [← cutV_o V V2 (by omega)]; exact a3 j hj
  · rw [← cutV_o V V2 (by omega)]; exact b
  · rw [← cutV_o V V2 (by omega)]; exact (d t ht).2
  · rw [← cutV_o V V2 (by omega)]; exact e
  · rw [← cutV_o V V2 (show 30 < 48 ∨ 53 < 30 by omega), ← cutV_o V V2 (show 31 < 48 ∨ 53 < 31 by omega)]; exact g r hr
  · rw [← cutV_o V V2 (by omega)]; exact k q hq
theorem hdP_pr {ng : Nat} {rr : Nat → Nat} {V V2 : Vt} (h : prE ng rr V V2) (t g : Nat) (hg : g < 4) (z : Int32) : hdP V2 rr t g z ↔ hdP V rr t g z := by
  rw [← hdP_gb (cutV_gb h)]
  unfold hdP
  rw [cutV_o V V2 (by omega), cutV_o V V2 (by omega), cutV_o V V2 (by omega), cutV_o V V2 (by omega)]
theorem setP_cong {P Q : Nat → Prop} : ∀ n, (∀ k, k < n → (P k ↔ Q k)) → setP P n = setP Q n
  | 0, _ => rfl
  | n + 1, h => by
    have ih := setP_cong n (fun k hk => h k (by omega))
    rcases Classical.em (P n) with q | q
    · rw [setP_y q, setP_y ((h n (by omega)).mp q), ih]
    · rw [setP_n q, setP_n (fun z => q ((h n (by omega)).mpr z)), ih]
/-- a set of at most four as a number below 16 -/
theorem setP_nat (P : Nat → Prop) : ∀ n, n ≤ 4 → ∃ w, w < 2 ^ n ∧ setP P n = nI w ∧ ∀ g, g < n → (w.testBit g = true ↔ P g)
  | 0, _ => ⟨0, by decide, rfl, fun g h => absurd h (by omega)⟩
  | n + 1, h => by
    obtain ⟨w, hw, e, hb⟩ := setP_nat P n (by omega)
    rcases Classical.em (P n) with q | q
    · refine ⟨w ||| 2 ^ n, Nat.or_lt_two_pow (Nat.lt_of_lt_of_le hw (Nat.pow_le_pow_right (by decide) (by omega))) (Nat.pow_lt_pow_right (by decide) (by omega)), by rw [setP_y q, e, sh1 (by omega), orI], fun g hg => ?_⟩
      rw [Nat.testBit_or, Nat.testBit_two_pow]
      by_cases eg : g = n
      · subst eg; simp [q]
      · simp [Ne.symm eg]
        exact hb g (by omega)
    · refine ⟨w, Nat.lt_of_lt_of_le hw (Nat.pow_le_pow_right (by decide) (by omega)), by rw [setP_n q, e], fun g hg => ?_⟩
      by_cases eg : g = n
      · subst eg
        rw [Nat.testBit_lt_two_pow hw]
        simp [q]
      · exact hb g (by omega)
/-- the measure of thrower t at girl g -/
def nrX (tk : Nat → Nat) (V : Vt) (t g : Nat) : Int32 := near (rch (kdI (tk t)) (V (56 + t) 1)) (V (0 + 2 + 3 * g) 0) (V (0 + 2 + 3 * g) 1) (V 0 0)
def nnL (tk : Nat → Nat) (V : Vt) (t : Nat) : Nat → Vt
  | 0 => V
  | g + 1 => up2 (nnL tk V t g) 49 (t * 4 + g) (nrX tk V t g)
theorem nnL_o {tk : Nat → Nat} {V : Vt} {t a : Nat} (h : a ≠ 49) : ∀ g, nnL tk V t g a = V a
  | 0 => rfl
  | g + 1 => by rw [nnL, up2_k _ _ h, nnL_o h g]
theorem nnL_at {tk : Nat → Nat} {V : Vt} {t : Nat} (j : Nat) : ∀ g, g ≤ 4 → nnL tk V t g 49 j = if t * 4 ≤ j ∧ j < t * 4 + g then nrX tk V t (j - t * 4) else V 49 j
  | 0, _ => by rw [if_neg (by omega)]; rfl
  | g + 1, h => by
    rw [nnL]
    unfold up2
    by_cases e : j = t * 4 + g
    · rw [if_pos ⟨rfl, e⟩, if_pos (by omega), e, show t * 4 + g - t * 4 = g by omega]
    · rw [if_neg (fun q => e q.2), nnL_at j g (by omega)]
      by_cases q : t * 4 ≤ j ∧ j < t * 4 + g
      · rw [if_pos q, if_pos (by omega)]
      · rw [if_neg q, if_neg (by omega)]
theorem nrX_pr {tk : Nat → Nat} {ng : Nat} {rr : Nat → Nat} {V V2 : Vt} (h : prE ng rr V V2) (h_4_ : ng ≤ 4) {t g : Nat} (hg : g < 4) : nrX tk V2 t g = nrX tk V t g := by
  unfold nrX
  rw [h.row (a := 56 + t) (by omega) (fun g2 _ => by omega), h.row (a := 0 + 2 + 3 * g) (by omega) (fun g2 _ => by omega), h.row (a := 0) (by omega) (fun g2 _ => by omega)]
abbrev rm_X11_noteNearness : Room := { frames := 3, cells := 0, slots := 0, locals := 67 }
set_option maxHeartbeats 4000000 in
set_option maxRecDepth 100000 in
theorem k_X11_noteNearness (l : Launch) (ad tk : Nat → Nat) (nt : Nat) (V : Vt) (ng : Nat) (rr : Nat → Nat) (c_0_ : Nat) (hX : XI tk nt V ng rr c_0_) (t : Nat) (ht : t < nt)  : Ct l yX11_noteNearness cX11_noteNearness 4 none rm_X11_noteNearness (xS ad tk nt) V [.ref (ad (55)), .ref (ad (56 + t))] (rU fun V2 => V2 = nnL tk V t ng) := by
  refine Ct_of (by decide) (Nat.le_of_ble_eq_true rfl) ?_
  intro p e s m below meth c A D cy ls C hl
  have hl : lv_has ls 4 [(0, .ref (ad (55))), (1, .ref (ad (56 + t)))] := hl
  have ng4 := hX.1.2.1
  have nt5 := hX.2.2.1
  refine j_iconst (v := 0) C dX11_noteNearness_0 (by decide) ?_
  refine j_istore_n (lv2 := [(2, .int (0)), (0, .ref (ad (55))), (1, .ref (ad (56 + t)))]) C dX11_noteNearness_1 rfl hl (by decide) rfl (fun ls hl => ?_)
  have loop : ∀ (n_9_ : Nat) (g : Nat) (Vi : Vt), g ≤ ng → Vi = nnL tk V t g → ng - g < n_9_ → ∀ (ls : Array Slot), lv_has ls 4 [(0, .ref (ad (55))), (1, .ref (ad (56 + t))), (2, .int (nI g))] → J p l e rm_X11_noteNearness s m [.ref (ad (55)), .ref (ad (56 + t))].toArray below meth c A D cy 0 0 (MQ below (gPost D cy A (fun o9 σ2 V2 => σ2 = xS ad tk nt ∧ (rU fun V2 => V2 = nnL tk V t ng) o9 V2)) [.ref (ad (55)), .ref (ad (56 + t))].toArray s 0 0 A) (xS ad tk nt) Vi (F0 m 2 ls []) := by
    intro n_9_
    induction n_9_ with
    | zero =>
      intro g Vi hi hV hm
      exact absurd hm (by omega)
    | succ n_9_ ih_loop =>
      intro g Vi hi hV hm ls hl
      refine j_iload_n C dX11_noteNearness_2 rfl (lv_at hl 2 rfl) ?_
      refine j_aload_n C dX11_noteNearness_3 rfl (lv_at hl 0 rfl) ?_
      refine j_getR (k := 55) (k2 := 0) C (f_RX11_12_11) (xl (by decide)) (rfl) (rfl) dX11_noteNearness_4 ?_
      refine j_getI (k := 0) C (f_RX11_266_0) (xl (xC (tk := tk) (nt := nt) (k := 0) (Or.inl rfl)).1.1) ((xC (tk := tk) (nt := nt) (k := 0) (Or.inl rfl)).2.1) dX11_noteNearness_7 ?_
      refine j_icmp_ge (tgt := 59) C dX11_noteNearness_10 (by decide) (fun c_1_ => ?_) (fun c_1_ => ?_)
      · have n_1_ := Int32.not_lt.mpr c_1_
        have hg1 : Vi 0 1 = nI ng := by rw [hV, nnL_o (by decide)]; exact hX.1.1
        obtain rfl : g = ng := by rw [hg1] at c_1_; have q := leN (by omega) (by omega) c_1_; omega
        refine j_vret C ⟨rfl, rfl, ?_⟩ dX11_noteNearness_59
        exact hV
      · have n_1_ := Int32.not_le.mp c_1_
        have hg1 : Vi 0 1 = nI ng := by rw [hV, nnL_o (by decide)]; exact hX.1.1
        have hlt : g < ng := by rw [hg1] at c_1_; exact ltN (by omega) c_1_
        refine j_aload_n C dX11_noteNearness_13 rfl (lv_at hl 0 rfl) ?_
        refine j_getR (k := 55) (k2 := 0) C (f_RX11_12_11) (xl (by decide)) (rfl) (rfl) dX11_noteNearness_14 ?_
        refine j_iload_n C dX11_noteNearness_17 rfl (lv_at hl 2 rfl) ?_
        refine j_callV (k := 0) C [.int (nI g)] [] (k_X0_girlAt l ad tk nt Vi 0 (Or.inl rfl) ng hg1 ng4 (nI g)) v_RX11_99 (xl (xC (tk := tk) (nt := nt) (k := 0) (Or.inl rfl)).1.1) ((xC (tk := tk) (nt := nt) (k := 0) (Or.inl rfl)).2.1) rfl ⟨rfl, rfl, Nat.le_of_ble_eq_true rfl, Nat.le_of_ble_eq_true rfl⟩ rfl hl.1 rfl (Nat.le_of_ble_eq_true rfl) ⟨Nat.le_of_ble_eq_true rfl, Nat.le_of_ble_eq_true rfl⟩ dX11_noteNearness_18 (kA fun x_2_ U2 h_2_ => ?_)
        obtain ⟨eU2, h_2_⟩ := h_2_
        have eU2 := eU2.symm
        subst eU2
        rcases h_2_ with ⟨j_2_, hj2, ej2, ev2⟩ | ⟨ho2, ev2⟩
        · subst ev2
          obtain rfl : g = j_2_ := nI_inj (by omega) (by omega) ej2
          refine j_astore_n (lv2 := [(3, .ref (ad (0 + 2 + 3 * g))), (0, .ref (ad (55))), (1, .ref (ad (56 + t))), (2, .int (nI g))]) C dX11_noteNearness_21 rfl hl (by decide) rfl (fun ls hl => ?_)
          refine j_aload_n C dX11_noteNearness_22 rfl (lv_at hl 0 rfl) ?_
          refine j_ifnull C dX11_noteNearness_23 ?_
          refine j_aload_n C dX11_noteNearness_26 rfl (lv_at hl 1 rfl) ?_
          refine j_getR (k := 55) (k2 := 48) C (f_RX11_61_11) (xl (by decide)) (rfl) (rfl) dX11_noteNearness_27 ?_
          refine j_aload_n C dX11_noteNearness_30 rfl (lv_at hl 2 rfl) ?_
          refine j_getT (k := 56 + t) C f_RX11_316_6 f_RX11_316_3 f_RX11_316_8 (xt ht) (xT (XI_T hX ht)) dX11_noteNearness_31 ?_
          refine j_iload_n C dX11_noteNearness_34 rfl (lv_at hl 3 rfl) ?_
          refine j_aload_n C dX11_noteNearness_35 rfl (lv_at hl 0 rfl) ?_
          refine j_aload_n C dX11_noteNearness_36 rfl (lv_at hl 2 rfl) ?_
          refine j_callT (k := 56 + t) C [] [.ref (ad (0 + 2 + 3 * g)), .int (nI g), .int (Vi (56 + t) 0), .ref (ad (48))] (k_X6_reach l ad tk nt Vi t ht (XI_T hX ht) ) v_RX11_134 o_RX11_134_3 o_RX11_134_8 rfl (xt ht) (xT (XI_T hX ht)) ⟨rfl, rfl, Nat.le_of_ble_eq_true rfl, Nat.le_of_ble_eq_true rfl⟩ rfl hl.1 rfl (Nat.le_of_ble_eq_true rfl) ⟨Nat.le_of_ble_eq_true rfl, Nat.le_of_ble_eq_true rfl⟩ dX11_noteNearness_37 (kI fun x_3_ U3 h_3_ => ?_)
          obtain ⟨eU3, h_3_⟩ := h_3_
          have eU3 := eU3.symm
          subst eU3
          refine j_aload_n C dX11_noteNearness_40 rfl (lv_at hl 1 rfl) ?_
          refine j_getR (k := 55) (k2 := 0) C (f_RX11_12_11) (xl (by decide)) (rfl) (rfl) dX11_noteNearness_41 ?_
          refine j_getI (k := 0) C (f_RX11_147_0) (xl (xC (tk := tk) (nt := nt) (k := 0) (Or.inl rfl)).1.1) ((xC (tk := tk) (nt := nt) (k := 0) (Or.inl rfl)).2.1) dX11_noteNearness_44 ?_
          refine j_callV (k := 0 + 2 + 3 * g) C [.int (x_3_), .int (Vi 0 0)] [.int (nI g), .int (Vi (56 + t) 0), .ref (ad (48))] (k_X2_nearness l ad tk nt Vi (0 + 2 + 3 * g) (xCg (nt := nt) (Or.inl rfl) (by omega : g < 4)).1 (x_3_) (Vi 0 0) ) v_RX11_150 (xl (xG (tk := tk) (nt := nt) (xCg (nt := nt) (Or.inl rfl) (by omega : g < 4)).1).1.1) ((xG (tk := tk) (nt := nt) (xCg (nt := nt) (Or.inl rfl) (by omega : g < 4)).1).2.1) rfl ⟨rfl, rfl, Nat.le_of_ble_eq_true rfl, Nat.le_of_ble_eq_true rfl⟩ rfl hl.1 rfl (Nat.le_of_ble_eq_true rfl) ⟨Nat.le_of_ble_eq_true rfl, Nat.le_of_ble_eq_true rfl⟩ dX11_noteNearness_47 (kI fun x_4_ U4 h_4_ => ?_)
          obtain ⟨eU4, h_4_⟩ := h_4_
          have eU4 := eU4.symm
          subst eU4
          refine j_callV (k := 48) C [.int (Vi (56 + t) 0), .int (nI g), .int (x_4_)] [] (k_X4_noteNearness l ad tk nt Vi (Vi (56 + t) 0) (nI g) (x_4_) t g (by rw [hV, nnL_o (by omega)]; exact (hX.2.2.2.1 t ht).2) rfl (by omega) (by omega)) v_RX11_328 (xl (by decide)) (rfl) rfl ⟨rfl, rfl, Nat.le_of_ble_eq_true rfl, Nat.le_of_ble_eq_true rfl⟩ rfl hl.1 rfl (Nat.le_of_ble_eq_true rfl) ⟨Nat.le_of_ble_eq_true rfl, Nat.le_of_ble_eq_true rfl⟩ dX11_noteNearness_50 (kU fun U5 h_5_ => ?_)
          refine j_iinc (v := nI (g + 1)) (lv2 := [(2, .int (nI (g + 1))), (3, .ref (ad (0 + 2 + 3 * g))), (0, .ref (ad (55))), (1, .ref (ad (56 + t)))]) C dX11_noteNearness_53 hl (k0 := 3) rfl (nI_1 _) (by decide) rfl (fun ls hl => ?_)
          refine j_goto (tgt := 2) C dX11_noteNearness_56 (by decide) ?_
          exact ih_loop (g + 1) U5 (by omega) (by rw [h_5_, h_4_, h_3_, nnL, ← hV]; unfold nrX; rw [show Vi (56 + t) = V (56 + t) by rw [hV, nnL_o (by omega)], show Vi (0 + 2 + 3 * g) = V (0 + 2 + 3 * g) by rw [hV, nnL_o (by omega)], show Vi 0 = V 0 by rw [hV, nnL_o (by omega)]]) (by omega) ls (lv_sub hl [2, 3, 0] rfl)
        · subst ev2
          exact absurd ho2 (inN (by omega) (by omega))
  exact loop (ng + 1) 0 V (by omega) rfl (by omega) ls (lv_sub hl [1, 2, 0] rfl)
