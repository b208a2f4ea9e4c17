/-- the set of those whom thrower t wins -/
noncomputable def wnS (tk : Nat → Nat) (V : Vt) (rr : Nat → Nat) (ng t : Nat) : Int32 := setP (fun g => hdP V rr t g (rch (kdI (tk t)) (V (56 + t) 1))) ng
theorem wnS_pr {tk : Nat → Nat} {ng : Nat} {rr : Nat → Nat} {V V2 : Vt} (h : prE ng rr V V2) (h_4_ : ng ≤ 4) (t : Nat) : wnS tk V2 rr ng t = wnS tk V rr ng t := by
  unfold wnS
  rw [h.row (a := 56 + t) (by omega) (fun g2 _ => by omega)]
  exact setP_cong ng (fun g hg => hdP_pr h t g (by omega) _)
/-- the pairing stands ready for the dale of V: the first t throwers' rows -/
def pP (tk : Nat → Nat) (V : Vt) (nt ng : Nat) (rr : Nat → Nat) (t : Nat) (U : Vt) : Prop := prE ng rr V U ∧ U 48 0 = nI nt ∧ U 48 1 = nI ng ∧ (∀ q, q < t → U 50 q = wnS tk V rr ng q ∧ ∀ g, g < ng → U 49 (q * 4 + g) = nrX tk V q g) ∧ ∀ q, q < 5 → U 51 q = -9 ∧ U 52 q = 0
theorem bgL_o {V : Vt} {za zb : Int32} {a : Nat} (h : a < 48 ∨ 52 < a ∨ a = 49) : ∀ t, bgL V za zb t a = V a
  | 0 => by rw [bgL, up2_k _ _ (by omega), up2_k _ _ (by omega)]
  | t + 1 => by rw [bgL, up2_k _ _ (by omega), up2_k _ _ (by omega), up2_k _ _ (by omega), bgL_o h t]
theorem bgL_48 {V : Vt} {za zb : Int32} : ∀ t, bgL V za zb t 48 0 = za ∧ bgL V za zb t 48 1 = zb
  | 0 => by rw [bgL]; exact ⟨by rw [up2_i _ _ (by decide), up2_s], up2_s ..⟩
  | t + 1 => by rw [bgL, up2_k _ _ (by decide), up2_k _ _ (by decide), up2_k _ _ (by decide)]; exact bgL_48 t
theorem bgL_51 {V : Vt} {za zb : Int32} : ∀ t q, q < t → bgL V za zb t 51 q = -9 ∧ bgL V za zb t 52 q = 0
  | t + 1, q, h => by
    rw [bgL]
    by_cases e : q = t
    · subst e
      exact ⟨by rw [up2_k _ _ (by decide), up2_s], up2_s ..⟩
    · have ih := bgL_51 (V := V) (za := za) (zb := zb) t q (by omega)
      exact ⟨by rw [up2_k _ _ (by decide), up2_i _ _ e, up2_k _ _ (by decide)]; exact ih.1, by rw [up2_i _ _ e, up2_k _ _ (by decide), up2_k _ _ (by decide)]; exact ih.2⟩
theorem pP_0 {tk : Nat → Nat} {V : Vt} {nt ng : Nat} {rr : Nat → Nat} : pP tk V nt ng rr 0 (bgL V (nI nt) (nI ng) 5) :=
  ⟨fun a j h _ => by rw [bgL_o (by omega)], (bgL_48 5).1, (bgL_48 5).2, fun q h => absurd h (by omega), fun q h => bgL_51 5 q h⟩
theorem pP_s {tk : Nat → Nat} {V U U2 : Vt} {nt ng t : Nat} {rr : Nat → Nat} (h_4_ : ng ≤ 4) (h : pP tk V nt ng rr t U) (hg : gbE ng rr U U2) (x : Int32) (hx : x = wnS tk U rr ng t) : pP tk V nt ng rr (t + 1) (nnL tk (up2 U2 50 t x) t ng) := by
  obtain ⟨p1, p2, p3, p4, p5⟩ := h
  have q1 : prE ng rr V (up2 U2 50 t x) := (p1.tr (prE.gb hg)).tr (prE.up (by decide))
  have r : ∀ a, 48 ≤ a → a ≤ 53 → U2 a = U a := fun a ha hb => hg.row (fun g2 _ => by omega)
  have row : ∀ a, a ≠ 49 → a ≠ 50 → 48 ≤ a → a ≤ 53 → nnL tk (up2 U2 50 t x) t ng a = U a := fun a h_1_ h_2_ h_3_ h_5_ => by rw [nnL_o h_1_, up2_k _ _ h_2_, r a h_3_ h_5_]
  refine ⟨fun a j ha hq => ?_, ?_, ?_, fun q hq => ⟨?_, fun g hgg => ?_⟩, fun q hq => ?_⟩
  · rw [nnL_o (by omega)]; exact q1 a j ha hq
  · rw [row 48 (by decide) (by decide) (by decide) (by decide)]; exact p2
  · rw [row 48 (by decide) (by decide) (by decide) (by decide)]; exact p3
  · rw [nnL_o (by decide)]
    by_cases e : q = t
    · rw [e, up2_s, hx, wnS_pr p1 h_4_]
    · rw [up2_i _ _ e, r 50 (by decide) (by decide)]; exact (p4 q (by omega)).1
  · rw [nnL_at _ ng h_4_]
    by_cases e : q = t
    · subst e
      rw [if_pos (by omega), show q * 4 + g - q * 4 = g by omega, nrX_pr q1 h_4_ (by omega)]
    · rw [if_neg (by omega), up2_k _ _ (by decide), r 49 (by decide) (by decide)]; exact (p4 q (by omega)).2 g hgg
  · rw [row 51 (by decide) (by decide) (by decide) (by decide), row 52 (by decide) (by decide) (by decide) (by decide)]; exact p5 q hq
abbrev rm_X11_preparePairing : Room := { frames := 5, cells := 0, slots := 0, locals := 111 }
set_option maxHeartbeats 4000000 in
set_option maxRecDepth 100000 in
theorem k_X11_preparePairing (l : Launch) (ad tk : Nat → Nat) (nt : Nat) (V : Vt) (ng : Nat) (rr : Nat → Nat) (c_0_ : Nat) (hX : XI tk nt V ng rr c_0_)  : Ct l yX11_preparePairing cX11_preparePairing 3 none rm_X11_preparePairing (xS ad tk nt) V [.ref (ad (55))] (rU fun V2 => pP tk V nt ng rr nt V2) := by
  refine Ct_of (by decide) (Nat.le_of_ble_eq_true rfl) ?_
  intro p e s m below meth c A D cy ls C hl
  have hl : lv_has ls 3 [(0, .ref (ad (55)))] := hl
  have ng4 := hX.1.2.1
  have nt5 := hX.2.2.1
  refine j_aload_n C dX11_preparePairing_0 rfl (lv_at hl 0 rfl) ?_
  refine j_getR (k := 55) (k2 := 48) C (f_RX11_61_11) (xl (by decide)) (rfl) (rfl) dX11_preparePairing_1 ?_
  refine j_aload_n C dX11_preparePairing_4 rfl (lv_at hl 0 rfl) ?_
  refine j_getI (k := 55) C (f_RX11_96_11) (xl (by decide)) (rfl) dX11_preparePairing_5 ?_
  refine j_aload_n C dX11_preparePairing_8 rfl (lv_at hl 0 rfl) ?_
  refine j_getR (k := 55) (k2 := 0) C (f_RX11_12_11) (xl (by decide)) (rfl) (rfl) dX11_preparePairing_9 ?_
  refine j_getI (k := 0) C (f_RX11_266_0) (xl (xC (tk := tk) (nt := nt) (k := 0) (Or.inl rfl)).1.1) ((xC (tk := tk) (nt := nt) (k := 0) (Or.inl rfl)).2.1) dX11_preparePairing_12 ?_
  refine j_callV (k := 48) C [.int (V 55 8), .int (V 0 1)] [] (k_X4_begin l ad tk nt V (V 55 8) (V 0 1) ) v_RX11_319 (xl (by decide)) (rfl) rfl ⟨rfl, rfl, Nat.le_of_ble_eq_true rfl, Nat.le_of_ble_eq_true rfl⟩ rfl hl.1 rfl (Nat.le_of_ble_eq_true rfl) ⟨Nat.le_of_ble_eq_true rfl, Nat.le_of_ble_eq_true rfl⟩ dX11_preparePairing_15 (kU fun U1 h_1_ => ?_)
  refine j_iconst (v := 0) C dX11_preparePairing_18 (by decide) ?_
  refine j_istore_n (lv2 := [(1, .int (0)), (0, .ref (ad (55)))]) C dX11_preparePairing_19 rfl hl (by decide) rfl (fun ls hl => ?_)
  have loop : ∀ (n_9_ : Nat) (t : Nat) (Vi : Vt), t ≤ nt → pP tk V nt ng rr t Vi → nt - t < n_9_ → ∀ (ls : Array Slot), lv_has ls 3 [(0, .ref (ad (55))), (1, .int (nI t))] → J p l e rm_X11_preparePairing s m [.ref (ad (55))].toArray below meth c A D cy 0 0 (MQ below (gPost D cy A (fun o9 σ2 V2 => σ2 = xS ad tk nt ∧ (rU fun V2 => pP tk V nt ng rr nt V2) o9 V2)) [.ref (ad (55))].toArray s 0 0 A) (xS ad tk nt) Vi (F0 m 20 ls []) := by
    intro n_9_
    induction n_9_ with
    | zero =>
      intro t Vi hi hP9 hm
      exact absurd hm (by omega)
    | succ n_9_ ih_loop =>
      intro t Vi hi hP9 hm ls hl
      refine j_iload_n C dX11_preparePairing_20 rfl (lv_at hl 1 rfl) ?_
      refine j_aload_n C dX11_preparePairing_21 rfl (lv_at hl 0 rfl) ?_
      refine j_getI (k := 55) C (f_RX11_96_11) (xl (by decide)) (rfl) dX11_preparePairing_22 ?_
      refine j_icmp_ge (tgt := 62) C dX11_preparePairing_25 (by decide) (fun c_2_ => ?_) (fun c_2_ => ?_)
      · have n_2_ := Int32.not_lt.mpr c_2_
        have hXi := XI_pr hP9.1 hX
        obtain rfl : t = nt := by rw [hXi.2.1] at c_2_; have q := leN (by omega) (by omega) c_2_; omega
        refine j_vret C ⟨rfl, rfl, ?_⟩ dX11_preparePairing_62
        exact hP9
      · have n_2_ := Int32.not_le.mp c_2_
        have hXi := XI_pr hP9.1 hX
        have hlt : t < nt := by rw [hXi.2.1] at c_2_; exact ltN (by omega) c_2_
        refine j_aload_n C dX11_preparePairing_28 rfl (lv_at hl 0 rfl) ?_
        refine j_iload_n C dX11_preparePairing_29 rfl (lv_at hl 1 rfl) ?_
        refine j_callV (k := 55) C [.int (nI t)] [] (k_X11_throwerOf l ad tk nt Vi hXi.2.1 hXi.2.2.1 (nI t)) v_RX11_124 (xl (by decide)) (rfl) rfl ⟨rfl, rfl, Nat.le_of_ble_eq_true rfl, Nat.le_of_ble_eq_true rfl⟩ rfl hl.1 rfl (Nat.le_of_ble_eq_true rfl) ⟨Nat.le_of_ble_eq_true rfl, Nat.le_of_ble_eq_true rfl⟩ dX11_preparePairing_30 (kA fun x_3_ U3 h_3_ => ?_)
        obtain ⟨eU3, h_3_⟩ := h_3_
        have eU3 := eU3.symm
        subst eU3
        rcases h_3_ with ⟨j_3_, hj3, ej3, ev3⟩ | ⟨ho3, ev3⟩
        · subst ev3
          obtain rfl : t = j_3_ := nI_inj (by omega) (by omega) ej3
          refine j_astore_n (lv2 := [(2, .ref (ad (56 + t))), (0, .ref (ad (55))), (1, .int (nI t))]) C dX11_preparePairing_33 rfl hl (by decide) rfl (fun ls hl => ?_)
          refine j_aload_n C dX11_preparePairing_34 rfl (lv_at hl 0 rfl) ?_
          refine j_ifnull C dX11_preparePairing_35 ?_
          refine j_aload_n C dX11_preparePairing_38 rfl (lv_at hl 1 rfl) ?_
          refine j_getR (k := 55) (k2 := 48) C (f_RX11_61_11) (xl (by decide)) (rfl) (rfl) dX11_preparePairing_39 ?_
          refine j_iload_n C dX11_preparePairing_42 rfl (lv_at hl 2 rfl) ?_
          refine j_aload_n C dX11_preparePairing_43 rfl (lv_at hl 1 rfl) ?_
          refine j_aload_n C dX11_preparePairing_44 rfl (lv_at hl 0 rfl) ?_
          refine j_callV (k := 55) C [.ref (ad (56 + t))] [.int (nI t), .ref (ad (48))] (k_X11_winsOf l ad tk nt Vi ng rr c_0_ hXi t hj3) v_RX11_178 (xl (by decide)) (rfl) rfl ⟨rfl, rfl, Nat.le_of_ble_eq_true rfl, Nat.le_of_ble_eq_true rfl⟩ rfl hl.1 rfl (Nat.le_of_ble_eq_true rfl) ⟨Nat.le_of_ble_eq_true rfl, Nat.le_of_ble_eq_true rfl⟩ dX11_preparePairing_45 (kI fun x_4_ U4 h_4_ => ?_)
          obtain ⟨eU4, h_4_⟩ := h_4_
          refine j_callV (k := 48) C [.int (nI t), .int (x_4_)] [] (k_X4_noteWins l ad tk nt U4 (nI t) (x_4_) t rfl (by omega)) v_RX11_321 (xl (by decide)) (rfl) rfl ⟨rfl, rfl, Nat.le_of_ble_eq_true rfl, Nat.le_of_ble_eq_true rfl⟩ rfl hl.1 rfl (Nat.le_of_ble_eq_true rfl) ⟨Nat.le_of_ble_eq_true rfl, Nat.le_of_ble_eq_true rfl⟩ dX11_preparePairing_48 (kU fun U5 h_5_ => ?_)
          refine j_aload_n C dX11_preparePairing_51 rfl (lv_at hl 1 rfl) ?_
          refine j_aload_n C dX11_preparePairing_52 rfl (lv_at hl 0 rfl) ?_
          refine j_callV (k := 55) C [.ref (ad (56 + t))] [] (k_X11_noteNearness l ad tk nt U5 ng rr c_0_ (by rw [h_5_]; exact XI_pr (prE.up (by decide)) (XI_gb eU4 hXi)) t hj3) v_RX11_324 (xl (by decide)) (rfl) rfl ⟨rfl, rfl, Nat.le_of_ble_eq_true rfl, Nat.le_of_ble_eq_true rfl⟩ rfl hl.1 rfl (Nat.le_of_ble_eq_true rfl) ⟨Nat.le_of_ble_eq_true rfl, Nat.le_of_ble_eq_true rfl⟩ dX11_preparePairing_53 (kU fun U6 h_6_ => ?_)
          refine j_iinc (v := nI (t + 1)) (lv2 := [(1, .int (nI (t + 1))), (2, .ref (ad (56 + t))), (0, .ref (ad (55)))]) C dX11_preparePairing_56 hl (k0 := 2) rfl (nI_1 _) (by decide) rfl (fun ls hl => ?_)
          refine j_goto (tgt := 20) C dX11_preparePairing_59 (by decide) ?_
          exact ih_loop (t + 1) U6 (by omega) (by rw [h_6_, h_5_]; exact pP_s ng4 hP9 eU4 x_4_ h_4_) (by omega) ls (lv_sub hl [2, 0] rfl)
        · subst ev3
          exact absurd ho3 (inN (by omega) (by omega))
  exact loop (nt + 1) 0 U1 (by omega) (by rw [h_1_, hX.2.1, hX.1.1]; exact pP_0) (by omega) ls (lv_sub hl [1, 0] rfl)
