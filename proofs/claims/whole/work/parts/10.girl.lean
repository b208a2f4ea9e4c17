/-! pure words -/
def aprt (a b : Int32) : Int32 := if a < b then b - a else a - b
def near (reach yards leaning frost : Int32) : Int32 := if aprt reach yards ≤ leaning then 0 else aprt reach yards + frost
theorem up2_r (V : Vt) (k i : Nat) (x : Int32) : up2 V k i x k = upd (V k) i x := by funext j; simp [up2, upd]
theorem up2_back {W : Vt} {k i : Nat} {x : Int32} (y : Int32) (h : W k i = x) : up2 (up2 W k i y) k i x = W := by
  funext a j
  unfold up2
  by_cases q : a = k ∧ j = i
  · rw [if_pos q, q.1, q.2, h]
  · rw [if_neg q, if_neg q]
theorem ltN {a b : Nat} (ha : a < 2 ^ 31) (h : ¬ nI b ≤ nI a) : a < b := Nat.lt_of_not_le (fun q => h (nI_le q ha))
theorem leN {a b : Nat} (ha : a < 2 ^ 31) (hb : b < 2 ^ 31) (h : nI b ≤ nI a) : b ≤ a := (nI_leI hb ha).mp h
theorem full_no {v x : Int32} {r : Nat} (hr : v = nI r) (h_8_ : r ≤ 8) (h : x = bI (8 ≤ v)) (c : x = 0) : r < 8 := by
  rcases Nat.lt_or_ge r 8 with q | q
  · exact q
  · rw [h, bI_t (by rw [hr]; exact nI_le (a := 8) q (by omega))] at c
    exact absurd c (by decide)
theorem full_yes {v x : Int32} {r : Nat} (hr : v = nI r) (h_8_ : r ≤ 8) (h : x = bI (8 ≤ v)) (c : ¬ x = 0) : r = 8 := by
  rcases Nat.lt_or_ge r 8 with q | q
  · rw [h, bI_f (by rw [hr]; exact nI_ge (b := 8) q (by omega))] at c
    exact absurd rfl c
  · omega
/-- an index in range: the row's place; else NONE -/
def atR (f : Nat → Int32) (r : Nat) (z : Int32) : Int32 := if ¬ z < 0 ∧ z < nI r then f z.toNatClampNeg else -9
theorem atR_in {f : Nat → Int32} {r i : Nat} (h : i < r) (hr : r < 2 ^ 31) : atR f r (nI i) = f i := by
  unfold atR
  rw [if_pos ⟨nI_pos (by omega), nI_lt h hr⟩, nI_clamp (by omega)]
theorem atR_m9 {f : Nat → Int32} {r : Nat} : atR f r (-9) = -9 := by
  unfold atR
  rw [if_neg (fun h => h.1 (by decide))]
theorem inR {z : Int32} {n : Nat} (h_0_ : ¬ z < 0) (h_1_ : ¬ nI n ≤ z) (hn : n < 2 ^ 31) : vp_in z n := by
  rcases pk_ix z hn with h | h | ⟨j, h, rfl⟩
  · exact absurd h h_0_
  · exact absurd h h_1_
  · exact vp_in_nI h hn
/-- the ring by which somebody has her -/
def hldI (g : Nat → Int32) : Nat → Int32
  | 0 => -9
  | q + 1 => if hldI g q = -9 ∨ g q = 0 ∨ g q < g (hldI g q).toNatClampNeg then nI q else hldI g q
theorem hldI_rng (g : Nat → Int32) : ∀ i, hldI g i = -9 ∨ ∃ q, q < i ∧ hldI g i = nI q
  | 0 => Or.inl rfl
  | i + 1 => by
    rw [hldI]
    split
    · exact Or.inr ⟨i, by omega, rfl⟩
    · rcases hldI_rng g i with h | ⟨q, h, e⟩
      · exact Or.inl h
      · exact Or.inr ⟨q, by omega, e⟩
theorem m9_nI {q : Nat} (h : q < 2 ^ 31) : ¬ nI q = -9 := by
  intro e
  have h_1_ := nI_toInt h
  rw [e] at h_1_
  have h_2_ : (-9 : Int32).toInt = -9 := by decide
  omega
def holI (f g : Nat → Int32) (r : Nat) : Int32 := if hldI g r = -9 then -9 else f (hldI g r).toNatClampNeg
theorem atR_hld {f g : Nat → Int32} {r i : Nat} (hi : i ≤ r) (hr : r < 2 ^ 31) (h : ¬ hldI g i = -9) : atR f r (hldI g i) = f (hldI g i).toNatClampNeg := by
  rcases hldI_rng g i with h_1_ | ⟨q, h_1_, e⟩
  · exact absurd h_1_ h
  · rw [e, atR_in (by omega) hr, nI_clamp (by omega)]
theorem atR_hol {f g : Nat → Int32} {r : Nat} (hr : r < 2 ^ 31) : atR f r (hldI g r) = holI f g r := by
  unfold holI
  by_cases h : hldI g r = -9
  · rw [if_pos h, h, atR_m9]
  · rw [if_neg h, atR_hld (Nat.le_refl r) hr h]
/-- how many of the first n -/
def cntI (P : Nat → Prop) [DecidablePred P] : Nat → Nat
  | 0 => 0
  | n + 1 => cntI P n + (if P n then 1 else 0)
theorem cntI_le (P : Nat → Prop) [DecidablePred P] : ∀ n, cntI P n ≤ n
  | 0 => Nat.le_refl 0
  | n + 1 => by
    have h := cntI_le P n
    rw [cntI]
    split <;> omega
def rch (kind arm : Int32) : Int32 := if kind = 1 then arm + 1 else if kind = 2 then 2 * arm else arm
abbrev rm_X11_apart : Room := { frames := 0, cells := 0, slots := 0, locals := 0 }
set_option maxHeartbeats 4000000 in
set_option maxRecDepth 100000 in
theorem k_X11_apart (l : Launch) (σ : Sh) (V : Vt) (z0 z1 : Int32) : Ct l yX11_apart cX11_apart 2 (some .int) rm_X11_apart σ V [.int (z0), .int (z1)] (rI fun x V2 => V2 = V ∧ x = aprt z0 z1) := by
  refine Ct_of (by decide) (Nat.le_of_ble_eq_true rfl) ?_
  intro p e s m below meth c A D cy ls C hl
  have hl : lv_has ls 2 [(0, .int (z0)), (1, .int (z1))] := hl
  refine j_iload_n C dX11_apart_0 rfl (lv_at hl 0 rfl) ?_
  refine j_iload_n C dX11_apart_1 rfl (lv_at hl 1 rfl) ?_
  refine j_icmp_ge (tgt := 11) C dX11_apart_2 (by decide) (fun c_1_ => ?_) (fun c_1_ => ?_)
  · have n_1_ := Int32.not_lt.mpr c_1_
    refine j_iload_n C dX11_apart_11 rfl (lv_at hl 0 rfl) ?_
    refine j_iload_n C dX11_apart_12 rfl (lv_at hl 1 rfl) ?_
    refine j_isub C dX11_apart_13 ?_
    refine j_iret C ⟨rfl, _, rfl, ?_⟩ dX11_apart_14
    refine ⟨rfl, ?_⟩
    simp [aprt, c_1_, n_1_]
  · have n_1_ := Int32.not_le.mp c_1_
    refine j_iload_n C dX11_apart_5 rfl (lv_at hl 1 rfl) ?_
    refine j_iload_n C dX11_apart_6 rfl (lv_at hl 0 rfl) ?_
    refine j_isub C dX11_apart_7 ?_
    refine j_goto (tgt := 14) C dX11_apart_8 (by decide) ?_
    refine j_iret C ⟨rfl, _, rfl, ?_⟩ dX11_apart_14
    refine ⟨rfl, ?_⟩
    simp [aprt, c_1_, n_1_]
abbrev rm_X11_nearnessBy : Room := { frames := 1, cells := 0, slots := 0, locals := 21 }
set_option maxHeartbeats 4000000 in
set_option maxRecDepth 100000 in
theorem k_X11_nearnessBy (l : Launch) (σ : Sh) (V : Vt) (z0 z1 z2 z3 : Int32) : Ct l yX11_nearnessBy cX11_nearnessBy 5 (some .int) rm_X11_nearnessBy σ V [.int (z0), .int (z1), .int (z2), .int (z3)] (rI fun x V2 => V2 = V ∧ x = near z0 z1 z2 z3) := by
  refine Ct_of (by decide) (Nat.le_of_ble_eq_true rfl) ?_
  intro p e s m below meth c A D cy ls C hl
  have hl : lv_has ls 5 [(0, .int (z0)), (1, .int (z1)), (2, .int (z2)), (3, .int (z3))] := hl
  refine j_iload_n C dX11_nearnessBy_0 rfl (lv_at hl 0 rfl) ?_
  refine j_iload_n C dX11_nearnessBy_1 rfl (lv_at hl 1 rfl) ?_
  refine j_callS C [.int (z0), .int (z1)] [] (k_X11_apart l (σ) V (z0) (z1)) v_RX11_204 ⟨rfl, rfl, Nat.le_of_ble_eq_true rfl, Nat.le_of_ble_eq_true rfl⟩ rfl hl.1 rfl (Nat.le_of_ble_eq_true rfl) ⟨Nat.le_of_ble_eq_true rfl, Nat.le_of_ble_eq_true rfl⟩ dX11_nearnessBy_2 (kI fun x_1_ U1 h_1_ => ?_)
  obtain ⟨eU1, h_1_⟩ := h_1_
  have eU1 := eU1.symm
  subst eU1
  refine j_istore (lv2 := [(4, .int (x_1_)), (0, .int (z0)), (1, .int (z1)), (2, .int (z2)), (3, .int (z3))]) C dX11_nearnessBy_5 hl (by decide) rfl (fun ls hl => ?_)
  refine j_iload C dX11_nearnessBy_7 (lv_at hl 0 rfl) ?_
  refine j_iload_n C dX11_nearnessBy_9 rfl (lv_at hl 3 rfl) ?_
  refine j_icmp_gt (tgt := 17) C dX11_nearnessBy_10 (by decide) (fun c_2_ => ?_) (fun c_2_ => ?_)
  · have n_2_ := Int32.not_le.mpr c_2_
    refine j_iload C dX11_nearnessBy_17 (lv_at hl 0 rfl) ?_
    refine j_iload_n C dX11_nearnessBy_19 rfl (lv_at hl 4 rfl) ?_
    refine j_iadd C dX11_nearnessBy_20 ?_
    refine j_iret C ⟨rfl, _, rfl, ?_⟩ dX11_nearnessBy_21
    refine ⟨rfl, ?_⟩
    subst h_1_
    simp [near, c_2_, n_2_]
  · have n_2_ := Int32.not_lt.mp c_2_
    refine j_iconst (v := 0) C dX11_nearnessBy_13 (by decide) ?_
    refine j_goto (tgt := 21) C dX11_nearnessBy_14 (by decide) ?_
    refine j_iret C ⟨rfl, _, rfl, ?_⟩ dX11_nearnessBy_21
    refine ⟨rfl, ?_⟩
    subst h_1_
    simp [near, c_2_, n_2_]
abbrev rm_X11_isWithin : Room := { frames := 0, cells := 0, slots := 0, locals := 0 }
set_option maxHeartbeats 4000000 in
set_option maxRecDepth 100000 in
theorem k_X11_isWithin (l : Launch) (σ : Sh) (V : Vt) (z0 z1 z2 : Int32) : Ct l yX11_isWithin cX11_isWithin 3 (some .boolean) rm_X11_isWithin σ V [.int (z0), .int (z1), .int (z2)] (rI fun x V2 => V2 = V ∧ x = bI (z1 ≤ z0 ∧ z0 ≤ z2)) := by
  refine Ct_of (by decide) (Nat.le_of_ble_eq_true rfl) ?_
  intro p e s m below meth c A D cy ls C hl
  have hl : lv_has ls 3 [(0, .int (z0)), (1, .int (z1)), (2, .int (z2))] := hl
  refine j_iload_n C dX11_isWithin_0 rfl (lv_at hl 0 rfl) ?_
  refine j_iload_n C dX11_isWithin_1 rfl (lv_at hl 1 rfl) ?_
  refine j_icmp_lt (tgt := 14) C dX11_isWithin_2 (by decide) (fun c_1_ => ?_) (fun c_1_ => ?_)
  · have n_1_ := Int32.not_le.mpr c_1_
    refine j_iconst (v := 0) C dX11_isWithin_14 (by decide) ?_
    refine j_zret C rfl ⟨rfl, _, rfl, ?_⟩ dX11_isWithin_15
    refine ⟨rfl, ?_⟩
    simp [bI, c_1_, n_1_]
  · have n_1_ := Int32.not_lt.mp c_1_
    refine j_iload_n C dX11_isWithin_5 rfl (lv_at hl 0 rfl) ?_
    refine j_iload_n C dX11_isWithin_6 rfl (lv_at hl 2 rfl) ?_
    refine j_icmp_gt (tgt := 14) C dX11_isWithin_7 (by decide) (fun c_2_ => ?_) (fun c_2_ => ?_)
    · have n_2_ := Int32.not_le.mpr c_2_
      refine j_iconst (v := 0) C dX11_isWithin_14 (by decide) ?_
      refine j_zret C rfl ⟨rfl, _, rfl, ?_⟩ dX11_isWithin_15
      refine ⟨rfl, ?_⟩
      simp [bI, c_1_, n_1_, c_2_, n_2_]
    · have n_2_ := Int32.not_lt.mp c_2_
      refine j_iconst (v := 1) C dX11_isWithin_10 (by decide) ?_
      refine j_goto (tgt := 15) C dX11_isWithin_11 (by decide) ?_
      refine j_zret C rfl ⟨rfl, _, rfl, ?_⟩ dX11_isWithin_15
      refine ⟨rfl, ?_⟩
      simp [bI, c_1_, n_1_, c_2_, n_2_]
abbrev rm_X11_isLane : Room := { frames := 1, cells := 0, slots := 0, locals := 22 }
set_option maxHeartbeats 4000000 in
set_option maxRecDepth 100000 in
theorem k_X11_isLane (l : Launch) (σ : Sh) (V : Vt) (z0 : Int32) : Ct l yX11_isLane cX11_isLane 1 (some .boolean) rm_X11_isLane σ V [.int (z0)] (rI fun x V2 => V2 = V ∧ x = bI (0 ≤ z0 ∧ z0 ≤ 2)) := by
  refine Ct_of (by decide) (Nat.le_of_ble_eq_true rfl) ?_
  intro p e s m below meth c A D cy ls C hl
  have hl : lv_has ls 1 [(0, .int (z0))] := hl
  refine j_iload_n C dX11_isLane_0 rfl (lv_at hl 0 rfl) ?_
  refine j_iconst (v := 0) C dX11_isLane_1 (by decide) ?_
  refine j_iconst (v := 2) C dX11_isLane_2 (by decide) ?_
  refine j_callS C [.int (z0), .int (0), .int (2)] [] (k_X11_isWithin l (σ) V (z0) (0) (2)) v_RX11_143 ⟨rfl, rfl, Nat.le_of_ble_eq_true rfl, Nat.le_of_ble_eq_true rfl⟩ rfl hl.1 rfl (Nat.le_of_ble_eq_true rfl) ⟨Nat.le_of_ble_eq_true rfl, Nat.le_of_ble_eq_true rfl⟩ dX11_isLane_3 (kI fun x_1_ U1 h_1_ => ?_)
  obtain ⟨eU1, h_1_⟩ := h_1_
  have eU1 := eU1.symm
  subst eU1
  refine j_zret C (by first | (rw [h_1_]; exact bI_n) | (rw [h_1_]; rfl)) ⟨rfl, _, rfl, ?_⟩ dX11_isLane_6
  exact ⟨rfl, h_1_⟩
abbrev rm_X2_isFull : Room := { frames := 0, cells := 0, slots := 0, locals := 0 }
set_option maxHeartbeats 4000000 in
set_option maxRecDepth 100000 in
theorem k_X2_isFull (l : Launch) (ad tk : Nat → Nat) (nt : Nat) (V : Vt) (k : Nat) (hg : isG k)  : Ct l yX2_isFull cX2_isFull 1 (some .boolean) rm_X2_isFull (xS ad tk nt) V [.ref (ad (k))] (rI fun x V2 => V2 = V ∧ x = bI (8 ≤ V k 2)) := by
  refine Ct_of (by decide) (Nat.le_of_ble_eq_true rfl) ?_
  intro p e s m below meth c A D cy ls C hl
  have hl : lv_has ls 1 [(0, .ref (ad (k)))] := hl
  refine j_aload_n C dX2_isFull_0 rfl (lv_at hl 0 rfl) ?_
  refine j_getI (k := k) C (f_RX2_25_2) (xl (xG (tk := tk) (nt := nt) hg).1.1) ((xG (tk := tk) (nt := nt) hg).2.1) dX2_isFull_1 ?_
  refine j_bipush (v := 8) C dX2_isFull_4 (by decide) ?_
  refine j_icmp_lt (tgt := 13) C dX2_isFull_6 (by decide) (fun c_1_ => ?_) (fun c_1_ => ?_)
  · have n_1_ := Int32.not_le.mpr c_1_
    refine j_iconst (v := 0) C dX2_isFull_13 (by decide) ?_
    refine j_zret C rfl ⟨rfl, _, rfl, ?_⟩ dX2_isFull_14
    refine ⟨rfl, ?_⟩
    simp [bI, c_1_, n_1_]
  · have n_1_ := Int32.not_lt.mp c_1_
    refine j_iconst (v := 1) C dX2_isFull_9 (by decide) ?_
    refine j_goto (tgt := 14) C dX2_isFull_10 (by decide) ?_
    refine j_zret C rfl ⟨rfl, _, rfl, ?_⟩ dX2_isFull_14
    refine ⟨rfl, ?_⟩
    simp [bI, c_1_, n_1_]
abbrev rm_X2_nearness : Room := { frames := 2, cells := 0, slots := 0, locals := 45 }
set_option maxHeartbeats 4000000 in
set_option maxRecDepth 100000 in
theorem k_X2_nearness (l : Launch) (ad tk : Nat → Nat) (nt : Nat) (V : Vt) (k : Nat) (hg : isG k) (z0 z1 : Int32) : Ct l yX2_nearness cX2_nearness 3 (some .int) rm_X2_nearness (xS ad tk nt) V [.ref (ad (k)), .int (z0), .int (z1)] (rI fun x V2 => V2 = V ∧ x = near z0 (V k 0) (V k 1) z1) := by
  refine Ct_of (by decide) (Nat.le_of_ble_eq_true rfl) ?_
  intro p e s m below meth c A D cy ls C hl
  have hl : lv_has ls 3 [(0, .ref (ad (k))), (1, .int (z0)), (2, .int (z1))] := hl
  refine j_iload_n C dX2_nearness_0 rfl (lv_at hl 1 rfl) ?_
  refine j_aload_n C dX2_nearness_1 rfl (lv_at hl 0 rfl) ?_
  refine j_getI (k := k) C (f_RX2_18_2) (xl (xG (tk := tk) (nt := nt) hg).1.1) ((xG (tk := tk) (nt := nt) hg).2.1) dX2_nearness_2 ?_
  refine j_aload_n C dX2_nearness_5 rfl (lv_at hl 0 rfl) ?_
  refine j_getI (k := k) C (f_RX2_22_2) (xl (xG (tk := tk) (nt := nt) hg).1.1) ((xG (tk := tk) (nt := nt) hg).2.1) dX2_nearness_6 ?_
  refine j_iload_n C dX2_nearness_9 rfl (lv_at hl 2 rfl) ?_
  refine j_callN C [.int (z0), .int (V k 0), .int (V k 1), .int (z1)] [] (k_X11_nearnessBy l (xS ad tk nt) V (z0) (V k 0) (V k 1) (z1)) v_RX2_42 ⟨rfl, rfl, Nat.le_of_ble_eq_true rfl, Nat.le_of_ble_eq_true rfl⟩ rfl hl.1 rfl (Nat.le_of_ble_eq_true rfl) ⟨Nat.le_of_ble_eq_true rfl, Nat.le_of_ble_eq_true rfl⟩ dX2_nearness_10 (kI fun x_1_ U1 h_1_ => ?_)
  obtain ⟨eU1, h_1_⟩ := h_1_
  have eU1 := eU1.symm
  subst eU1
  refine j_iret C ⟨rfl, _, rfl, ?_⟩ dX2_nearness_13
  exact ⟨rfl, h_1_⟩
abbrev rm_X2_stand : Room := { frames := 0, cells := 0, slots := 0, locals := 0 }
set_option maxHeartbeats 4000000 in
set_option maxRecDepth 100000 in
theorem k_X2_stand (l : Launch) (ad tk : Nat → Nat) (nt : Nat) (V : Vt) (k : Nat) (hg : isG k) (z0 z1 : Int32) : Ct l yX2_stand cX2_stand 3 none rm_X2_stand (xS ad tk nt) V [.ref (ad (k)), .int (z0), .int (z1)] (rU fun V2 => V2 = up2 (up2 (up2 V k 0 z0) k 1 z1) k 2 0) := by
  refine Ct_of (by decide) (Nat.le_of_ble_eq_true rfl) ?_
  intro p e s m below meth c A D cy ls C hl
  have hl : lv_has ls 3 [(0, .ref (ad (k))), (1, .int (z0)), (2, .int (z1))] := hl
  refine j_aload_n C dX2_stand_0 rfl (lv_at hl 0 rfl) ?_
  refine j_iload_n C dX2_stand_1 rfl (lv_at hl 1 rfl) ?_
  refine j_putI (k := k) C (f_RX2_18_2) p_2_0 (xl (xG (tk := tk) (nt := nt) hg).1.1) ((xG (tk := tk) (nt := nt) hg).2.1) dX2_stand_2 (fun V1 eV1 => ?_)
  refine j_aload_n C dX2_stand_5 rfl (lv_at hl 0 rfl) ?_
  refine j_iload_n C dX2_stand_6 rfl (lv_at hl 2 rfl) ?_
  refine j_putI (k := k) C (f_RX2_22_2) p_2_1 (xl (xG (tk := tk) (nt := nt) hg).1.1) ((xG (tk := tk) (nt := nt) hg).2.1) dX2_stand_7 (fun V2 eV2 => ?_)
  refine j_aload_n C dX2_stand_10 rfl (lv_at hl 0 rfl) ?_
  refine j_iconst (v := 0) C dX2_stand_11 (by decide) ?_
  refine j_putI (k := k) C (f_RX2_25_2) p_2_2 (xl (xG (tk := tk) (nt := nt) hg).1.1) ((xG (tk := tk) (nt := nt) hg).2.1) dX2_stand_12 (fun V3 eV3 => ?_)
  refine j_vret C ⟨rfl, rfl, ?_⟩ dX2_stand_15
  subst eV1 eV2 eV3
  rfl
abbrev rm_X2_throwerAt : Room := { frames := 0, cells := 0, slots := 0, locals := 0 }
set_option maxHeartbeats 4000000 in
set_option maxRecDepth 100000 in
theorem k_X2_throwerAt (l : Launch) (ad tk : Nat → Nat) (nt : Nat) (V : Vt) (k : Nat) (hg : isG k) (r : Nat) (hr : V k 2 = nI r) (h_8_ : r ≤ 8) (z : Int32) : Ct l yX2_throwerAt cX2_throwerAt 2 (some .int) rm_X2_throwerAt (xS ad tk nt) V [.ref (ad (k)), .int (z)] (rI fun x V2 => V2 = V ∧ x = atR (V (k + 1)) r z) := by
  refine Ct_of (by decide) (Nat.le_of_ble_eq_true rfl) ?_
  intro p e s m below meth c A D cy ls C hl
  have hl : lv_has ls 2 [(0, .ref (ad (k))), (1, .int (z))] := hl
  refine j_iload_n C dX2_throwerAt_0 rfl (lv_at hl 1 rfl) ?_
  refine j_if_lt (tgt := 21) C dX2_throwerAt_1 (by decide) (fun c_1_ => ?_) (fun c_1_ => ?_)
  · have n_1_ := Int32.not_le.mpr c_1_
    refine j_bipush (v := (-9)) C dX2_throwerAt_21 (by decide) ?_
    refine j_goto (tgt := 32) C dX2_throwerAt_23 (by decide) ?_
    refine j_iret C ⟨rfl, _, rfl, ?_⟩ dX2_throwerAt_32
    refine ⟨rfl, ?_⟩
    unfold atR
    rw [if_neg (fun q => q.1 c_1_)]
  · have n_1_ := Int32.not_lt.mp c_1_
    refine j_iload_n C dX2_throwerAt_4 rfl (lv_at hl 1 rfl) ?_
    refine j_aload_n C dX2_throwerAt_5 rfl (lv_at hl 0 rfl) ?_
    refine j_getI (k := k) C (f_RX2_25_2) (xl (xG (tk := tk) (nt := nt) hg).1.1) ((xG (tk := tk) (nt := nt) hg).2.1) dX2_throwerAt_6 ?_
    refine j_icmp_ge (tgt := 21) C dX2_throwerAt_9 (by decide) (fun c_2_ => ?_) (fun c_2_ => ?_)
    · have n_2_ := Int32.not_lt.mpr c_2_
      refine j_bipush (v := (-9)) C dX2_throwerAt_21 (by decide) ?_
      refine j_goto (tgt := 32) C dX2_throwerAt_23 (by decide) ?_
      refine j_iret C ⟨rfl, _, rfl, ?_⟩ dX2_throwerAt_32
      refine ⟨rfl, ?_⟩
      unfold atR
      rw [if_neg (fun q => n_2_ (hr ▸ q.2))]
    · have n_2_ := Int32.not_le.mp c_2_
      refine j_iload_n C dX2_throwerAt_12 rfl (lv_at hl 1 rfl) ?_
      refine j_aload_n C dX2_throwerAt_13 rfl (lv_at hl 0 rfl) ?_
      refine j_getR (k := k) (k2 := k + 1) C (f_RX2_9_2) (xl (xG (tk := tk) (nt := nt) hg).1.1) ((xG (tk := tk) (nt := nt) hg).2.1) ((xG (tk := tk) (nt := nt) hg).2.2.2.2.2.2.1) dX2_throwerAt_14 ?_
      refine j_alen (k := k + 1) (n := 8) C (xl (xG (tk := tk) (nt := nt) hg).1.2.1) (Or.inl ((xG (tk := tk) (nt := nt) hg).2.2.1)) ((xG (tk := tk) (nt := nt) hg).2.2.2.2.1) dX2_throwerAt_17 ?_
      refine j_icmp_lt (tgt := 26) C dX2_throwerAt_18 (by decide) (fun c_3_ => ?_) (fun c_3_ => ?_)
      · have n_3_ := Int32.not_le.mpr c_3_
        refine j_aload_n C dX2_throwerAt_26 rfl (lv_at hl 0 rfl) ?_
        refine j_getR (k := k) (k2 := k + 1) C (f_RX2_9_2) (xl (xG (tk := tk) (nt := nt) hg).1.1) ((xG (tk := tk) (nt := nt) hg).2.1) ((xG (tk := tk) (nt := nt) hg).2.2.2.2.2.2.1) dX2_throwerAt_27 ?_
        refine j_iload_n C dX2_throwerAt_30 rfl (lv_at hl 1 rfl) ?_
        refine j_iald (k := k + 1) (n := 8) C (xl (xG (tk := tk) (nt := nt) hg).1.2.1) ((xG (tk := tk) (nt := nt) hg).2.2.1) ((xG (tk := tk) (nt := nt) hg).2.2.2.2.1) (inR (by assumption) (by assumption) (by decide)) dX2_throwerAt_31 ?_
        refine j_iret C ⟨rfl, _, rfl, ?_⟩ dX2_throwerAt_32
        refine ⟨rfl, ?_⟩
        rw [hr] at c_2_ n_2_
        simp [atR, c_1_, n_1_, c_2_, n_2_]
      · have n_3_ := Int32.not_lt.mp c_3_
        refine j_bipush (v := (-9)) C dX2_throwerAt_21 (by decide) ?_
        refine j_goto (tgt := 32) C dX2_throwerAt_23 (by decide) ?_
        refine j_iret C ⟨rfl, _, rfl, ?_⟩ dX2_throwerAt_32
        refine ⟨rfl, ?_⟩
        exfalso
        rw [hr] at n_2_
        exact absurd (Int32.lt_of_lt_of_le n_2_ (nI_le h_8_ (by decide))) (Int32.not_lt.mpr (by assumption))
abbrev rm_X2_nearAt : Room := { frames := 0, cells := 0, slots := 0, locals := 0 }
set_option maxHeartbeats 4000000 in
set_option maxRecDepth 100000 in
theorem k_X2_nearAt (l : Launch) (ad tk : Nat → Nat) (nt : Nat) (V : Vt) (k : Nat) (hg : isG k) (r : Nat) (hr : V k 2 = nI r) (h_8_ : r ≤ 8) (z : Int32) : Ct l yX2_nearAt cX2_nearAt 2 (some .int) rm_X2_nearAt (xS ad tk nt) V [.ref (ad (k)), .int (z)] (rI fun x V2 => V2 = V ∧ x = atR (V (k + 2)) r z) := by
  refine Ct_of (by decide) (Nat.le_of_ble_eq_true rfl) ?_
  intro p e s m below meth c A D cy ls C hl
  have hl : lv_has ls 2 [(0, .ref (ad (k))), (1, .int (z))] := hl
  refine j_iload_n C dX2_nearAt_0 rfl (lv_at hl 1 rfl) ?_
  refine j_if_lt (tgt := 21) C dX2_nearAt_1 (by decide) (fun c_1_ => ?_) (fun c_1_ => ?_)
  · have n_1_ := Int32.not_le.mpr c_1_
    refine j_bipush (v := (-9)) C dX2_nearAt_21 (by decide) ?_
    refine j_goto (tgt := 32) C dX2_nearAt_23 (by decide) ?_
    refine j_iret C ⟨rfl, _, rfl, ?_⟩ dX2_nearAt_32
    refine ⟨rfl, ?_⟩
    unfold atR
    rw [if_neg (fun q => q.1 c_1_)]
  · have n_1_ := Int32.not_lt.mp c_1_
    refine j_iload_n C dX2_nearAt_4 rfl (lv_at hl 1 rfl) ?_
    refine j_aload_n C dX2_nearAt_5 rfl (lv_at hl 0 rfl) ?_
    refine j_getI (k := k) C (f_RX2_25_2) (xl (xG (tk := tk) (nt := nt) hg).1.1) ((xG (tk := tk) (nt := nt) hg).2.1) dX2_nearAt_6 ?_
    refine j_icmp_ge (tgt := 21) C dX2_nearAt_9 (by decide) (fun c_2_ => ?_) (fun c_2_ => ?_)
    · have n_2_ := Int32.not_lt.mpr c_2_
      refine j_bipush (v := (-9)) C dX2_nearAt_21 (by decide) ?_
      refine j_goto (tgt := 32) C dX2_nearAt_23 (by decide) ?_
      refine j_iret C ⟨rfl, _, rfl, ?_⟩ dX2_nearAt_32
      refine ⟨rfl, ?_⟩
      unfold atR
      rw [if_neg (fun q => n_2_ (hr ▸ q.2))]
    · have n_2_ := Int32.not_le.mp c_2_
      refine j_iload_n C dX2_nearAt_12 rfl (lv_at hl 1 rfl) ?_
      refine j_aload_n C dX2_nearAt_13 rfl (lv_at hl 0 rfl) ?_
      refine j_getR (k := k) (k2 := k + 2) C (f_RX2_15_2) (xl (xG (tk := tk) (nt := nt) hg).1.1) ((xG (tk := tk) (nt := nt) hg).2.1) ((xG (tk := tk) (nt := nt) hg).2.2.2.2.2.2.2) dX2_nearAt_14 ?_
      refine j_alen (k := k + 2) (n := 8) C (xl (xG (tk := tk) (nt := nt) hg).1.2.2) (Or.inl ((xG (tk := tk) (nt := nt) hg).2.2.2.1)) ((xG (tk := tk) (nt := nt) hg).2.2.2.2.2.1) dX2_nearAt_17 ?_
      refine j_icmp_lt (tgt := 26) C dX2_nearAt_18 (by decide) (fun c_3_ => ?_) (fun c_3_ => ?_)
      · have n_3_ := Int32.not_le.mpr c_3_
        refine j_aload_n C dX2_nearAt_26 rfl (lv_at hl 0 rfl) ?_
        refine j_getR (k := k) (k2 := k + 2) C (f_RX2_15_2) (xl (xG (tk := tk) (nt := nt) hg).1.1) ((xG (tk := tk) (nt := nt) hg).2.1) ((xG (tk := tk) (nt := nt) hg).2.2.2.2.2.2.2) dX2_nearAt_27 ?_
        refine j_iload_n C dX2_nearAt_30 rfl (lv_at hl 1 rfl) ?_
        refine j_iald (k := k + 2) (n := 8) C (xl (xG (tk := tk) (nt := nt) hg).1.2.2) ((xG (tk := tk) (nt := nt) hg).2.2.2.1) ((xG (tk := tk) (nt := nt) hg).2.2.2.2.2.1) (inR (by assumption) (by assumption) (by decide)) dX2_nearAt_31 ?_
        refine j_iret C ⟨rfl, _, rfl, ?_⟩ dX2_nearAt_32
        refine ⟨rfl, ?_⟩
        rw [hr] at c_2_ n_2_
        simp [atR, c_1_, n_1_, c_2_, n_2_]
      · have n_3_ := Int32.not_lt.mp c_3_
        refine j_bipush (v := (-9)) C dX2_nearAt_21 (by decide) ?_
        refine j_goto (tgt := 32) C dX2_nearAt_23 (by decide) ?_
        refine j_iret C ⟨rfl, _, rfl, ?_⟩ dX2_nearAt_32
        refine ⟨rfl, ?_⟩
        exfalso
        rw [hr] at n_2_
        exact absurd (Int32.lt_of_lt_of_le n_2_ (nI_le h_8_ (by decide))) (Int32.not_lt.mpr (by assumption))
abbrev rm_X2_lay : Room := { frames := 0, cells := 0, slots := 0, locals := 0 }
set_option maxHeartbeats 4000000 in
set_option maxRecDepth 100000 in
theorem k_X2_lay (l : Launch) (ad tk : Nat → Nat) (nt : Nat) (V : Vt) (k : Nat) (hg : isG k) (r : Nat) (hr : V k 2 = nI r) (h_8_ : r < 8) (z0 z1 : Int32) : Ct l yX2_lay cX2_lay 3 none rm_X2_lay (xS ad tk nt) V [.ref (ad (k)), .int (z0), .int (z1)] (rU fun V2 => V2 = up2 (up2 (up2 V (k + 1) r z0) (k + 2) r z1) k 2 (nI (r + 1))) := by
  refine Ct_of (by decide) (Nat.le_of_ble_eq_true rfl) ?_
  intro p e s m below meth c A D cy ls C hl
  have hl : lv_has ls 3 [(0, .ref (ad (k))), (1, .int (z0)), (2, .int (z1))] := hl
  refine j_aload_n C dX2_lay_0 rfl (lv_at hl 0 rfl) ?_
  refine j_getI (k := k) C (f_RX2_25_2) (xl (xG (tk := tk) (nt := nt) hg).1.1) ((xG (tk := tk) (nt := nt) hg).2.1) dX2_lay_1 ?_
  refine j_if_lt (tgt := 61) C dX2_lay_4 (by decide) (fun c_1_ => ?_) (fun c_1_ => ?_)
  · have n_1_ := Int32.not_le.mpr c_1_
    refine j_vret C ⟨rfl, rfl, ?_⟩ dX2_lay_61
    exfalso
    rw [hr] at *
    first | exact absurd c_1_ (nI_pos (by omega)) | exact absurd (nI_lt h_8_ (by decide)) (by assumption)
  · have n_1_ := Int32.not_lt.mp c_1_
    refine j_aload_n C dX2_lay_7 rfl (lv_at hl 0 rfl) ?_
    refine j_getI (k := k) C (f_RX2_25_2) (xl (xG (tk := tk) (nt := nt) hg).1.1) ((xG (tk := tk) (nt := nt) hg).2.1) dX2_lay_8 ?_
    refine j_aload_n C dX2_lay_11 rfl (lv_at hl 0 rfl) ?_
    refine j_getR (k := k) (k2 := k + 1) C (f_RX2_9_2) (xl (xG (tk := tk) (nt := nt) hg).1.1) ((xG (tk := tk) (nt := nt) hg).2.1) ((xG (tk := tk) (nt := nt) hg).2.2.2.2.2.2.1) dX2_lay_12 ?_
    refine j_alen (k := k + 1) (n := 8) C (xl (xG (tk := tk) (nt := nt) hg).1.2.1) (Or.inl ((xG (tk := tk) (nt := nt) hg).2.2.1)) ((xG (tk := tk) (nt := nt) hg).2.2.2.2.1) dX2_lay_15 ?_
    refine j_icmp_ge (tgt := 61) C dX2_lay_16 (by decide) (fun c_2_ => ?_) (fun c_2_ => ?_)
    · have n_2_ := Int32.not_lt.mpr c_2_
      refine j_vret C ⟨rfl, rfl, ?_⟩ dX2_lay_61
      exfalso
      rw [hr] at *
      first | exact absurd c_1_ (nI_pos (by omega)) | exact absurd (nI_lt h_8_ (by decide)) (by assumption)
    · have n_2_ := Int32.not_le.mp c_2_
      refine j_aload_n C dX2_lay_19 rfl (lv_at hl 0 rfl) ?_
      refine j_getI (k := k) C (f_RX2_25_2) (xl (xG (tk := tk) (nt := nt) hg).1.1) ((xG (tk := tk) (nt := nt) hg).2.1) dX2_lay_20 ?_
      refine j_aload_n C dX2_lay_23 rfl (lv_at hl 0 rfl) ?_
      refine j_getR (k := k) (k2 := k + 2) C (f_RX2_15_2) (xl (xG (tk := tk) (nt := nt) hg).1.1) ((xG (tk := tk) (nt := nt) hg).2.1) ((xG (tk := tk) (nt := nt) hg).2.2.2.2.2.2.2) dX2_lay_24 ?_
      refine j_alen (k := k + 2) (n := 8) C (xl (xG (tk := tk) (nt := nt) hg).1.2.2) (Or.inl ((xG (tk := tk) (nt := nt) hg).2.2.2.1)) ((xG (tk := tk) (nt := nt) hg).2.2.2.2.2.1) dX2_lay_27 ?_
      refine j_icmp_ge (tgt := 61) C dX2_lay_28 (by decide) (fun c_3_ => ?_) (fun c_3_ => ?_)
      · have n_3_ := Int32.not_lt.mpr c_3_
        refine j_vret C ⟨rfl, rfl, ?_⟩ dX2_lay_61
        exfalso
        rw [hr] at *
        first | exact absurd c_1_ (nI_pos (by omega)) | exact absurd (nI_lt h_8_ (by decide)) (by assumption)
      · have n_3_ := Int32.not_le.mp c_3_
        refine j_aload_n C dX2_lay_31 rfl (lv_at hl 0 rfl) ?_
        refine j_getR (k := k) (k2 := k + 1) C (f_RX2_9_2) (xl (xG (tk := tk) (nt := nt) hg).1.1) ((xG (tk := tk) (nt := nt) hg).2.1) ((xG (tk := tk) (nt := nt) hg).2.2.2.2.2.2.1) dX2_lay_32 ?_
        refine j_aload_n C dX2_lay_35 rfl (lv_at hl 0 rfl) ?_
        refine j_getI (k := k) C (f_RX2_25_2) (xl (xG (tk := tk) (nt := nt) hg).1.1) ((xG (tk := tk) (nt := nt) hg).2.1) dX2_lay_36 ?_
        refine j_iload_n C dX2_lay_39 rfl (lv_at hl 1 rfl) ?_
        refine j_iast (k := k + 1) (n := 8) C (xl (xG (tk := tk) (nt := nt) hg).1.2.1) ((xG (tk := tk) (nt := nt) hg).2.2.1) ((xG (tk := tk) (nt := nt) hg).2.2.2.2.1) (by rw [show V k 2 = nI r by first | exact hr | (subst eV1; rw [up2_k _ _ (by omega), hr])]; exact vp_in_nI h_8_ (by decide)) dX2_lay_40 (fun V1 eV1 => ?_)
        refine j_aload_n C dX2_lay_41 rfl (lv_at hl 0 rfl) ?_
        refine j_getR (k := k) (k2 := k + 2) C (f_RX2_15_2) (xl (xG (tk := tk) (nt := nt) hg).1.1) ((xG (tk := tk) (nt := nt) hg).2.1) ((xG (tk := tk) (nt := nt) hg).2.2.2.2.2.2.2) dX2_lay_42 ?_
        refine j_aload_n C dX2_lay_45 rfl (lv_at hl 0 rfl) ?_
        refine j_getI (k := k) C (f_RX2_25_2) (xl (xG (tk := tk) (nt := nt) hg).1.1) ((xG (tk := tk) (nt := nt) hg).2.1) dX2_lay_46 ?_
        refine j_iload_n C dX2_lay_49 rfl (lv_at hl 2 rfl) ?_
        refine j_iast (k := k + 2) (n := 8) C (xl (xG (tk := tk) (nt := nt) hg).1.2.2) ((xG (tk := tk) (nt := nt) hg).2.2.2.1) ((xG (tk := tk) (nt := nt) hg).2.2.2.2.2.1) (by rw [show V1 k 2 = nI r by first | exact hr | (subst eV1; rw [up2_k _ _ (by omega), hr])]; exact vp_in_nI h_8_ (by decide)) dX2_lay_50 (fun V2 eV2 => ?_)
        refine j_aload_n C dX2_lay_51 rfl (lv_at hl 0 rfl) ?_
        refine j_dup C dX2_lay_52 rfl ?_
        refine j_getI (k := k) C (f_RX2_25_2) (xl (xG (tk := tk) (nt := nt) hg).1.1) ((xG (tk := tk) (nt := nt) hg).2.1) dX2_lay_53 ?_
        refine j_iconst (v := 1) C dX2_lay_56 (by decide) ?_
        refine j_iadd C dX2_lay_57 ?_
        refine j_putI (k := k) C (f_RX2_25_2) p_2_2 (xl (xG (tk := tk) (nt := nt) hg).1.1) ((xG (tk := tk) (nt := nt) hg).2.1) dX2_lay_58 (fun V3 eV3 => ?_)
        refine j_vret C ⟨rfl, rfl, ?_⟩ dX2_lay_61
        subst eV1 eV2 eV3
        rw [show (up2 (up2 V (k + 1) (V k 2).toNatClampNeg z0) (k + 2) (up2 V (k + 1) (V k 2).toNatClampNeg z0 k 2).toNatClampNeg z1) k 2 = nI r by rw [up2_k _ _ (by omega), up2_k _ _ (by omega), hr], up2_k V z0 (by omega), hr, nI_clamp (by omega), nI_succ]
abbrev rm_X2_takeLast : Room := { frames := 1, cells := 0, slots := 0, locals := 21 }
set_option maxHeartbeats 4000000 in
set_option maxRecDepth 100000 in
theorem k_X2_takeLast (l : Launch) (ad tk : Nat → Nat) (nt : Nat) (V : Vt) (k : Nat) (hg : isG k) (r : Nat) (hr : V k 2 = nI (r + 1)) (h_8_ : r < 8)  : Ct l yX2_takeLast cX2_takeLast 2 (some .int) rm_X2_takeLast (xS ad tk nt) V [.ref (ad (k))] (rI fun x V2 => V2 = up2 V k 2 (nI r) ∧ x = V (k + 1) r) := by
  refine Ct_of (by decide) (Nat.le_of_ble_eq_true rfl) ?_
  intro p e s m below meth c A D cy ls C hl
  have hl : lv_has ls 2 [(0, .ref (ad (k)))] := hl
  refine j_aload_n C dX2_takeLast_0 rfl (lv_at hl 0 rfl) ?_
  refine j_aload_n C dX2_takeLast_1 rfl (lv_at hl 0 rfl) ?_
  refine j_getI (k := k) C (f_RX2_25_2) (xl (xG (tk := tk) (nt := nt) hg).1.1) ((xG (tk := tk) (nt := nt) hg).2.1) dX2_takeLast_2 ?_
  refine j_iconst (v := 1) C dX2_takeLast_5 (by decide) ?_
  refine j_isub C dX2_takeLast_6 ?_
  refine j_callV (k := k) C [.int ((V k 2) - 1)] [] (k_X2_throwerAt l ad tk nt V k hg (r + 1) hr h_8_ ((V k 2) - 1)) v_RX2_32 (xl (xG (tk := tk) (nt := nt) hg).1.1) ((xG (tk := tk) (nt := nt) hg).2.1) rfl ⟨rfl, rfl, Nat.le_of_ble_eq_true rfl, Nat.le_of_ble_eq_true rfl⟩ rfl hl.1 rfl (Nat.le_of_ble_eq_true rfl) ⟨Nat.le_of_ble_eq_true rfl, Nat.le_of_ble_eq_true rfl⟩ dX2_takeLast_7 (kI fun x_1_ U1 h_1_ => ?_)
  obtain ⟨eU1, h_1_⟩ := h_1_
  have eU1 := eU1.symm
  subst eU1
  refine j_istore_n (lv2 := [(1, .int (x_1_)), (0, .ref (ad (k)))]) C dX2_takeLast_10 rfl hl (by decide) rfl (fun ls hl => ?_)
  refine j_aload_n C dX2_takeLast_11 rfl (lv_at hl 1 rfl) ?_
  refine j_getI (k := k) C (f_RX2_25_2) (xl (xG (tk := tk) (nt := nt) hg).1.1) ((xG (tk := tk) (nt := nt) hg).2.1) dX2_takeLast_12 ?_
  refine j_if_le (tgt := 28) C dX2_takeLast_15 (by decide) (fun c_2_ => ?_) (fun c_2_ => ?_)
  · have n_2_ := Int32.not_lt.mpr c_2_
    refine j_iload_n C dX2_takeLast_28 rfl (lv_at hl 0 rfl) ?_
    refine j_iret C ⟨rfl, _, rfl, ?_⟩ dX2_takeLast_29
    exact absurd c_2_ (by rw [hr]; exact nI_nle (by omega) (by omega))
  · have n_2_ := Int32.not_le.mp c_2_
    refine j_aload_n C dX2_takeLast_18 rfl (lv_at hl 1 rfl) ?_
    refine j_dup C dX2_takeLast_19 rfl ?_
    refine j_getI (k := k) C (f_RX2_25_2) (xl (xG (tk := tk) (nt := nt) hg).1.1) ((xG (tk := tk) (nt := nt) hg).2.1) dX2_takeLast_20 ?_
    refine j_iconst (v := 1) C dX2_takeLast_23 (by decide) ?_
    refine j_isub C dX2_takeLast_24 ?_
    refine j_putI (k := k) C (f_RX2_25_2) p_2_2 (xl (xG (tk := tk) (nt := nt) hg).1.1) ((xG (tk := tk) (nt := nt) hg).2.1) dX2_takeLast_25 (fun V1 eV1 => ?_)
    refine j_iload_n C dX2_takeLast_28 rfl (lv_at hl 0 rfl) ?_
    refine j_iret C ⟨rfl, _, rfl, ?_⟩ dX2_takeLast_29
    subst eV1
    refine ⟨by rw [hr, nI_pred], ?_⟩
    rw [h_1_, hr, nI_pred, atR_in (by omega) (by omega)]
abbrev rm_X2_holdingRing : Room := { frames := 1, cells := 0, slots := 0, locals := 21 }
set_option maxHeartbeats 4000000 in
set_option maxRecDepth 100000 in
theorem k_X2_holdingRing (l : Launch) (ad tk : Nat → Nat) (nt : Nat) (V : Vt) (k : Nat) (hg : isG k) (r : Nat) (hr : V k 2 = nI r) (h_8_ : r ≤ 8)  : Ct l yX2_holdingRing cX2_holdingRing 4 (some .int) rm_X2_holdingRing (xS ad tk nt) V [.ref (ad (k))] (rI fun x V2 => V2 = V ∧ x = hldI (V (k + 2)) r) := by
  refine Ct_of (by decide) (Nat.le_of_ble_eq_true rfl) ?_
  intro p e s m below meth c A D cy ls C hl
  have hl : lv_has ls 4 [(0, .ref (ad (k)))] := hl
  refine j_bipush (v := (-9)) C dX2_holdingRing_0 (by decide) ?_
  refine j_istore_n (lv2 := [(1, .int ((-9))), (0, .ref (ad (k)))]) C dX2_holdingRing_2 rfl hl (by decide) rfl (fun ls hl => ?_)
  refine j_iconst (v := 0) C dX2_holdingRing_3 (by decide) ?_
  refine j_istore_n (lv2 := [(2, .int (0)), (1, .int ((-9))), (0, .ref (ad (k)))]) C dX2_holdingRing_4 rfl hl (by decide) rfl (fun ls hl => ?_)
  have loop : ∀ (n_9_ : Nat) (i : Nat) (b : Int32), i ≤ r → b = hldI (V (k + 2)) i → r - i < n_9_ → ∀ (ls : Array Slot), lv_has ls 4 [(0, .ref (ad (k))), (1, .int (b)), (2, .int (nI i))] → J p l e rm_X2_holdingRing s m [.ref (ad (k))].toArray below meth c A D cy 0 0 (MQ below (gPost D cy A (fun o9 σ2 V2 => σ2 = xS ad tk nt ∧ (rI fun x V2 => V2 = V ∧ x = hldI (V (k + 2)) r) o9 V2)) [.ref (ad (k))].toArray s 0 0 A) (xS ad tk nt) V (F0 m 5 ls []) := by
    intro n_9_
    induction n_9_ with
    | zero =>
      intro i b hi hb hm
      exact absurd hm (by omega)
    | succ n_9_ ih_loop =>
      intro i b hi hb hm ls hl
      refine j_iload_n C dX2_holdingRing_5 rfl (lv_at hl 2 rfl) ?_
      refine j_aload_n C dX2_holdingRing_6 rfl (lv_at hl 0 rfl) ?_
      refine j_getI (k := k) C (f_RX2_25_2) (xl (xG (tk := tk) (nt := nt) hg).1.1) ((xG (tk := tk) (nt := nt) hg).2.1) dX2_holdingRing_7 ?_
      refine j_icmp_ge (tgt := 46) C dX2_holdingRing_10 (by decide) (fun c_1_ => ?_) (fun c_1_ => ?_)
      · have n_1_ := Int32.not_lt.mpr c_1_
        refine j_iload_n C dX2_holdingRing_46 rfl (lv_at hl 1 rfl) ?_
        refine j_iret C ⟨rfl, _, rfl, ?_⟩ dX2_holdingRing_47
        refine ⟨rfl, ?_⟩
        obtain rfl : i = r := by
          rcases Nat.lt_or_ge i r with q | q
          · exact absurd (by rw [hr] at c_1_; exact c_1_) (nI_ge q (by omega))
          · omega
        exact hb
      · have n_1_ := Int32.not_le.mp c_1_
        refine j_aload_n C dX2_holdingRing_13 rfl (lv_at hl 0 rfl) ?_
        refine j_iload_n C dX2_holdingRing_14 rfl (lv_at hl 2 rfl) ?_
        refine j_callV (k := k) C [.int (nI i)] [] (k_X2_nearAt l ad tk nt V k hg r hr h_8_ (nI i)) v_RX2_36 (xl (xG (tk := tk) (nt := nt) hg).1.1) ((xG (tk := tk) (nt := nt) hg).2.1) rfl ⟨rfl, rfl, Nat.le_of_ble_eq_true rfl, Nat.le_of_ble_eq_true rfl⟩ rfl hl.1 rfl (Nat.le_of_ble_eq_true rfl) ⟨Nat.le_of_ble_eq_true rfl, Nat.le_of_ble_eq_true rfl⟩ dX2_holdingRing_15 (kI fun x_2_ U2 h_2_ => ?_)
        obtain ⟨eU2, h_2_⟩ := h_2_
        have eU2 := eU2.symm
        subst eU2
        have hlt : i < r := by
          rcases Nat.lt_or_ge i r with q | q
          · exact q
          · exact absurd (by rw [hr]; exact nI_le q (by omega)) c_1_
        rw [atR_in hlt (by omega)] at h_2_
        refine j_istore_n (lv2 := [(3, .int (x_2_)), (0, .ref (ad (k))), (1, .int (b)), (2, .int (nI i))]) C dX2_holdingRing_18 rfl hl (by decide) rfl (fun ls hl => ?_)
        refine j_iload_n C dX2_holdingRing_19 rfl (lv_at hl 2 rfl) ?_
        refine j_bipush (v := (-9)) C dX2_holdingRing_20 (by decide) ?_
        refine j_icmp_eq (tgt := 38) C dX2_holdingRing_22 (by decide) (fun c_3_ => ?_) (fun c_3_ => ?_)
        · skip
          refine j_iload_n C dX2_holdingRing_38 rfl (lv_at hl 3 rfl) ?_
          refine j_istore_n (lv2 := [(1, .int (nI i)), (3, .int (x_2_)), (0, .ref (ad (k))), (2, .int (nI i))]) C dX2_holdingRing_39 rfl hl (by decide) rfl (fun ls hl => ?_)
          refine j_iinc (v := nI (i + 1)) (lv2 := [(2, .int (nI (i + 1))), (1, .int (nI i)), (3, .int (x_2_)), (0, .ref (ad (k)))]) C dX2_holdingRing_40 hl (k0 := 3) rfl (nI_1 _) (by decide) rfl (fun ls hl => ?_)
          refine j_goto (tgt := 5) C dX2_holdingRing_43 (by decide) ?_
          exact ih_loop (i + 1) (nI i) (by omega) (by rw [hldI]; first | (simp_all; done) | (simp_all; intro q; exact absurd q (Int32.not_lt.mpr (by assumption)))) (by omega) ls (lv_sub hl [3, 1, 0] rfl)
        · skip
          refine j_iload_n C dX2_holdingRing_25 rfl (lv_at hl 0 rfl) ?_
          refine j_if_eq (tgt := 38) C dX2_holdingRing_26 (by decide) (fun c_4_ => ?_) (fun c_4_ => ?_)
          · skip
            refine j_iload_n C dX2_holdingRing_38 rfl (lv_at hl 3 rfl) ?_
            refine j_istore_n (lv2 := [(1, .int (nI i)), (3, .int (x_2_)), (0, .ref (ad (k))), (2, .int (nI i))]) C dX2_holdingRing_39 rfl hl (by decide) rfl (fun ls hl => ?_)
            refine j_iinc (v := nI (i + 1)) (lv2 := [(2, .int (nI (i + 1))), (1, .int (nI i)), (3, .int (x_2_)), (0, .ref (ad (k)))]) C dX2_holdingRing_40 hl (k0 := 3) rfl (nI_1 _) (by decide) rfl (fun ls hl => ?_)
            refine j_goto (tgt := 5) C dX2_holdingRing_43 (by decide) ?_
            exact ih_loop (i + 1) (nI i) (by omega) (by rw [hldI]; first | (simp_all; done) | (simp_all; intro q; exact absurd q (Int32.not_lt.mpr (by assumption)))) (by omega) ls (lv_sub hl [3, 1, 0] rfl)
          · skip
            refine j_iload_n C dX2_holdingRing_29 rfl (lv_at hl 0 rfl) ?_
            refine j_aload_n C dX2_holdingRing_30 rfl (lv_at hl 1 rfl) ?_
            refine j_iload_n C dX2_holdingRing_31 rfl (lv_at hl 2 rfl) ?_
            refine j_callV (k := k) C [.int (b)] [.int (x_2_)] (k_X2_nearAt l ad tk nt V k hg r hr h_8_ (b)) v_RX2_36 (xl (xG (tk := tk) (nt := nt) hg).1.1) ((xG (tk := tk) (nt := nt) hg).2.1) rfl ⟨rfl, rfl, Nat.le_of_ble_eq_true rfl, Nat.le_of_ble_eq_true rfl⟩ rfl hl.1 rfl (Nat.le_of_ble_eq_true rfl) ⟨Nat.le_of_ble_eq_true rfl, Nat.le_of_ble_eq_true rfl⟩ dX2_holdingRing_32 (kI fun x_5_ U5 h_5_ => ?_)
            obtain ⟨eU5, h_5_⟩ := h_5_
            have eU5 := eU5.symm
            subst eU5
            rw [hb, atR_hld hi (by omega) (by rw [← hb]; assumption)] at h_5_
            refine j_icmp_ge (tgt := 40) C dX2_holdingRing_35 (by decide) (fun c_6_ => ?_) (fun c_6_ => ?_)
            · have n_6_ := Int32.not_lt.mpr c_6_
              refine j_iinc (v := nI (i + 1)) (lv2 := [(2, .int (nI (i + 1))), (3, .int (x_2_)), (0, .ref (ad (k))), (1, .int (b))]) C dX2_holdingRing_40 hl (k0 := 3) rfl (nI_1 _) (by decide) rfl (fun ls hl => ?_)
              refine j_goto (tgt := 5) C dX2_holdingRing_43 (by decide) ?_
              exact ih_loop (i + 1) (b) (by omega) (by rw [hldI]; first | (simp_all; done) | (simp_all; intro q; exact absurd q (Int32.not_lt.mpr (by assumption)))) (by omega) ls (lv_sub hl [2, 3, 0] rfl)
            · have n_6_ := Int32.not_le.mp c_6_
              refine j_iload_n C dX2_holdingRing_38 rfl (lv_at hl 3 rfl) ?_
              refine j_istore_n (lv2 := [(1, .int (nI i)), (3, .int (x_2_)), (0, .ref (ad (k))), (2, .int (nI i))]) C dX2_holdingRing_39 rfl hl (by decide) rfl (fun ls hl => ?_)
              refine j_iinc (v := nI (i + 1)) (lv2 := [(2, .int (nI (i + 1))), (1, .int (nI i)), (3, .int (x_2_)), (0, .ref (ad (k)))]) C dX2_holdingRing_40 hl (k0 := 3) rfl (nI_1 _) (by decide) rfl (fun ls hl => ?_)
              refine j_goto (tgt := 5) C dX2_holdingRing_43 (by decide) ?_
              exact ih_loop (i + 1) (nI i) (by omega) (by rw [hldI]; first | (simp_all; done) | (simp_all; intro q; exact absurd q (Int32.not_lt.mpr (by assumption)))) (by omega) ls (lv_sub hl [3, 1, 0] rfl)
  exact loop (r + 1) 0 (-9) (by omega) rfl (by omega) ls (lv_sub hl [2, 1, 0] rfl)
abbrev rm_X2_holder : Room := { frames := 2, cells := 0, slots := 0, locals := 44 }
set_option maxHeartbeats 4000000 in
set_option maxRecDepth 100000 in
theorem k_X2_holder (l : Launch) (ad tk : Nat → Nat) (nt : Nat) (V : Vt) (k : Nat) (hg : isG k) (r : Nat) (hr : V k 2 = nI r) (h_8_ : r ≤ 8)  : Ct l yX2_holder cX2_holder 1 (some .int) rm_X2_holder (xS ad tk nt) V [.ref (ad (k))] (rI fun x V2 => V2 = V ∧ x = holI (V (k + 1)) (V (k + 2)) r) := by
  refine Ct_of (by decide) (Nat.le_of_ble_eq_true rfl) ?_
  intro p e s m below meth c A D cy ls C hl
  have hl : lv_has ls 1 [(0, .ref (ad (k)))] := hl
  refine j_aload_n C dX2_holder_0 rfl (lv_at hl 0 rfl) ?_
  refine j_aload_n C dX2_holder_1 rfl (lv_at hl 0 rfl) ?_
  refine j_callV (k := k) C [] [.ref (ad (k))] (k_X2_holdingRing l ad tk nt V k hg r hr h_8_ ) v_RX2_46 (xl (xG (tk := tk) (nt := nt) hg).1.1) ((xG (tk := tk) (nt := nt) hg).2.1) rfl ⟨rfl, rfl, Nat.le_of_ble_eq_true rfl, Nat.le_of_ble_eq_true rfl⟩ rfl hl.1 rfl (Nat.le_of_ble_eq_true rfl) ⟨Nat.le_of_ble_eq_true rfl, Nat.le_of_ble_eq_true rfl⟩ dX2_holder_2 (kI fun x_1_ U1 h_1_ => ?_)
  obtain ⟨eU1, h_1_⟩ := h_1_
  have eU1 := eU1.symm
  subst eU1
  refine j_callV (k := k) C [.int (x_1_)] [] (k_X2_throwerAt l ad tk nt V k hg r hr h_8_ (x_1_)) v_RX2_32 (xl (xG (tk := tk) (nt := nt) hg).1.1) ((xG (tk := tk) (nt := nt) hg).2.1) rfl ⟨rfl, rfl, Nat.le_of_ble_eq_true rfl, Nat.le_of_ble_eq_true rfl⟩ rfl hl.1 rfl (Nat.le_of_ble_eq_true rfl) ⟨Nat.le_of_ble_eq_true rfl, Nat.le_of_ble_eq_true rfl⟩ dX2_holder_5 (kI fun x_2_ U2 h_2_ => ?_)
  obtain ⟨eU2, h_2_⟩ := h_2_
  have eU2 := eU2.symm
  subst eU2
  refine j_iret C ⟨rfl, _, rfl, ?_⟩ dX2_holder_8
  refine ⟨rfl, ?_⟩
  rw [h_2_, h_1_, atR_hol (by omega)]
abbrev rm_X2_holdersNearness : Room := { frames := 2, cells := 0, slots := 0, locals := 44 }
set_option maxHeartbeats 4000000 in
set_option maxRecDepth 100000 in
theorem k_X2_holdersNearness (l : Launch) (ad tk : Nat → Nat) (nt : Nat) (V : Vt) (k : Nat) (hg : isG k) (r : Nat) (hr : V k 2 = nI r) (h_8_ : r ≤ 8)  : Ct l yX2_holdersNearness cX2_holdersNearness 1 (some .int) rm_X2_holdersNearness (xS ad tk nt) V [.ref (ad (k))] (rI fun x V2 => V2 = V ∧ x = holI (V (k + 2)) (V (k + 2)) r) := by
  refine Ct_of (by decide) (Nat.le_of_ble_eq_true rfl) ?_
  intro p e s m below meth c A D cy ls C hl
  have hl : lv_has ls 1 [(0, .ref (ad (k)))] := hl
  refine j_aload_n C dX2_holdersNearness_0 rfl (lv_at hl 0 rfl) ?_
  refine j_aload_n C dX2_holdersNearness_1 rfl (lv_at hl 0 rfl) ?_
  refine j_callV (k := k) C [] [.ref (ad (k))] (k_X2_holdingRing l ad tk nt V k hg r hr h_8_ ) v_RX2_46 (xl (xG (tk := tk) (nt := nt) hg).1.1) ((xG (tk := tk) (nt := nt) hg).2.1) rfl ⟨rfl, rfl, Nat.le_of_ble_eq_true rfl, Nat.le_of_ble_eq_true rfl⟩ rfl hl.1 rfl (Nat.le_of_ble_eq_true rfl) ⟨Nat.le_of_ble_eq_true rfl, Nat.le_of_ble_eq_true rfl⟩ dX2_holdersNearness_2 (kI fun x_1_ U1 h_1_ => ?_)
  obtain ⟨eU1, h_1_⟩ := h_1_
  have eU1 := eU1.symm
  subst eU1
  refine j_callV (k := k) C [.int (x_1_)] [] (k_X2_nearAt l ad tk nt V k hg r hr h_8_ (x_1_)) v_RX2_36 (xl (xG (tk := tk) (nt := nt) hg).1.1) ((xG (tk := tk) (nt := nt) hg).2.1) rfl ⟨rfl, rfl, Nat.le_of_ble_eq_true rfl, Nat.le_of_ble_eq_true rfl⟩ rfl hl.1 rfl (Nat.le_of_ble_eq_true rfl) ⟨Nat.le_of_ble_eq_true rfl, Nat.le_of_ble_eq_true rfl⟩ dX2_holdersNearness_5 (kI fun x_2_ U2 h_2_ => ?_)
  obtain ⟨eU2, h_2_⟩ := h_2_
  have eU2 := eU2.symm
  subst eU2
  refine j_iret C ⟨rfl, _, rfl, ?_⟩ dX2_holdersNearness_8
  refine ⟨rfl, ?_⟩
  rw [h_2_, h_1_, atR_hol (by omega)]
abbrev rm_X2_ringers : Room := { frames := 1, cells := 0, slots := 0, locals := 21 }
set_option maxHeartbeats 4000000 in
set_option maxRecDepth 100000 in
theorem k_X2_ringers (l : Launch) (ad tk : Nat → Nat) (nt : Nat) (V : Vt) (k : Nat) (hg : isG k) (r : Nat) (hr : V k 2 = nI r) (h_8_ : r ≤ 8)  : Ct l yX2_ringers cX2_ringers 3 (some .int) rm_X2_ringers (xS ad tk nt) V [.ref (ad (k))] (rI fun x V2 => V2 = V ∧ x = nI (cntI (fun q => V (k + 2) q = 0) r)) := by
  refine Ct_of (by decide) (Nat.le_of_ble_eq_true rfl) ?_
  intro p e s m below meth c A D cy ls C hl
  have hl : lv_has ls 3 [(0, .ref (ad (k)))] := hl
  refine j_iconst (v := 0) C dX2_ringers_0 (by decide) ?_
  refine j_istore_n (lv2 := [(1, .int (0)), (0, .ref (ad (k)))]) C dX2_ringers_1 rfl hl (by decide) rfl (fun ls hl => ?_)
  refine j_iconst (v := 0) C dX2_ringers_2 (by decide) ?_
  refine j_istore_n (lv2 := [(2, .int (0)), (1, .int (0)), (0, .ref (ad (k)))]) C dX2_ringers_3 rfl hl (by decide) rfl (fun ls hl => ?_)
  have loop : ∀ (n_9_ : Nat) (i : Nat) (b : Int32), i ≤ r → b = nI (cntI (fun q => V (k + 2) q = 0) i) → r - i < n_9_ → ∀ (ls : Array Slot), lv_has ls 3 [(0, .ref (ad (k))), (1, .int (b)), (2, .int (nI i))] → J p l e rm_X2_ringers s m [.ref (ad (k))].toArray below meth c A D cy 0 0 (MQ below (gPost D cy A (fun o9 σ2 V2 => σ2 = xS ad tk nt ∧ (rI fun x V2 => V2 = V ∧ x = nI (cntI (fun q => V (k + 2) q = 0) r)) o9 V2)) [.ref (ad (k))].toArray s 0 0 A) (xS ad tk nt) V (F0 m 4 ls []) := by
    intro n_9_
    induction n_9_ with
    | zero =>
      intro i b hi hb hm
      exact absurd hm (by omega)
    | succ n_9_ ih_loop =>
      intro i b hi hb hm ls hl
      refine j_iload_n C dX2_ringers_4 rfl (lv_at hl 2 rfl) ?_
      refine j_aload_n C dX2_ringers_5 rfl (lv_at hl 0 rfl) ?_
      refine j_getI (k := k) C (f_RX2_25_2) (xl (xG (tk := tk) (nt := nt) hg).1.1) ((xG (tk := tk) (nt := nt) hg).2.1) dX2_ringers_6 ?_
      refine j_icmp_ge (tgt := 29) C dX2_ringers_9 (by decide) (fun c_1_ => ?_) (fun c_1_ => ?_)
      · have n_1_ := Int32.not_lt.mpr c_1_
        refine j_iload_n C dX2_ringers_29 rfl (lv_at hl 1 rfl) ?_
        refine j_iret C ⟨rfl, _, rfl, ?_⟩ dX2_ringers_30
        refine ⟨rfl, ?_⟩
        obtain rfl : i = r := by
          rcases Nat.lt_or_ge i r with q | q
          · exact absurd (by rw [hr] at c_1_; exact c_1_) (nI_ge q (by omega))
          · omega
        exact hb
      · have n_1_ := Int32.not_le.mp c_1_
        refine j_aload_n C dX2_ringers_12 rfl (lv_at hl 0 rfl) ?_
        refine j_iload_n C dX2_ringers_13 rfl (lv_at hl 2 rfl) ?_
        refine j_callV (k := k) C [.int (nI i)] [] (k_X2_nearAt l ad tk nt V k hg r hr h_8_ (nI i)) v_RX2_36 (xl (xG (tk := tk) (nt := nt) hg).1.1) ((xG (tk := tk) (nt := nt) hg).2.1) rfl ⟨rfl, rfl, Nat.le_of_ble_eq_true rfl, Nat.le_of_ble_eq_true rfl⟩ rfl hl.1 rfl (Nat.le_of_ble_eq_true rfl) ⟨Nat.le_of_ble_eq_true rfl, Nat.le_of_ble_eq_true rfl⟩ dX2_ringers_14 (kI fun x_2_ U2 h_2_ => ?_)
        obtain ⟨eU2, h_2_⟩ := h_2_
        have eU2 := eU2.symm
        subst eU2
        have hlt : i < r := by
          rcases Nat.lt_or_ge i r with q | q
          · exact q
          · exact absurd (by rw [hr]; exact nI_le q (by omega)) c_1_
        rw [atR_in hlt (by omega)] at h_2_
        refine j_if_ne (tgt := 23) C dX2_ringers_17 (by decide) (fun c_3_ => ?_) (fun c_3_ => ?_)
        · skip
          refine j_iinc (v := nI (i + 1)) (lv2 := [(2, .int (nI (i + 1))), (0, .ref (ad (k))), (1, .int (b))]) C dX2_ringers_23 hl (k0 := 2) rfl (nI_1 _) (by decide) rfl (fun ls hl => ?_)
          refine j_goto (tgt := 4) C dX2_ringers_26 (by decide) ?_
          exact ih_loop (i + 1) (b) (by omega) (by rw [cntI]; simp_all [nI_1]) (by omega) ls (lv_sub hl [1, 2, 0] rfl)
        · skip
          refine j_iinc (v := b + 1) (lv2 := [(1, .int (b + 1)), (0, .ref (ad (k))), (2, .int (nI i))]) C dX2_ringers_20 hl (k0 := 1) rfl rfl (by decide) rfl (fun ls hl => ?_)
          refine j_iinc (v := nI (i + 1)) (lv2 := [(2, .int (nI (i + 1))), (1, .int (b + 1)), (0, .ref (ad (k)))]) C dX2_ringers_23 hl (k0 := 2) rfl (nI_1 _) (by decide) rfl (fun ls hl => ?_)
          refine j_goto (tgt := 4) C dX2_ringers_26 (by decide) ?_
          exact ih_loop (i + 1) (b + 1) (by omega) (by rw [cntI]; simp_all [nI_1]) (by omega) ls (lv_sub hl [2, 1, 0] rfl)
  exact loop (r + 1) 0 0 (by omega) rfl (by omega) ls (lv_sub hl [2, 1, 0] rfl)
abbrev rm_X2_ringsOf : Room := { frames := 1, cells := 0, slots := 0, locals := 21 }
set_option maxHeartbeats 4000000 in
set_option maxRecDepth 100000 in
theorem k_X2_ringsOf (l : Launch) (ad tk : Nat → Nat) (nt : Nat) (V : Vt) (k : Nat) (hg : isG k) (r : Nat) (hr : V k 2 = nI r) (h_8_ : r ≤ 8) (z : Int32) : Ct l yX2_ringsOf cX2_ringsOf 4 (some .int) rm_X2_ringsOf (xS ad tk nt) V [.ref (ad (k)), .int (z)] (rI fun x V2 => V2 = V ∧ x = nI (cntI (fun q => V (k + 1) q = z) r)) := by
  refine Ct_of (by decide) (Nat.le_of_ble_eq_true rfl) ?_
  intro p e s m below meth c A D cy ls C hl
  have hl : lv_has ls 4 [(0, .ref (ad (k))), (1, .int (z))] := hl
  refine j_iconst (v := 0) C dX2_ringsOf_0 (by decide) ?_
  refine j_istore_n (lv2 := [(2, .int (0)), (0, .ref (ad (k))), (1, .int (z))]) C dX2_ringsOf_1 rfl hl (by decide) rfl (fun ls hl => ?_)
  refine j_iconst (v := 0) C dX2_ringsOf_2 (by decide) ?_
  refine j_istore_n (lv2 := [(3, .int (0)), (2, .int (0)), (0, .ref (ad (k))), (1, .int (z))]) C dX2_ringsOf_3 rfl hl (by decide) rfl (fun ls hl => ?_)
  have loop : ∀ (n_9_ : Nat) (i : Nat) (b : Int32), i ≤ r → b = nI (cntI (fun q => V (k + 1) q = z) i) → r - i < n_9_ → ∀ (ls : Array Slot), lv_has ls 4 [(0, .ref (ad (k))), (1, .int (z)), (2, .int (b)), (3, .int (nI i))] → J p l e rm_X2_ringsOf s m [.ref (ad (k)), .int (z)].toArray below meth c A D cy 0 0 (MQ below (gPost D cy A (fun o9 σ2 V2 => σ2 = xS ad tk nt ∧ (rI fun x V2 => V2 = V ∧ x = nI (cntI (fun q => V (k + 1) q = z) r)) o9 V2)) [.ref (ad (k)), .int (z)].toArray s 0 0 A) (xS ad tk nt) V (F0 m 4 ls []) := by
    intro n_9_
    induction n_9_ with
    | zero =>
      intro i b hi hb hm
      exact absurd hm (by omega)
    | succ n_9_ ih_loop =>
      intro i b hi hb hm ls hl
      refine j_iload_n C dX2_ringsOf_4 rfl (lv_at hl 3 rfl) ?_
      refine j_aload_n C dX2_ringsOf_5 rfl (lv_at hl 0 rfl) ?_
      refine j_getI (k := k) C (f_RX2_25_2) (xl (xG (tk := tk) (nt := nt) hg).1.1) ((xG (tk := tk) (nt := nt) hg).2.1) dX2_ringsOf_6 ?_
      refine j_icmp_ge (tgt := 30) C dX2_ringsOf_9 (by decide) (fun c_1_ => ?_) (fun c_1_ => ?_)
      · have n_1_ := Int32.not_lt.mpr c_1_
        refine j_iload_n C dX2_ringsOf_30 rfl (lv_at hl 2 rfl) ?_
        refine j_iret C ⟨rfl, _, rfl, ?_⟩ dX2_ringsOf_31
        refine ⟨rfl, ?_⟩
        obtain rfl : i = r := by
          rcases Nat.lt_or_ge i r with q | q
          · exact absurd (by rw [hr] at c_1_; exact c_1_) (nI_ge q (by omega))
          · omega
        exact hb
      · have n_1_ := Int32.not_le.mp c_1_
        refine j_aload_n C dX2_ringsOf_12 rfl (lv_at hl 0 rfl) ?_
        refine j_iload_n C dX2_ringsOf_13 rfl (lv_at hl 3 rfl) ?_
        refine j_callV (k := k) C [.int (nI i)] [] (k_X2_throwerAt l ad tk nt V k hg r hr h_8_ (nI i)) v_RX2_32 (xl (xG (tk := tk) (nt := nt) hg).1.1) ((xG (tk := tk) (nt := nt) hg).2.1) rfl ⟨rfl, rfl, Nat.le_of_ble_eq_true rfl, Nat.le_of_ble_eq_true rfl⟩ rfl hl.1 rfl (Nat.le_of_ble_eq_true rfl) ⟨Nat.le_of_ble_eq_true rfl, Nat.le_of_ble_eq_true rfl⟩ dX2_ringsOf_14 (kI fun x_2_ U2 h_2_ => ?_)
        obtain ⟨eU2, h_2_⟩ := h_2_
        have eU2 := eU2.symm
        subst eU2
        have hlt : i < r := by
          rcases Nat.lt_or_ge i r with q | q
          · exact q
          · exact absurd (by rw [hr]; exact nI_le q (by omega)) c_1_
        rw [atR_in hlt (by omega)] at h_2_
        refine j_iload_n C dX2_ringsOf_17 rfl (lv_at hl 1 rfl) ?_
        refine j_icmp_ne (tgt := 24) C dX2_ringsOf_18 (by decide) (fun c_3_ => ?_) (fun c_3_ => ?_)
        · skip
          refine j_iinc (v := nI (i + 1)) (lv2 := [(3, .int (nI (i + 1))), (0, .ref (ad (k))), (1, .int (z)), (2, .int (b))]) C dX2_ringsOf_24 hl (k0 := 3) rfl (nI_1 _) (by decide) rfl (fun ls hl => ?_)
          refine j_goto (tgt := 4) C dX2_ringsOf_27 (by decide) ?_
          exact ih_loop (i + 1) (b) (by omega) (by rw [cntI]; simp_all [nI_1]) (by omega) ls (lv_sub hl [1, 2, 3, 0] rfl)
        · skip
          refine j_iinc (v := b + 1) (lv2 := [(2, .int (b + 1)), (0, .ref (ad (k))), (1, .int (z)), (3, .int (nI i))]) C dX2_ringsOf_21 hl (k0 := 2) rfl rfl (by decide) rfl (fun ls hl => ?_)
          refine j_iinc (v := nI (i + 1)) (lv2 := [(3, .int (nI (i + 1))), (2, .int (b + 1)), (0, .ref (ad (k))), (1, .int (z))]) C dX2_ringsOf_24 hl (k0 := 3) rfl (nI_1 _) (by decide) rfl (fun ls hl => ?_)
          refine j_goto (tgt := 4) C dX2_ringsOf_27 (by decide) ?_
          exact ih_loop (i + 1) (b + 1) (by omega) (by rw [cntI]; simp_all [nI_1]) (by omega) ls (lv_sub hl [2, 3, 1, 0] rfl)
  exact loop (r + 1) 0 0 (by omega) rfl (by omega) ls (lv_sub hl [2, 3, 1, 0] rfl)
abbrev rm_X2_isHadBy : Room := { frames := 3, cells := 0, slots := 0, locals := 64 }
set_option maxHeartbeats 4000000 in
set_option maxRecDepth 100000 in
theorem k_X2_isHadBy (l : Launch) (ad tk : Nat → Nat) (nt : Nat) (V : Vt) (k : Nat) (hg : isG k) (r : Nat) (hr : V k 2 = nI r) (h_8_ : r ≤ 8) (z0 z1 : Int32) : Ct l yX2_isHadBy cX2_isHadBy 4 (some .boolean) rm_X2_isHadBy (xS ad tk nt) V [.ref (ad (k)), .int (z0), .int (z1)] (rI fun x V2 => (V2 = if r < 8 then up2 (up2 V (k + 1) r z0) (k + 2) r z1 else V) ∧ x = bI (r < 8 ∧ holI (upd (V (k + 1)) r z0) (upd (V (k + 2)) r z1) (r + 1) = z0)) := by
  refine Ct_of (by decide) (Nat.le_of_ble_eq_true rfl) ?_
  intro p e s m below meth c A D cy ls C hl
  have hl : lv_has ls 4 [(0, .ref (ad (k))), (1, .int (z0)), (2, .int (z1))] := hl
  refine j_aload_n C dX2_isHadBy_0 rfl (lv_at hl 0 rfl) ?_
  refine j_callV (k := k) C [] [] (k_X2_isFull l ad tk nt V k hg  ) v_RX2_50 (xl (xG (tk := tk) (nt := nt) hg).1.1) ((xG (tk := tk) (nt := nt) hg).2.1) rfl ⟨rfl, rfl, Nat.le_of_ble_eq_true rfl, Nat.le_of_ble_eq_true rfl⟩ rfl hl.1 rfl (Nat.le_of_ble_eq_true rfl) ⟨Nat.le_of_ble_eq_true rfl, Nat.le_of_ble_eq_true rfl⟩ dX2_isHadBy_1 (kI fun x_1_ U1 h_1_ => ?_)
  obtain ⟨eU1, h_1_⟩ := h_1_
  have eU1 := eU1.symm
  subst eU1
  refine j_if_eq (tgt := 9) C dX2_isHadBy_4 (by decide) (fun c_2_ => ?_) (fun c_2_ => ?_)
  · skip
    refine j_aload_n C dX2_isHadBy_9 rfl (lv_at hl 0 rfl) ?_
    refine j_iload_n C dX2_isHadBy_10 rfl (lv_at hl 1 rfl) ?_
    refine j_iload_n C dX2_isHadBy_11 rfl (lv_at hl 2 rfl) ?_
    refine j_callV (k := k) C [.int (z0), .int (z1)] [] (k_X2_lay l ad tk nt V k hg r hr (full_no hr h_8_ h_1_ c_2_) (z0) (z1)) v_RX2_39 (xl (xG (tk := tk) (nt := nt) hg).1.1) ((xG (tk := tk) (nt := nt) hg).2.1) rfl ⟨rfl, rfl, Nat.le_of_ble_eq_true rfl, Nat.le_of_ble_eq_true rfl⟩ rfl hl.1 rfl (Nat.le_of_ble_eq_true rfl) ⟨Nat.le_of_ble_eq_true rfl, Nat.le_of_ble_eq_true rfl⟩ dX2_isHadBy_12 (kU fun U3 h_3_ => ?_)
    refine j_aload_n C dX2_isHadBy_15 rfl (lv_at hl 0 rfl) ?_
    refine j_callV (k := k) C [] [] (k_X2_holder l ad tk nt U3 k hg (r + 1) (by rw [h_3_, up2_s]) (full_no hr h_8_ h_1_ c_2_) ) v_RX2_54 (xl (xG (tk := tk) (nt := nt) hg).1.1) ((xG (tk := tk) (nt := nt) hg).2.1) rfl ⟨rfl, rfl, Nat.le_of_ble_eq_true rfl, Nat.le_of_ble_eq_true rfl⟩ rfl hl.1 rfl (Nat.le_of_ble_eq_true rfl) ⟨Nat.le_of_ble_eq_true rfl, Nat.le_of_ble_eq_true rfl⟩ dX2_isHadBy_16 (kI fun x_4_ U4 h_4_ => ?_)
    obtain ⟨eU4, h_4_⟩ := h_4_
    have eU4 := eU4.symm
    subst eU4
    refine j_iload_n C dX2_isHadBy_19 rfl (lv_at hl 1 rfl) ?_
    refine j_icmp_ne (tgt := 27) C dX2_isHadBy_20 (by decide) (fun c_5_ => ?_) (fun c_5_ => ?_)
    · skip
      refine j_iconst (v := 0) C dX2_isHadBy_27 (by decide) ?_
      refine j_istore_n (lv2 := [(3, .int (0)), (0, .ref (ad (k))), (1, .int (z0)), (2, .int (z1))]) C dX2_isHadBy_28 rfl hl (by decide) rfl (fun ls hl => ?_)
      refine j_aload_n C dX2_isHadBy_29 rfl (lv_at hl 1 rfl) ?_
      refine j_callV (k := k) C [] [] (k_X2_takeLast l ad tk nt U3 k hg r (by rw [h_3_, up2_s]) (full_no hr h_8_ h_1_ c_2_) ) v_RX2_57 (xl (xG (tk := tk) (nt := nt) hg).1.1) ((xG (tk := tk) (nt := nt) hg).2.1) rfl ⟨rfl, rfl, Nat.le_of_ble_eq_true rfl, Nat.le_of_ble_eq_true rfl⟩ rfl hl.1 rfl (Nat.le_of_ble_eq_true rfl) ⟨Nat.le_of_ble_eq_true rfl, Nat.le_of_ble_eq_true rfl⟩ dX2_isHadBy_30 (kI fun x_6_ U6 h_6_ => ?_)
      obtain ⟨eU6, h_6_⟩ := h_6_
      refine j_pop C dX2_isHadBy_33 rfl ?_
      refine j_iload_n C dX2_isHadBy_34 rfl (lv_at hl 0 rfl) ?_
      refine j_zret C rfl ⟨rfl, _, rfl, ?_⟩ dX2_isHadBy_35
      have e8 := full_no hr h_8_ h_1_ c_2_
      have eb : up2 (up2 V (k + 1) r z0) (k + 2) r z1 k 2 = nI r := by rw [up2_k _ _ (by omega), up2_k _ _ (by omega), hr]
      rw [h_3_] at h_4_ eU6
      rw [up2_back _ eb] at eU6
      rw [up2_k _ _ (by omega), up2_k _ _ (by omega), up2_r, up2_k _ _ (by omega), up2_r, up2_k _ _ (by omega)] at h_4_
      rw [if_pos e8]
      refine ⟨eU6, ?_⟩
      simp [bI, e8, ← h_4_, c_5_]
    · skip
      refine j_iconst (v := 1) C dX2_isHadBy_23 (by decide) ?_
      refine j_goto (tgt := 28) C dX2_isHadBy_24 (by decide) ?_
      refine j_istore_n (lv2 := [(3, .int (1)), (0, .ref (ad (k))), (1, .int (z0)), (2, .int (z1))]) C dX2_isHadBy_28 rfl hl (by decide) rfl (fun ls hl => ?_)
      refine j_aload_n C dX2_isHadBy_29 rfl (lv_at hl 1 rfl) ?_
      refine j_callV (k := k) C [] [] (k_X2_takeLast l ad tk nt U3 k hg r (by rw [h_3_, up2_s]) (full_no hr h_8_ h_1_ c_2_) ) v_RX2_57 (xl (xG (tk := tk) (nt := nt) hg).1.1) ((xG (tk := tk) (nt := nt) hg).2.1) rfl ⟨rfl, rfl, Nat.le_of_ble_eq_true rfl, Nat.le_of_ble_eq_true rfl⟩ rfl hl.1 rfl (Nat.le_of_ble_eq_true rfl) ⟨Nat.le_of_ble_eq_true rfl, Nat.le_of_ble_eq_true rfl⟩ dX2_isHadBy_30 (kI fun x_7_ U7 h_7_ => ?_)
      obtain ⟨eU7, h_7_⟩ := h_7_
      refine j_pop C dX2_isHadBy_33 rfl ?_
      refine j_iload_n C dX2_isHadBy_34 rfl (lv_at hl 0 rfl) ?_
      refine j_zret C rfl ⟨rfl, _, rfl, ?_⟩ dX2_isHadBy_35
      have e8 := full_no hr h_8_ h_1_ c_2_
      have eb : up2 (up2 V (k + 1) r z0) (k + 2) r z1 k 2 = nI r := by rw [up2_k _ _ (by omega), up2_k _ _ (by omega), hr]
      rw [h_3_] at h_4_ eU7
      rw [up2_back _ eb] at eU7
      rw [up2_k _ _ (by omega), up2_k _ _ (by omega), up2_r, up2_k _ _ (by omega), up2_r, up2_k _ _ (by omega)] at h_4_
      rw [if_pos e8]
      refine ⟨eU7, ?_⟩
      simp [bI, e8, ← h_4_, c_5_]
  · skip
    refine j_iconst (v := 0) C dX2_isHadBy_7 (by decide) ?_
    refine j_zret C rfl ⟨rfl, _, rfl, ?_⟩ dX2_isHadBy_8
    have e8 := full_yes hr h_8_ h_1_ c_2_
    rw [if_neg (by omega), bI_f (by omega)]
    exact ⟨rfl, rfl⟩
/-- girl k made like girl k2, the first r rings -/
def beV (V : Vt) (k k2 r : Nat) : Vt := fun a j => if a = k then (if j = 0 then V k2 0 else if j = 1 then V k2 1 else if j = 2 then nI r else V k j) else if a = k + 1 ∧ j < r then V (k2 + 1) j else if a = k + 2 ∧ j < r then V (k2 + 2) j else V a j
theorem isG_ap {k k2 : Nat} (h : isG k) (h_2_ : isG k2) (n : k ≠ k2) : k + 1 ≠ k2 ∧ k + 2 ≠ k2 ∧ k ≠ k2 + 1 ∧ k ≠ k2 + 2 ∧ k + 1 ≠ k2 + 1 ∧ k + 1 ≠ k2 + 2 ∧ k + 2 ≠ k2 + 1 ∧ k + 2 ≠ k2 + 2 := by
  unfold isG at h h_2_
  simp only [List.mem_cons, List.not_mem_nil, or_false] at h h_2_
  omega
theorem beV_0 (V : Vt) (k k2 : Nat) : beV V k k2 0 = up2 (up2 (up2 V k 0 (V k2 0)) k 1 (V k2 1)) k 2 0 := by
  funext a j
  simp only [beV, up2, Nat.not_lt_zero, and_false, if_false]
  by_cases ha : a = k
  · subst ha
    by_cases h_2_ : j = 2
    · subst h_2_; simp [nI_0]
    · by_cases h_1_ : j = 1
      · subst h_1_; simp
      · by_cases h_0_ : j = 0
        · subst h_0_; simp
        · simp [h_0_, h_1_, h_2_]
  · simp [ha]
theorem beV_src {V : Vt} {k k2 r a : Nat} (h_0_ : a ≠ k) (h_1_ : a ≠ k + 1) (h_2_ : a ≠ k + 2) : beV V k k2 r a = V a := by
  funext j
  simp [beV, h_0_, h_1_, h_2_]
theorem beV_s (V : Vt) (k k2 r : Nat) : up2 (up2 (up2 (beV V k k2 r) (k + 1) r (V (k2 + 1) r)) (k + 2) r (V (k2 + 2) r)) k 2 (nI (r + 1)) = beV V k k2 (r + 1) := by
  funext a j
  by_cases ha : a = k
  · subst ha
    by_cases h_2_ : j = 2
    · subst h_2_; simp [up2, beV]
    · simp [up2, beV, h_2_]
  · by_cases h_1_ : a = k + 1
    · subst h_1_
      by_cases hj : j = r
      · subst hj; simp [up2, beV]
      · have e : j < r ↔ j < r + 1 := by omega
        simp [up2, beV, hj, e]
    · by_cases h_2_ : a = k + 2
      · subst h_2_
        by_cases hj : j = r
        · subst hj; simp [up2, beV]
        · have e : j < r ↔ j < r + 1 := by omega
          simp [up2, beV, hj, e]
      · simp [up2, beV, ha, h_1_, h_2_]
abbrev rm_X2_becomeLike : Room := { frames := 1, cells := 0, slots := 0, locals := 22 }
set_option maxHeartbeats 4000000 in
set_option maxRecDepth 100000 in
theorem k_X2_becomeLike (l : Launch) (ad tk : Nat → Nat) (nt : Nat) (V : Vt) (k : Nat) (hg : isG k) (k2 : Nat) (hg2 : isG k2) (hne : k ≠ k2) (r : Nat) (hr : V k2 2 = nI r) (h_8_ : r ≤ 8)  : Ct l yX2_becomeLike cX2_becomeLike 3 none rm_X2_becomeLike (xS ad tk nt) V [.ref (ad (k)), .ref (ad (k2))] (rU fun V2 => V2 = beV V k k2 r) := by
  refine Ct_of (by decide) (Nat.le_of_ble_eq_true rfl) ?_
  intro p e s m below meth c A D cy ls C hl
  have hl : lv_has ls 3 [(0, .ref (ad (k))), (1, .ref (ad (k2)))] := hl
  have hap : k2 ≠ k ∧ k2 ≠ k + 1 ∧ k2 ≠ k + 2 := by have q := isG_ap hg hg2 hne; omega
  refine j_aload_n C dX2_becomeLike_0 rfl (lv_at hl 0 rfl) ?_
  refine j_aload_n C dX2_becomeLike_1 rfl (lv_at hl 1 rfl) ?_
  refine j_getI (k := k2) C (f_RX2_18_2) (xl (xG (tk := tk) (nt := nt) hg2).1.1) ((xG (tk := tk) (nt := nt) hg2).2.1) dX2_becomeLike_2 ?_
  refine j_aload_n C dX2_becomeLike_5 rfl (lv_at hl 1 rfl) ?_
  refine j_getI (k := k2) C (f_RX2_22_2) (xl (xG (tk := tk) (nt := nt) hg2).1.1) ((xG (tk := tk) (nt := nt) hg2).2.1) dX2_becomeLike_6 ?_
  refine j_callV (k := k) C [.int (V k2 0), .int (V k2 1)] [] (k_X2_stand l ad tk nt V k hg (V k2 0) (V k2 1) ) v_RX2_28 (xl (xG (tk := tk) (nt := nt) hg).1.1) ((xG (tk := tk) (nt := nt) hg).2.1) rfl ⟨rfl, rfl, Nat.le_of_ble_eq_true rfl, Nat.le_of_ble_eq_true rfl⟩ rfl hl.1 rfl (Nat.le_of_ble_eq_true rfl) ⟨Nat.le_of_ble_eq_true rfl, Nat.le_of_ble_eq_true rfl⟩ dX2_becomeLike_9 (kU fun U1 h_1_ => ?_)
  refine j_iconst (v := 0) C dX2_becomeLike_12 (by decide) ?_
  refine j_istore_n (lv2 := [(2, .int (0)), (0, .ref (ad (k))), (1, .ref (ad (k2)))]) C dX2_becomeLike_13 rfl hl (by decide) rfl (fun ls hl => ?_)
  have loop : ∀ (n_9_ : Nat) (i : Nat) (Vi : Vt), i ≤ r → Vi = beV V k k2 i → r - i < n_9_ → ∀ (ls : Array Slot), lv_has ls 3 [(0, .ref (ad (k))), (1, .ref (ad (k2))), (2, .int (nI i))] → J p l e rm_X2_becomeLike s m [.ref (ad (k)), .ref (ad (k2))].toArray below meth c A D cy 0 0 (MQ below (gPost D cy A (fun o9 σ2 V2 => σ2 = xS ad tk nt ∧ (rU fun V2 => V2 = beV V k k2 r) o9 V2)) [.ref (ad (k)), .ref (ad (k2))].toArray s 0 0 A) (xS ad tk nt) Vi (F0 m 14 ls []) := by
    intro n_9_
    induction n_9_ with
    | zero =>
      intro i Vi hi hV hm
      exact absurd hm (by omega)
    | succ n_9_ ih_loop =>
      intro i Vi hi hV hm ls hl
      refine j_iload_n C dX2_becomeLike_14 rfl (lv_at hl 2 rfl) ?_
      refine j_aload_n C dX2_becomeLike_15 rfl (lv_at hl 1 rfl) ?_
      refine j_getI (k := k2) C (f_RX2_25_2) (xl (xG (tk := tk) (nt := nt) hg2).1.1) ((xG (tk := tk) (nt := nt) hg2).2.1) dX2_becomeLike_16 ?_
      refine j_icmp_ge (tgt := 42) C dX2_becomeLike_19 (by decide) (fun c_2_ => ?_) (fun c_2_ => ?_)
      · have n_2_ := Int32.not_lt.mpr c_2_
        refine j_vret C ⟨rfl, rfl, ?_⟩ dX2_becomeLike_42
        obtain rfl : i = r := by
          rcases Nat.lt_or_ge i r with q | q
          · exact absurd (by rw [hV, beV_src hap.1 hap.2.1 hap.2.2, hr] at c_2_; exact c_2_) (nI_ge q (by omega))
          · omega
        exact hV
      · have n_2_ := Int32.not_le.mp c_2_
        refine j_aload_n C dX2_becomeLike_22 rfl (lv_at hl 0 rfl) ?_
        refine j_aload_n C dX2_becomeLike_23 rfl (lv_at hl 1 rfl) ?_
        refine j_iload_n C dX2_becomeLike_24 rfl (lv_at hl 2 rfl) ?_
        refine j_callV (k := k2) C [.int (nI i)] [.ref (ad (k))] (k_X2_throwerAt l ad tk nt Vi k2 hg2 r (by rw [hV, beV_src hap.1 hap.2.1 hap.2.2, hr]) h_8_ (nI i)) v_RX2_32 (xl (xG (tk := tk) (nt := nt) hg2).1.1) ((xG (tk := tk) (nt := nt) hg2).2.1) rfl ⟨rfl, rfl, Nat.le_of_ble_eq_true rfl, Nat.le_of_ble_eq_true rfl⟩ rfl hl.1 rfl (Nat.le_of_ble_eq_true rfl) ⟨Nat.le_of_ble_eq_true rfl, Nat.le_of_ble_eq_true rfl⟩ dX2_becomeLike_25 (kI fun x_3_ U3 h_3_ => ?_)
        obtain ⟨eU3, h_3_⟩ := h_3_
        have eU3 := eU3.symm
        subst eU3
        have hlt : i < r := by
          rcases Nat.lt_or_ge i r with q | q
          · exact q
          · exact absurd (by rw [hV, beV_src hap.1 hap.2.1 hap.2.2, hr]; exact nI_le q (by omega)) c_2_
        rw [atR_in hlt (by omega)] at h_3_
        refine j_aload_n C dX2_becomeLike_28 rfl (lv_at hl 1 rfl) ?_
        refine j_iload_n C dX2_becomeLike_29 rfl (lv_at hl 2 rfl) ?_
        refine j_callV (k := k2) C [.int (nI i)] [.int (x_3_), .ref (ad (k))] (k_X2_nearAt l ad tk nt Vi k2 hg2 r (by rw [hV, beV_src hap.1 hap.2.1 hap.2.2, hr]) h_8_ (nI i)) v_RX2_36 (xl (xG (tk := tk) (nt := nt) hg2).1.1) ((xG (tk := tk) (nt := nt) hg2).2.1) rfl ⟨rfl, rfl, Nat.le_of_ble_eq_true rfl, Nat.le_of_ble_eq_true rfl⟩ rfl hl.1 rfl (Nat.le_of_ble_eq_true rfl) ⟨Nat.le_of_ble_eq_true rfl, Nat.le_of_ble_eq_true rfl⟩ dX2_becomeLike_30 (kI fun x_4_ U4 h_4_ => ?_)
        obtain ⟨eU4, h_4_⟩ := h_4_
        have eU4 := eU4.symm
        subst eU4
        rw [atR_in hlt (by omega)] at h_4_
        refine j_callV (k := k) C [.int (x_3_), .int (x_4_)] [] (k_X2_lay l ad tk nt Vi k hg i (by rw [hV]; simp [beV]) (by omega) (x_3_) (x_4_)) v_RX2_39 (xl (xG (tk := tk) (nt := nt) hg).1.1) ((xG (tk := tk) (nt := nt) hg).2.1) rfl ⟨rfl, rfl, Nat.le_of_ble_eq_true rfl, Nat.le_of_ble_eq_true rfl⟩ rfl hl.1 rfl (Nat.le_of_ble_eq_true rfl) ⟨Nat.le_of_ble_eq_true rfl, Nat.le_of_ble_eq_true rfl⟩ dX2_becomeLike_33 (kU fun U5 h_5_ => ?_)
        refine j_iinc (v := nI (i + 1)) (lv2 := [(2, .int (nI (i + 1))), (0, .ref (ad (k))), (1, .ref (ad (k2)))]) C dX2_becomeLike_36 hl (k0 := 2) rfl (nI_1 _) (by decide) rfl (fun ls hl => ?_)
        refine j_goto (tgt := 14) C dX2_becomeLike_39 (by decide) ?_
        exact ih_loop (i + 1) U5 (by omega) (by rw [h_5_, hV, h_3_, h_4_, hV, beV_src (by have q := isG_ap hg hg2 hne; omega) (by have q := isG_ap hg hg2 hne; omega) (by have q := isG_ap hg hg2 hne; omega), beV_src (by have q := isG_ap hg hg2 hne; omega) (by have q := isG_ap hg hg2 hne; omega) (by have q := isG_ap hg hg2 hne; omega), beV_s]) (by omega) ls (lv_sub hl [1, 2, 0] rfl)
  exact loop (r + 1) 0 U1 (by omega) (by rw [h_1_, beV_0]) (by omega) ls (lv_sub hl [1, 2, 0] rfl)
