def fe0 (V : Vt) (rr : Nat → Nat) : Fs := (V 0 0, rr, fun g => V (0 + 2 + 3 * g + 1), fun g => V (0 + 2 + 3 * g + 2), 0, 0)
def yS (V : Vt) (g : Nat) : Int32 := V (0 + 2 + 3 * g) 0
def lS (V : Vt) (g : Nat) : Int32 := V (0 + 2 + 3 * g) 1
def rcX (tk : Nat → Nat) (V : Vt) (t : Nat) : Int32 := rch (kdI (tk t)) (V (56 + t) 1)
def whP (V : Vt) (ng : Nat) (rr : Nat → Nat) : Prop := ∀ g, g < ng → ∀ j, j < rr g → ¬ V (0 + 2 + 3 * g + 1) j = -9
theorem isH_gt {k : Nat} (h : isH k) : 28 < k ∧ 28 < k + 1 ∧ k < 55 ∧ k + 1 < 55 := by
  unfold isH at h
  simp only [List.mem_cons, List.not_mem_nil, or_false] at h
  omega
theorem bcL_at {V : Vt} {rr : Nat → Nat} {g : Nat} : ∀ m, m ≤ 4 → g < m → bcL V 15 0 rr m (15 + 2 + 3 * g) 0 = V (0 + 2 + 3 * g) 0 ∧ bcL V 15 0 rr m (15 + 2 + 3 * g) 1 = V (0 + 2 + 3 * g) 1 ∧ bcL V 15 0 rr m (15 + 2 + 3 * g) 2 = nI (rr g) ∧ ∀ j, j < rr g → bcL V 15 0 rr m (15 + 2 + 3 * g + 1) j = V (0 + 2 + 3 * g + 1) j ∧ bcL V 15 0 rr m (15 + 2 + 3 * g + 2) j = V (0 + 2 + 3 * g + 2) j
  | m + 1, h_4_, hg => by
    rw [bcL]
    by_cases e : g = m
    · subst e
      have e0 : ∀ a, a < 15 → bcL V 15 0 rr g a = V a := fun a ha => bcL_o (Or.inl ha) g (by omega)
      refine ⟨?_, ?_, ?_, fun j hj => ⟨?_, ?_⟩⟩
      · unfold beV; rw [if_pos rfl, if_pos rfl, e0 _ (by omega)]
      · unfold beV; rw [if_pos rfl, if_neg (by decide), if_pos rfl, e0 _ (by omega)]
      · unfold beV; rw [if_pos rfl, if_neg (by decide), if_neg (by decide), if_pos rfl]
      · unfold beV; rw [if_neg (by omega), if_pos ⟨rfl, hj⟩, e0 _ (by omega)]
      · unfold beV; rw [if_neg (by omega), if_neg (by omega), if_pos ⟨rfl, hj⟩, e0 _ (by omega)]
    · rw [beV_src (by omega) (by omega) (by omega), beV_src (by omega) (by omega) (by omega), beV_src (by omega) (by omega) (by omega)]
      exact bcL_at m (by omega) (by omega)
theorem bcL_0 {V : Vt} {c c_2_ : Nat} {rr : Nat → Nat} : ∀ g, bcL V c c_2_ rr g c 0 = V c_2_ 0
  | 0 => by rw [bcL, up2_i _ _ (by decide), up2_s]
  | g + 1 => by rw [bcL, beV_src (by omega) (by omega) (by omega), bcL_0 g]
theorem feR_begin {V : Vt} {ng : Nat} {rr : Nat → Nat} (hI : ClI V 0 ng rr) (hw : whP V ng rr) : feR (up2 (up2 (up2 (bcL V 15 0 rr ng) 14 1 (-9)) 14 2 0) 14 3 0) ng (yS V) (lS V) (fe0 V rr) := by
  have f : ∀ a, a ≠ 14 → up2 (up2 (up2 (bcL V 15 0 rr ng) 14 1 (-9)) 14 2 0) 14 3 0 a = bcL V 15 0 rr ng a := fun a ha => by rw [up2_k _ _ ha, up2_k _ _ ha, up2_k _ _ ha]
  refine ⟨by rw [f 15 (by decide)]; exact bcL_0 ng, by rw [f 15 (by decide), bcL_c]; exact hI.1, hI.2.1, fun g hg => ?_, by rw [up2_i _ _ (by decide), up2_s]; rfl, by rw [up2_s]; rfl⟩
  rw [f _ (by omega), f _ (by omega), f _ (by omega)]
  have q := bcL_at (V := V) (rr := rr) ng hI.2.1 hg
  exact ⟨q.1, q.2.1, q.2.2.1, (hI.2.2 g hg).2, fun j hj => ⟨(q.2.2.2 j hj).1, (q.2.2.2 j hj).2, hw g hg j hj⟩⟩
theorem feR_w {V : Vt} {ng : Nat} {ys ls : Nat → Int32} {F : Fs} {x : Int32} (h : feR V ng ys ls F) : feR (up2 V 14 1 x) ng ys ls F := by
  obtain ⟨h_1_, h_2_, h_3_, h_4_, h_5_, h_6_⟩ := h
  refine ⟨by rw [up2_k _ _ (by decide)]; exact h_1_, by rw [up2_k _ _ (by decide)]; exact h_2_, h_3_, fun g hg => ?_, by rw [up2_i _ _ (by decide)]; exact h_5_, by rw [up2_i _ _ (by decide)]; exact h_6_⟩
  rw [up2_k _ _ (by omega), up2_k _ _ (by omega), up2_k _ _ (by omega)]
  exact h_4_ g hg
theorem bcL_fr {V : Vt} {rr : Nat → Nat} {ng : Nat} (h_4_ : ng ≤ 4) : frF V (up2 (up2 (up2 (bcL V 15 0 rr ng) 14 1 (-9)) 14 2 0) 14 3 0) := fun a ha => by
  rw [up2_k _ _ (by omega), up2_k _ _ (by omega), up2_k _ _ (by omega), bcL_o (by omega) ng h_4_]
theorem hol_ne {f g : Nat → Int32} {r : Nat} (hr : r < 2 ^ 31) (h : ∀ j, j < r → ¬ f j = -9) : ¬ holI f g r = -9 ↔ 0 < r := by
  unfold holI
  constructor
  · intro q
    rcases Nat.eq_zero_or_pos r with e | e
    · rw [e] at q; exact absurd rfl q
    · exact e
  · intro q
    have hn : ¬ hldI g r = -9 := by
      obtain ⟨r', rfl⟩ : ∃ r', r = r' + 1 := ⟨r - 1, by omega⟩
      rw [hldI]
      split
      · exact m9_nI (by omega)
      · rename_i z
        exact fun e => z (Or.inl e)
    rw [if_neg hn]
    rcases hldI_rng g r with e | ⟨i, hi, e⟩
    · exact absurd e hn
    · rw [e, nI_clamp (by omega)]
      exact h i hi
theorem fe_hoC {V : Vt} {ng : Nat} {ys ls : Nat → Int32} {G : Fs} (h : feR V ng ys ls G) {g : Nat} (hg : g < ng) : hoC V 15 G.2.1 g = holI (G.2.2.1 g) (G.2.2.2.1 g) (G.2.1 g) := by
  have q := h.2.2.2.1 g hg
  exact holI_cong (by omega) (fun j hj => (q.2.2.2.2 j hj).1) (fun j hj => (q.2.2.2.2 j hj).2.1)
theorem fe_ans {V : Vt} {ng : Nat} {ys ls : Nat → Int32} {G : Fs} (h : feR V ng ys ls G) (h_9_ : V 14 1 = -9) (z : Int32) : ansI V ng G.2.1 z = if z = 1 then -9 else feA G ng z := by
  unfold ansI feA
  by_cases z1 : z = 1
  · rw [if_pos z1, if_pos z1, h_9_]
  · rw [if_neg z1, if_neg z1, if_neg (fun q => q h_9_)]
    rw [cntI_cong (P := fun g => ¬ hoC V 15 G.2.1 g = -9) (Q := fun g => 0 < G.2.1 g) ng (fun g hg => by
      rw [fe_hoC h hg]
      have q := h.2.2.2.1 g hg
      exact hol_ne (by omega) (fun j hj => (q.2.2.2.2 j hj).2.2)), h.2.2.2.2.1, h.2.2.2.2.2, h.1]
    by_cases q : ¬ z - 10 < 0 ∧ z - 10 < nI ng
    · have hlt : (z - 10).toNatClampNeg < ng := by
        obtain ⟨j, hj, ej⟩ : ∃ j : Nat, j < ng ∧ z - 10 = nI j := by
          have h_4_ := h.2.2.1
          rcases pk_ix (z - 10) (n := ng) (by omega) with q1 | q1 | q1
          · exact absurd q1 q.1
          · exact absurd q.2 (Int32.not_lt.mpr q1)
          · exact q1
        have h_4_ := h.2.2.1
        rw [ej, nI_clamp (by omega)]; exact hj
      rw [if_pos q, if_pos q, fe_hoC h hlt]
    · rw [if_neg q, if_neg q]
theorem fe_answ {V : Vt} {ng q : Nat} {G : Fs} (hq : q < 2 ^ 31) (h_9_ : V 14 1 = nI q) (z : Int32) : ansI V ng G.2.1 z = if z = 1 then nI q else -100 - nI q := by
  unfold ansI
  by_cases z1 : z = 1
  · rw [if_pos z1, if_pos z1, h_9_]
  · rw [if_neg z1, if_neg z1, if_pos (by rw [h_9_]; exact m9_nI hq), h_9_]
/-- how far the feast came -/
def feQ (tk : Nat → Nat) (nt : Nat) (V : Vt) (ng : Nat) (rr : Nat → Nat) (c : Nat → Int32) (n : Nat) (V2 : Vt) : Prop :=
  frF V V2 ∧ ∃ q G, feN nt ng (rcX tk V) (yS V) (lS V) (fe0 V rr) c q = some G ∧ feR V2 ng (yS V) (lS V) G ∧ ((q = n ∧ V2 14 1 = -9) ∨ (q < n ∧ feS nt ng (rcX tk V) (yS V) (lS V) G (c (2 * q)) (c (2 * q + 1)) = none ∧ V2 14 1 = nI q))
abbrev rm_X11_tellFeast : Room := { frames := 5, cells := 0, slots := 0, locals := 114 }
set_option maxHeartbeats 4000000 in
set_option maxRecDepth 100000 in
theorem k_X11_tellFeast (l : Launch) (ad tk : Nat → Nat) (nt : Nat) (V : Vt) (ng : Nat) (rr : Nat → Nat) (c_0_ : Nat) (hX : XI tk nt V ng rr c_0_) (hw : whP V ng rr) (k : Nat) (hg : isH k) (m9 : Nat) (hn : V k 1 = nI m9) (h_60_ : m9 ≤ 60) (i n : Nat) (z1 z2 : Int32) (ez1 : z1 = nI i) (ez2 : z2 = nI n) (hin : i + 2 * n ≤ m9)  : Ct l yX11_tellFeast cX11_tellFeast 5 none rm_X11_tellFeast (xS ad tk nt) V [.ref (ad (55)), .ref (ad (k)), .int (z1), .int (z2)] (rU fun V2 => feQ tk nt V ng rr (fun j => V (k + 1) (i + j)) n V2) := by
  refine Ct_of (by decide) (Nat.le_of_ble_eq_true rfl) ?_
  intro p e s m below meth c A D cy ls C hl
  have hl : lv_has ls 5 [(0, .ref (ad (55))), (1, .ref (ad (k))), (2, .int (z1)), (3, .int (z2))] := hl
  have ng4 := hX.1.2.1
  have nt5 := hX.2.2.1
  refine j_aload_n C dX11_tellFeast_0 rfl (lv_at hl 0 rfl) ?_
  refine j_getR (k := 55) (k2 := 14) C (f_RX11_54_11) (xl (by decide)) (rfl) (rfl) dX11_tellFeast_1 ?_
  refine j_aload_n C dX11_tellFeast_4 rfl (lv_at hl 0 rfl) ?_
  refine j_getR (k := 55) (k2 := 0) C (f_RX11_12_11) (xl (by decide)) (rfl) (rfl) dX11_tellFeast_5 ?_
  refine j_callV (k := 14) C [.ref (ad (0))] [] (k_X1_begin l ad tk nt V ng rr hX.1) v_RX11_299 (xl (by decide)) (rfl) rfl ⟨rfl, rfl, Nat.le_of_ble_eq_true rfl, Nat.le_of_ble_eq_true rfl⟩ rfl hl.1 rfl (Nat.le_of_ble_eq_true rfl) ⟨Nat.le_of_ble_eq_true rfl, Nat.le_of_ble_eq_true rfl⟩ dX11_tellFeast_8 (kU fun U1 h_1_ => ?_)
  refine j_iconst (v := 0) C dX11_tellFeast_11 (by decide) ?_
  refine j_istore (lv2 := [(4, .int (0)), (0, .ref (ad (55))), (1, .ref (ad (k))), (2, .int (z1)), (3, .int (z2))]) C dX11_tellFeast_12 hl (by decide) rfl (fun ls hl => ?_)
  have loop : ∀ (n_9_ : Nat) (p9 : Nat) (Vi : Vt), p9 ≤ n → feQ tk nt V ng rr (fun j => V (k + 1) (i + j)) p9 Vi → n - p9 < n_9_ → ∀ (ls : Array Slot), lv_has ls 5 [(0, .ref (ad (55))), (1, .ref (ad (k))), (2, .int (z1)), (3, .int (z2)), (4, .int (nI p9))] → J p l e rm_X11_tellFeast s m [.ref (ad (55)), .ref (ad (k)), .int (z1), .int (z2)].toArray below meth c A D cy 0 0 (MQ below (gPost D cy A (fun o9 σ2 V2 => σ2 = xS ad tk nt ∧ (rU fun V2 => feQ tk nt V ng rr (fun j => V (k + 1) (i + j)) n V2) o9 V2)) [.ref (ad (55)), .ref (ad (k)), .int (z1), .int (z2)].toArray s 0 0 A) (xS ad tk nt) Vi (F0 m 14 ls []) := by
    intro n_9_
    induction n_9_ with
    | zero =>
      intro p9 Vi hi hQ hm
      exact absurd hm (by omega)
    | succ n_9_ ih_loop =>
      intro p9 Vi hi hQ hm ls hl
      refine j_iload C dX11_tellFeast_14 (lv_at hl 4 rfl) ?_
      refine j_iload_n C dX11_tellFeast_16 rfl (lv_at hl 3 rfl) ?_
      refine j_icmp_ge (tgt := 76) C dX11_tellFeast_17 (by decide) (fun c_2_ => ?_) (fun c_2_ => ?_)
      · have n_2_ := Int32.not_lt.mpr c_2_
        obtain rfl : p9 = n := by rw [ez2] at c_2_; have q := leN (by omega) (by omega) c_2_; omega
        obtain ⟨hFr, q9, G, hN, hR, hS⟩ := hQ
        refine j_vret C ⟨rfl, rfl, ?_⟩ dX11_tellFeast_76
        refine ⟨hFr, q9, G, hN, hR, ?_⟩
        rcases hS with h | h
        · exact Or.inl ⟨by omega, h.2⟩
        · exact Or.inr ⟨by omega, h.2⟩
      · have n_2_ := Int32.not_le.mp c_2_
        have hlt : p9 < n := by rw [ez2] at c_2_; exact ltN (by omega) c_2_
        obtain ⟨hFr, q9, G, hN, hR, hS⟩ := hQ
        refine j_aload_n C dX11_tellFeast_20 rfl (lv_at hl 0 rfl) ?_
        refine j_getR (k := 55) (k2 := 14) C (f_RX11_54_11) (xl (by decide)) (rfl) (rfl) dX11_tellFeast_21 ?_
        refine j_getI (k := 14) C (f_RX11_303_1) (xl (by decide)) (rfl) dX11_tellFeast_24 ?_
        refine j_bipush (v := (-9)) C dX11_tellFeast_27 (by decide) ?_
        refine j_icmp_ne (tgt := 76) C dX11_tellFeast_29 (by decide) (fun c_3_ => ?_) (fun c_3_ => ?_)
        · skip
          have hs99 := hS.resolve_left (fun q => c_3_ q.2)
          refine j_vret C ⟨rfl, rfl, ?_⟩ dX11_tellFeast_76
          refine ⟨hFr, q9, G, hN, hR, ?_⟩
          exact Or.inr ⟨by omega, hs99.2⟩
        · skip
          have h_99_ := c_3_
          have hN9 : feN nt ng (rcX tk V) (yS V) (lS V) (fe0 V rr) (fun j => V (k + 1) (i + j)) p9 = some G := by
            rcases hS with h | h
            · rw [← h.1]; exact hN
            · exact absurd (h.2.2.symm.trans c_3_) (m9_nI (by omega))
          refine j_aload_n C dX11_tellFeast_32 rfl (lv_at hl 0 rfl) ?_
          refine j_aload_n C dX11_tellFeast_33 rfl (lv_at hl 1 rfl) ?_
          refine j_iload_n C dX11_tellFeast_34 rfl (lv_at hl 2 rfl) ?_
          refine j_iconst (v := 2) C dX11_tellFeast_35 (by decide) ?_
          refine j_iload C dX11_tellFeast_36 (lv_at hl 4 rfl) ?_
          refine j_imul C dX11_tellFeast_38 ?_
          refine j_iadd C dX11_tellFeast_39 ?_
          refine j_callV (k := k) C [.int (z1 + (2 * (nI p9)))] [.ref (ad (55))] (k_X7_at l ad tk nt Vi k hg m9 (by rw [hFr k (Or.inr (isH_gt hg).1)]; exact hn) h_60_ (z1 + (2 * (nI p9)))) v_RX11_242 (xl (xH (tk := tk) (nt := nt) hg).1.1) ((xH (tk := tk) (nt := nt) hg).2.1) rfl ⟨rfl, rfl, Nat.le_of_ble_eq_true rfl, Nat.le_of_ble_eq_true rfl⟩ rfl hl.1 rfl (Nat.le_of_ble_eq_true rfl) ⟨Nat.le_of_ble_eq_true rfl, Nat.le_of_ble_eq_true rfl⟩ dX11_tellFeast_40 (kI fun x_4_ U4 h_4_ => ?_)
          obtain ⟨eU4, h_4_⟩ := h_4_
          have eU4 := eU4.symm
          subst eU4
          rw [hFr (k + 1) (Or.inr (isH_gt hg).2.1), hFr k (Or.inr (isH_gt hg).1), hn, ez1, iI2, atS_in (by omega) (by omega)] at h_4_
          refine j_aload_n C dX11_tellFeast_43 rfl (lv_at hl 1 rfl) ?_
          refine j_iload_n C dX11_tellFeast_44 rfl (lv_at hl 2 rfl) ?_
          refine j_iconst (v := 2) C dX11_tellFeast_45 (by decide) ?_
          refine j_iload C dX11_tellFeast_46 (lv_at hl 4 rfl) ?_
          refine j_imul C dX11_tellFeast_48 ?_
          refine j_iadd C dX11_tellFeast_49 ?_
          refine j_iconst (v := 1) C dX11_tellFeast_50 (by decide) ?_
          refine j_iadd C dX11_tellFeast_51 ?_
          refine j_callV (k := k) C [.int ((z1 + (2 * (nI p9))) + 1)] [.int (x_4_), .ref (ad (55))] (k_X7_at l ad tk nt Vi k hg m9 (by rw [hFr k (Or.inr (isH_gt hg).1)]; exact hn) h_60_ ((z1 + (2 * (nI p9))) + 1)) v_RX11_242 (xl (xH (tk := tk) (nt := nt) hg).1.1) ((xH (tk := tk) (nt := nt) hg).2.1) rfl ⟨rfl, rfl, Nat.le_of_ble_eq_true rfl, Nat.le_of_ble_eq_true rfl⟩ rfl hl.1 rfl (Nat.le_of_ble_eq_true rfl) ⟨Nat.le_of_ble_eq_true rfl, Nat.le_of_ble_eq_true rfl⟩ dX11_tellFeast_52 (kI fun x_5_ U5 h_5_ => ?_)
          obtain ⟨eU5, h_5_⟩ := h_5_
          have eU5 := eU5.symm
          subst eU5
          rw [hFr (k + 1) (Or.inr (isH_gt hg).2.1), hFr k (Or.inr (isH_gt hg).1), hn, ez1, iI3, atS_in (by omega) (by omega)] at h_5_
          refine j_callV (k := 55) C [.int (x_4_), .int (x_5_)] [] (k_X11_canAct l ad tk nt Vi ng rr c_0_ (XI_fr hFr hX) (rcX tk V) (yS V) (lS V) G (fun t _ => by rw [hFr (56 + t) (by omega)]; rfl) hR (x_4_) (x_5_)) v_RX11_306 (xl (by decide)) (rfl) rfl ⟨rfl, rfl, Nat.le_of_ble_eq_true rfl, Nat.le_of_ble_eq_true rfl⟩ rfl hl.1 rfl (Nat.le_of_ble_eq_true rfl) ⟨Nat.le_of_ble_eq_true rfl, Nat.le_of_ble_eq_true rfl⟩ dX11_tellFeast_55 (kI fun x_6_ U6 h_6_ => ?_)
          obtain ⟨hfr6, hw6, h_6_⟩ := h_6_
          rw [h_4_, h_5_] at h_6_
          refine j_if_ne (tgt := 70) C dX11_tellFeast_58 (by decide) (fun c_7_ => ?_) (fun c_7_ => ?_)
          · skip
            obtain ⟨G9, hs9, -, hR9⟩ := h_6_.resolve_right (fun q => c_7_ q.2.1)
            refine j_iinc (v := nI (p9 + 1)) (lv2 := [(4, .int (nI (p9 + 1))), (0, .ref (ad (55))), (1, .ref (ad (k))), (2, .int (z1)), (3, .int (z2))]) C dX11_tellFeast_70 hl (k0 := 4) rfl (nI_1 _) (by decide) rfl (fun ls hl => ?_)
            refine j_goto (tgt := 14) C dX11_tellFeast_73 (by decide) ?_
            exact ih_loop (p9 + 1) U6 (by omega) ⟨hFr.tr hfr6, p9 + 1, G9, (feN_s hN9).trans hs9, hR9, Or.inl ⟨rfl, hw6.trans h_99_⟩⟩ (by omega) ls (lv_sub hl [1, 2, 3, 4, 0] rfl)
          · skip
            have hv9 := (h_6_.resolve_left (fun ⟨_, _, q, _⟩ => absurd (q.symm.trans c_7_) (by decide))).2.2
            have hs9 := (h_6_.resolve_left (fun ⟨_, _, q, _⟩ => absurd (q.symm.trans c_7_) (by decide))).1
            refine j_aload_n C dX11_tellFeast_61 rfl (lv_at hl 0 rfl) ?_
            refine j_getR (k := 55) (k2 := 14) C (f_RX11_54_11) (xl (by decide)) (rfl) (rfl) dX11_tellFeast_62 ?_
            refine j_iload C dX11_tellFeast_65 (lv_at hl 4 rfl) ?_
            refine j_putI (k := 14) C (f_RX11_303_1) p_1_1 (xl (by decide)) (rfl) dX11_tellFeast_67 (fun V1 eV1 => ?_)
            refine j_iinc (v := nI (p9 + 1)) (lv2 := [(4, .int (nI (p9 + 1))), (0, .ref (ad (55))), (1, .ref (ad (k))), (2, .int (z1)), (3, .int (z2))]) C dX11_tellFeast_70 hl (k0 := 4) rfl (nI_1 _) (by decide) rfl (fun ls hl => ?_)
            refine j_goto (tgt := 14) C dX11_tellFeast_73 (by decide) ?_
            exact ih_loop (p9 + 1) V1 (by omega) ⟨by rw [eV1]; exact (hFr.tr hfr6).tr (frF.up (by decide)), p9, G, hN9, by rw [eV1, hv9]; exact feR_w hR, Or.inr ⟨by omega, hs9, by rw [eV1, up2_s]⟩⟩ (by omega) ls (lv_sub hl [1, 2, 3, 4, 0] rfl)
  exact loop (n + 1) 0 U1 (by omega) ⟨by rw [h_1_]; exact bcL_fr ng4, 0, _, rfl, by rw [h_1_]; exact feR_begin hX.1 hw, Or.inl ⟨rfl, by rw [h_1_, up2_i _ _ (by decide), up2_i _ _ (by decide), up2_s]⟩⟩ (by omega) ls (lv_sub hl [1, 2, 3, 4, 0] rfl)
