def kdm (tk tk' : Nat → Nat) (nt k : Nat) : Nat := if k < 56 + nt then xk tk k else tk' (k - 56 - nt)
def maR (nt tt t k i : Nat) : Option Nat := if k = 54 then (if i < t then (if i < tt then some (56 + nt + i) else none) else xg nt 54 i) else xg nt k i
def nwR (ar : Nat → Int32) (t : Nat) : Nat → Int32 := fun i => if i = 0 then nI t else if i = 1 then ar t else 0
def maW (W : Vt) (ar : Nat → Int32) (nt m : Nat) : Vt := fun k => if k < 56 + nt then W k else if k < 56 + nt + m then nwR ar (k - 56 - nt) else fun _ => 0
def mkV (W : Vt) (ar : Nat → Int32) (tt : Nat) : Vt := fun k => if k < 56 then up2 (up2 W 55 8 (nI tt)) 29 0 0 k else if k < 56 + tt then nwR ar (k - 56) else fun _ => 0
theorem kdm_lt {tk tk' : Nat → Nat} {nt k : Nat} (h : k < 56) : kdm tk tk' nt k = xkl.getD k 0 := by unfold kdm xk; rw [if_pos (by omega), if_pos h]
theorem kdm_n {tk tk' : Nat → Nat} {nt t : Nat} : kdm tk tk' nt (56 + nt + t) = tk' t := by unfold kdm; rw [if_neg (by omega)]; congr 1; omega
theorem maW_lt {W : Vt} {ar : Nat → Int32} {nt m k : Nat} (h : k < 56) : maW W ar nt m k = W k := if_pos (by omega)
theorem xgl_len : xgl.length = 56 := by decide +kernel
theorem xll_len : xll.length = 56 := by decide +kernel
theorem xg_hi {nt k : Nat} (h : 56 ≤ k) : xg nt k = fun _ => none := by
  funext i
  unfold xg
  rw [if_neg (by omega)]
  have : xgl.getD k [] = [] := by
    rw [List.getD_eq_getElem?_getD, List.getElem?_eq_none_iff.mpr (Nat.le_trans (Nat.le_of_eq xgl_len) h)]
    rfl
  rw [this]
  rfl
theorem xlen_hi {k : Nat} (h : 56 ≤ k) : xlen k = 0 := by
  unfold xlen
  rw [List.getD_eq_getElem?_getD, List.getElem?_eq_none_iff.mpr (Nat.le_trans (Nat.le_of_eq xll_len) h)]
  rfl
theorem xg_lo {nt k i k2 : Nat} (hk : k < 56) (h_4_ : k ≠ 54) (e : xg nt k i = some k2) : k2 < 56 := by
  unfold xg at e
  rw [if_neg h_4_] at e
  have hall : ∀ k, k < 56 → ∀ q, q ∈ xgl.getD k [] → ∀ k2, q = some k2 → k2 < 56 := by
    have h_0_ : ∀ k, k < 56 → (xgl.getD k []).all (fun q => match q with | none => true | some k2 => decide (k2 < 56)) = true := by decide +kernel
    intro k hk q hq k2 e
    have h_1_ := List.all_eq_true.mp (h_0_ k hk) q hq
    rw [e] at h_1_
    simpa using h_1_
  rw [List.getD_eq_getElem?_getD] at e
  cases h : (xgl.getD k [])[i]? with
  | none => rw [h] at e; cases e
  | some q =>
    rw [h] at e
    exact hall k hk q (List.mem_of_getElem? h) k2 e
theorem xlen_40 {k : Nat} (hk : k < 56) : xkl.getD k 0 = 13 ∨ xlen k ≤ 40 := by
  have : ∀ k, k < 56 → (xkl.getD k 0 = 13 ∨ xlen k ≤ 40) := by decide +kernel
  exact this k hk
theorem ma_fre {nt tt t m : Nat} {W : Vt} {ar : Nat → Int32} (hm : ∀ i, i < t → i < tt → i < m) (h_5_ : nt ≤ 5) : Fre (56 + nt + m) (maR nt tt t) (maW W ar nt m) := by
  refine ⟨fun k hk i k2 e => ?_, fun k hk => ⟨?_, ?_⟩⟩
  · unfold maR at e
    split at e
    · split at e
      · split at e
        · cases e
          have := hm i (by assumption) (by assumption)
          omega
        · cases e
      · unfold xg at e
        rw [if_pos rfl] at e
        split at e
        · cases e; omega
        · cases e
    · rename_i h_4_
      by_cases q : k < 56
      · have := xg_lo q h_4_ e; omega
      · rw [xg_hi (by omega)] at e; cases e
  · funext i
    unfold maR
    rw [if_neg (by omega), xg_hi (by omega)]
  · unfold maW
    rw [if_neg (by omega), if_neg (by omega)]
theorem maR_y {nt tt t : Nat} (h : t < tt) : uR (maR nt tt t) 54 t (56 + nt + t) = maR nt tt (t + 1) := by
  funext k i
  unfold uR maR
  by_cases e : k = 54
  · subst e
    by_cases q : i = t
    · subst q
      simp [h]
    · have : i < t ↔ i < t + 1 := by omega
      simp [q, this]
  · simp [e]
theorem maR_n {nt tt t : Nat} (h : ¬ t < tt) : uR0 (maR nt tt t) 54 t = maR nt tt (t + 1) := by
  funext k i
  unfold uR0 maR
  by_cases e : k = 54
  · subst e
    by_cases q : i = t
    · subst q
      simp [h]
    · have : i < t ↔ i < t + 1 := by omega
      simp [q, this]
  · simp [e]
theorem maW_y {W : Vt} {ar : Nat → Int32} {nt t : Nat} {x : Int32} (hx : x = ar t) : up2 (up2 (maW W ar nt t) (56 + nt + t) 0 (nI t)) (56 + nt + t) 1 x = maW W ar nt (t + 1) := by
  funext k i
  by_cases e : k = 56 + nt + t
  · subst e
    have h_1_ : maW W ar nt t (56 + nt + t) = fun _ => 0 := by unfold maW; rw [if_neg (by omega), if_neg (by omega)]
    have h_2_ : maW W ar nt (t + 1) (56 + nt + t) = nwR ar t := by unfold maW; rw [if_neg (by omega), if_pos (by omega)]; congr 1; omega
    rw [h_2_]
    unfold nwR
    by_cases q1 : i = 1
    · subst q1; rw [up2_s, hx]; rfl
    · rw [up2_i _ _ q1]
      by_cases q0 : i = 0
      · subst q0; rw [up2_s]; rfl
      · rw [up2_i _ _ q0, h_1_, if_neg q0, if_neg q1]
  · rw [up2_k _ _ e, up2_k _ _ e]
    unfold maW
    by_cases q : k < 56 + nt
    · rw [if_pos q, if_pos q]
    · rw [if_neg q, if_neg q]
      by_cases q2 : k < 56 + nt + t
      · rw [if_pos q2, if_pos (by omega)]
      · rw [if_neg q2, if_neg (by omega)]
theorem maSw0 {cy : Nat → ClassId} {ad tk tk' : Nat → Nat} {nt tt : Nat} {W : Vt} {ar : Nat → Int32} (hT : ∀ t, t < nt → isT (tk t)) : Swp cy (xS ad tk nt) W (56 + nt + 0, kdm tk tk' nt, maR nt tt 0, xlen, ad) (maW W ar nt 0) := by
  refine Swp.of (fun k => k) (fun k hk => ?_) (fun j k _ _ h => h)
  have hk : k < 56 + nt := hk
  have eW : maW W ar nt 0 k = W k := if_pos hk
  have eK : kdm tk tk' nt k = xk tk k := if_pos hk
  have eR : ∀ i, maR nt tt 0 k i = xg nt k i := fun i => by
    unfold maR
    by_cases q : k = 54
    · rw [if_pos q, if_neg (by omega), q]
    · rw [if_neg q]
  have left : xlen k ≤ 40 → (k < 56 + nt ∧ ad k = ad k ∧ xk tk k = kdm tk tk' nt k ∧ xlen k = xlen k ∧ W k = maW W ar nt 0 k ∧ (kdm tk tk' nt k ≠ 13 → ∀ i, i < 40 → (xg nt k i).map ad = (maR nt tt 0 k i).map ad) ∧ xlen k ≤ 40) := fun h => ⟨hk, rfl, eK.symm, rfl, eW.symm, fun _ i _ => by rw [eR i], h⟩
  by_cases q : k < 56
  · rcases xlen_40 q with h | h
    · have ek : xk tk k = 13 := by unfold xk; rw [if_pos q]; exact h
      exact Or.inr ⟨hk, rfl, ek, eK.trans ek, rfl, eW.symm⟩
    · exact Or.inl (left h)
  · exact Or.inl (left (by rw [xlen_hi (by omega)]; omega))
theorem maSw1 {cy : Nat → ClassId} {ad tk tk' : Nat → Nat} {nt tt : Nat} {W : Vt} {ar : Nat → Int32} (h_5_ : nt ≤ 5) (ht5 : tt ≤ 5) : Swp cy (56 + nt + tt, kdm tk tk' nt, maR nt tt 5, xlen, ad) (up2 (up2 (maW W ar nt tt) 55 8 (nI tt)) 29 0 0) (xS (fun k => if k < 56 then ad k else ad (k + nt)) tk' tt) (mkV W ar tt) := by
  refine Swp.of (fun k => if k < 56 then k else k + nt) (fun k hk => ?_) (fun j k _ _ h => ?_)
  · have hk : k < 56 + tt := hk
    by_cases q : k < 56
    · have eV : up2 (up2 (maW W ar nt tt) 55 8 (nI tt)) 29 0 0 k = mkV W ar tt k := by
        unfold mkV
        rw [if_pos q]
        unfold up2
        funext i
        rw [maW_lt q]
      have eK : kdm tk tk' nt k = xk tk' k := by rw [kdm_lt q]; unfold xk; rw [if_pos q]
      have eR : ∀ i, i < 40 → (maR nt tt 5 k i).map ad = (xg tt k i).map (fun k => if k < 56 then ad k else ad (k + nt)) := fun i hi => by
        unfold maR
        by_cases q4 : k = 54
        · rw [if_pos q4, q4]
          unfold xg
          rw [if_pos rfl, if_pos rfl]
          by_cases qi : i < tt
          · rw [if_pos (by omega), if_pos qi, if_pos qi]
            show some (ad (56 + nt + i)) = some (if 56 + i < 56 then ad (56 + i) else ad (56 + i + nt))
            rw [if_neg (by omega), show 56 + nt + i = 56 + i + nt by omega]
          · by_cases q5 : i < 5
            · rw [if_pos q5, if_neg qi, if_neg qi]; rfl
            · rw [if_neg q5, if_neg (show ¬ i < nt by omega), if_neg qi]; rfl
        · rw [if_neg q4]
          have e : xg nt k i = xg tt k i := by unfold xg; rw [if_neg q4, if_neg q4]
          rw [e]
          cases h : xg tt k i with
          | none => rfl
          | some k2 =>
            have := xg_lo q q4 h
            show some (ad k2) = some (if k2 < 56 then ad k2 else ad (k2 + nt))
            rw [if_pos this]
      rw [if_pos q]
      have ea : ad k = (fun k => if k < 56 then ad k else ad (k + nt)) k := (if_pos q).symm
      rcases xlen_40 q with h | h
      · exact Or.inr ⟨by show k < 56 + nt + tt; omega, ea, (kdm_lt q).trans h, eK.symm.trans ((kdm_lt q).trans h), rfl, eV⟩
      · exact Or.inl ⟨by show k < 56 + nt + tt; omega, ea, eK, rfl, eV, fun _ i hi => eR i hi, h⟩
    · rw [if_neg q]
      obtain ⟨t, rfl⟩ : ∃ t, k = 56 + t := ⟨k - 56, by omega⟩
      have e1 : 56 + t + nt = 56 + nt + t := by omega
      have eV : up2 (up2 (maW W ar nt tt) 55 8 (nI tt)) 29 0 0 (56 + t + nt) = mkV W ar tt (56 + t) := by
        unfold mkV
        rw [up2_k _ _ (by omega), up2_k _ _ (by omega), if_neg q, if_pos hk]
        unfold maW
        rw [if_neg (by omega), if_pos (by omega)]
        congr 1; omega
      refine Or.inl ⟨by show 56 + t + nt < 56 + nt + tt; omega, by show ad (56 + t + nt) = (if 56 + t < 56 then ad (56 + t) else ad (56 + t + nt)); rw [if_neg q], ?_, ?_, eV, fun _ i hi => ?_, ?_⟩
      · show kdm tk tk' nt (56 + t + nt) = xk tk' (56 + t)
        rw [e1, kdm_n, xk_t]
      · show xlen (56 + t + nt) = xlen (56 + t)
        rw [xlen_hi (by omega), xlen_hi (by omega)]
      · show (maR nt tt 5 (56 + t + nt) i).map ad = (xg tt (56 + t) i).map _
        unfold maR
        rw [if_neg (by omega), xg_hi (by omega), xg_hi (by omega)]
        rfl
      · show xlen (56 + t) ≤ 40
        rw [xlen_hi (by omega)]; omega
  · have h : (if j < 56 then j else j + nt) = (if k < 56 then k else k + nt) := h
    split at h <;> split at h <;> omega
abbrev rm_X11_makeAnew : Room := { frames := 5, cells := 5, slots := 10, locals := 108 }
def mkP (ad tk : Nat → Nat) (nt : Nat) (V : Vt) (tg tt : Nat) : Option Value → Sh → Vt → Prop := fun r σ2 V2 => r = none ∧ ∃ ad' : Nat → Nat, (∀ j, j < 56 → ad' j = ad j) ∧ σ2 = xS ad' (fun t => knd (V 46 t)) tt ∧ V2 = mkV (stL V 0 tg tg) (V 47) tt
set_option maxHeartbeats 4000000 in
set_option maxRecDepth 100000 in
theorem k_X11_makeAnew (l : Launch) (ad tk : Nat → Nat) (nt : Nat) (V : Vt) (nt5 : nt ≤ 5) (hT : ∀ t, t < nt → isT (tk t)) (tg tt : Nat) (htg : V 43 2 = nI tg) (tg4 : tg ≤ 4) (htt : V 43 3 = nI tt) (tt5 : tt ≤ 5) : CtG l yX11_makeAnew cX11_makeAnew 2 none rm_X11_makeAnew 5 10 (xS ad tk nt) V [.ref (ad 55)] (mkP ad tk nt V tg tt) := by
  refine CtG_of (by decide) (Nat.le_of_ble_eq_true rfl) ?_
  intro p e s m below meth c A D cy ls C hl
  have hl : lv_has ls 2 [(0, .ref (ad 55))] := hl
  skip
  refine j_aload_n C dX11_makeAnew_0 rfl (lv_at hl 0 rfl) ?_
  refine j_getR (k := 55) (k2 := 0) C (f_RX11_12_11) (xl (by decide)) (rfl) (rfl) dX11_makeAnew_1 ?_
  refine j_aload_n C dX11_makeAnew_4 rfl (lv_at hl 0 rfl) ?_
  refine j_getR (k := 55) (k2 := 43) C (f_RX11_47_11) (xl (by decide)) (rfl) (rfl) dX11_makeAnew_5 ?_
  refine j_callV (k := 0) C [.ref (ad (43))] [] (k_X0_standAs l ad tk nt V 0 (Or.inl rfl) tg htg tg4) v_RX11_272 (xl (xC (tk := tk) (nt := nt) (k := 0) (Or.inl rfl)).1.1) ((xC (tk := tk) (nt := nt) (k := 0) (Or.inl rfl)).2.1) rfl ⟨rfl, rfl, Nat.le_of_ble_eq_true rfl, Nat.le_of_ble_eq_true rfl⟩ rfl hl.1 rfl (Nat.le_of_ble_eq_true rfl) ⟨Nat.le_of_ble_eq_true rfl, Nat.le_of_ble_eq_true rfl⟩ dX11_makeAnew_8 (kU fun U1 h_1_ => ?_)
  refine j_iconst (v := 0) C dX11_makeAnew_11 (by decide) ?_
  refine j_istore_n (lv2 := [(1, .int (0)), (0, .ref (ad (55)))]) C dX11_makeAnew_12 rfl hl (by decide) rfl (fun ls hl => ?_)
  obtain ⟨W, eWW⟩ : ∃ W, W = U1 := ⟨_, rfl⟩
  rw [← eWW] at h_1_ ⊢
  have eW : ∀ k, 14 ≤ k → W k = V k := fun k hk => by rw [h_1_]; exact stL_o (Or.inl rfl) (Or.inr (by omega)) tg tg4
  refine j_swap (σ2 := (56 + nt + 0, kdm tk (fun t => knd (V 46 t)) nt, maR nt tt 0, xlen, ad)) (V2 := maW W (V 47) nt 0) (maSw0 hT) ?_
  have loopB : ∀ (n_9_ t : Nat) (adt : Nat → Nat), tt ≤ t → t ≤ 5 → (∀ j, j < 56 → adt j = ad j) → 5 - t < n_9_ → ∀ (ls : Array Slot), lv_has ls 2 [(0, .ref (ad 55)), (1, .int (nI t))] → J p l e rm_X11_makeAnew s m [.ref (ad 55)].toArray below meth c A D cy tt (2 * tt) (MQ below (gPost D cy A (mkP ad tk nt V tg tt)) [.ref (ad 55)].toArray s 5 10 A) (56 + nt + tt, kdm tk (fun t => knd (V 46 t)) nt, maR nt tt t, xlen, adt) (maW W (V 47) nt tt) (F0 m 13 ls []) := by
    intro n_9_
    induction n_9_ with
    | zero => intro t adt h_1_ h_2_ h_3_ h_4_; exact absurd h_4_ (by omega)
    | succ n_9_ ih =>
      intro t adt htt2 ht5 hA hm ls hl
      refine j_iload_n C dX11_makeAnew_13 rfl (lv_at hl 1 rfl) ?_
      refine j_aload_n C dX11_makeAnew_14 rfl (lv_at hl 0 rfl) ?_
      refine j_getRa (k := 55) (k2 := 54) C f_RX11_20_11 (by omega) (kdm_lt (by decide)) rfl (hA 55 (by omega)) dX11_makeAnew_15 ?_
      refine j_alena (k := 54) (n := 5) C (by omega) (Or.inr (Or.inr (Or.inl (kdm_lt (by decide))))) rfl rfl dX11_makeAnew_18 ?_
      refine j_icmp_ge (tgt := 69) C dX11_makeAnew_19 (by decide) (fun c_1_ => ?_) (fun c_1_ => ?_)
      · obtain rfl : t = 5 := by have q := leN (b := 5) (by omega) (by decide) c_1_; omega
        refine j_aload_n C dX11_makeAnew_69 rfl (lv_at hl 0 rfl) ?_
        refine j_aload_n C dX11_makeAnew_70 rfl (lv_at hl 0 rfl) ?_
        refine j_getRa (k := 55) (k2 := 43) C f_RX11_47_11 (by omega) (kdm_lt (by decide)) rfl (hA 55 (by omega)) dX11_makeAnew_71 ?_
        refine j_getIa (k := 43) C f_RX11_276_9 (by omega) (kdm_lt (by decide)) rfl dX11_makeAnew_74 ?_
        rw [maW_lt (show 43 < 56 by decide), eW 43 (by decide), htt]
        refine j_putIa (k := 55) C f_RX11_96_11 p_11_8 (by omega) (kdm_lt (by decide)) (hA 55 (by omega)) dX11_makeAnew_77 ?_
        refine j_aload_n C dX11_makeAnew_80 rfl (lv_at hl 0 rfl) ?_
        refine j_getRa (k := 55) (k2 := 29) C f_RX11_27_11 (by omega) (kdm_lt (by decide)) rfl (hA 55 (by omega)) dX11_makeAnew_81 ?_
        refine j_iconst (v := 0) C dX11_makeAnew_84 (by decide) ?_
        refine j_putIa (k := 29) C f_RX11_212_5 p_5_0 (by omega) (kdm_lt (by decide)) rfl dX11_makeAnew_85 ?_
        refine j_swap (maSw1 nt5 tt5) ?_
        refine j_more (c_2_ := 5) (s_2_ := 10) (by omega) (by omega) ?_
        exact j_vret C ⟨rfl, _, fun j hj => (if_pos hj).trans (hA j hj), rfl, by rw [h_1_]⟩ dX11_makeAnew_88
      · have hlt : t < 5 := ltN (b := 5) (by omega) c_1_
        refine j_aload_n C dX11_makeAnew_22 rfl (lv_at hl 0 rfl) ?_
        refine j_getRa (k := 55) (k2 := 54) C f_RX11_20_11 (by omega) (kdm_lt (by decide)) rfl (hA 55 (by omega)) dX11_makeAnew_23 ?_
        refine j_iload_n C dX11_makeAnew_26 rfl (lv_at hl 1 rfl) ?_
        refine j_iload_n C dX11_makeAnew_27 rfl (lv_at hl 1 rfl) ?_
        refine j_aload_n C dX11_makeAnew_28 rfl (lv_at hl 0 rfl) ?_
        refine j_getRa (k := 55) (k2 := 43) C f_RX11_47_11 (by omega) (kdm_lt (by decide)) rfl (hA 55 (by omega)) dX11_makeAnew_29 ?_
        refine j_getIa (k := 43) C f_RX11_276_9 (by omega) (kdm_lt (by decide)) rfl dX11_makeAnew_32 ?_
        rw [maW_lt (show 43 < 56 by decide), eW 43 (by decide), htt]
        refine j_icmp_ge (tgt := 61) C dX11_makeAnew_35 (by decide) (fun c_2_ => ?_) (fun c_2_ => ?_)
        · refine j_null C dX11_makeAnew_61 ?_
          refine j_aastN (k := 54) (n := 5) (j := t) C (nI_clamp (by omega)) (by omega) (kdm_lt (by decide)) rfl (vp_in_nI hlt (by decide)) rfl dX11_makeAnew_62 ?_
          rw [maR_n (by omega)]
          refine j_iinc (v := nI (t + 1)) (lv2 := [(1, .int (nI (t + 1))), (0, .ref (ad 55))]) C dX11_makeAnew_63 hl (k0 := 1) rfl (nI_1 _) (by decide) rfl (fun ls hl => ?_)
          refine j_goto (tgt := 13) C dX11_makeAnew_66 (by decide) ?_
          exact ih (t + 1) adt (by omega) (by omega) hA (by omega) ls (lv_sub hl [1, 0] rfl)
        · exact absurd (nI_le htt2 (by omega)) c_2_
  have loopA : ∀ (n_9_ t : Nat) (adt : Nat → Nat), t ≤ tt → (∀ j, j < 56 → adt j = ad j) → tt - t < n_9_ → ∀ (ls : Array Slot), lv_has ls 2 [(0, .ref (ad 55)), (1, .int (nI t))] → J p l e rm_X11_makeAnew s m [.ref (ad 55)].toArray below meth c A D cy t (2 * t) (MQ below (gPost D cy A (mkP ad tk nt V tg tt)) [.ref (ad 55)].toArray s 5 10 A) (56 + nt + t, kdm tk (fun t => knd (V 46 t)) nt, maR nt tt t, xlen, adt) (maW W (V 47) nt t) (F0 m 13 ls []) := by
    intro n_9_
    induction n_9_ with
    | zero => intro t adt h_1_ h_2_ h_3_; exact absurd h_3_ (by omega)
    | succ n_9_ ih =>
      intro t adt htt2 hA hm ls hl
      by_cases hq : t = tt
      · subst hq
        exact loopB (6 - t) t adt (by omega) (by omega) hA (by omega) ls hl
      · have hlt : t < tt := by omega
        refine j_iload_n C dX11_makeAnew_13 rfl (lv_at hl 1 rfl) ?_
        refine j_aload_n C dX11_makeAnew_14 rfl (lv_at hl 0 rfl) ?_
        refine j_getRa (k := 55) (k2 := 54) C f_RX11_20_11 (by omega) (kdm_lt (by decide)) rfl (hA 55 (by omega)) dX11_makeAnew_15 ?_
        refine j_alena (k := 54) (n := 5) C (by omega) (Or.inr (Or.inr (Or.inl (kdm_lt (by decide))))) rfl rfl dX11_makeAnew_18 ?_
        refine j_icmp_ge (tgt := 69) C dX11_makeAnew_19 (by decide) (fun c_1_ => ?_) (fun c_1_ => ?_)
        · exact absurd c_1_ (nI_ge (b := 5) (by omega) (by decide))
        · skip
          refine j_aload_n C dX11_makeAnew_22 rfl (lv_at hl 0 rfl) ?_
          refine j_getRa (k := 55) (k2 := 54) C f_RX11_20_11 (by omega) (kdm_lt (by decide)) rfl (hA 55 (by omega)) dX11_makeAnew_23 ?_
          refine j_iload_n C dX11_makeAnew_26 rfl (lv_at hl 1 rfl) ?_
          refine j_iload_n C dX11_makeAnew_27 rfl (lv_at hl 1 rfl) ?_
          refine j_aload_n C dX11_makeAnew_28 rfl (lv_at hl 0 rfl) ?_
          refine j_getRa (k := 55) (k2 := 43) C f_RX11_47_11 (by omega) (kdm_lt (by decide)) rfl (hA 55 (by omega)) dX11_makeAnew_29 ?_
          refine j_getIa (k := 43) C f_RX11_276_9 (by omega) (kdm_lt (by decide)) rfl dX11_makeAnew_32 ?_
          rw [maW_lt (show 43 < 56 by decide), eW 43 (by decide), htt]
          refine j_icmp_ge (tgt := 61) C dX11_makeAnew_35 (by decide) (fun c_2_ => ?_) (fun c_2_ => ?_)
          · exact absurd c_2_ (nI_ge hlt (by omega))
          · skip
            refine j_aload_n C dX11_makeAnew_38 rfl (lv_at hl 0 rfl) ?_
            refine j_getRa (k := 55) (k2 := 43) C f_RX11_47_11 (by omega) (kdm_lt (by decide)) rfl (hA 55 (by omega)) dX11_makeAnew_39 ?_
            refine j_iload_n C dX11_makeAnew_42 rfl (lv_at hl 1 rfl) ?_
            refine j_callV (k := 43) (ci := 9) C [.int (nI t)] [.int (nI t), .ref (adt 54)] (kg_X9_kindAt l (56 + nt + t, kdm tk (fun t => knd (V 46 t)) nt, maR nt tt t, xlen, adt) (maW W (V 47) nt t) (by show 43 < 56 + nt + t; omega) (kdm_lt (tk := tk) (tk' := fun t => knd (V 46 t)) (nt := nt) (k := 43) (by decide)) rfl (by show 46 < 56 + nt + t; omega) (kdm_lt (tk := tk) (tk' := fun t => knd (V 46 t)) (nt := nt) (k := 46) (by decide)) rfl (nI t)) v_RX11_278 (by show 43 < 56 + nt + t; omega) (kdm_lt (tk := tk) (tk' := fun t => knd (V 46 t)) (nt := nt) (k := 43) (by decide)) rfl ⟨rfl, rfl, Nat.le_of_ble_eq_true rfl, Nat.le_of_ble_eq_true rfl⟩ rfl hl.1 rfl (Nat.le_of_ble_eq_true rfl) ⟨show t + 0 ≤ 5 by omega, show 2 * t + 0 ≤ 10 by omega⟩ dX11_makeAnew_43 (kIs fun xk hxk => ?_)
            rw [if_pos ⟨nI_pos (by omega), nI_lt (b := 5) (by omega) (by omega)⟩, nI_clamp (by omega), maW_lt (show 46 < 56 by decide), eW 46 (by decide)] at hxk
            refine j_iload_n C dX11_makeAnew_46 rfl (lv_at hl 1 rfl) ?_
            refine j_aload_n C dX11_makeAnew_47 rfl (lv_at hl 0 rfl) ?_
            refine j_getRa (k := 55) (k2 := 43) C f_RX11_47_11 (by omega) (kdm_lt (by decide)) rfl (hA 55 (by omega)) dX11_makeAnew_48 ?_
            refine j_iload_n C dX11_makeAnew_51 rfl (lv_at hl 1 rfl) ?_
            refine j_callV (k := 43) (ci := 9) C [.int (nI t)] [.int (nI t), .int xk, .int (nI t), .ref (adt 54)] (kg_X9_armAt l (56 + nt + t, kdm tk (fun t => knd (V 46 t)) nt, maR nt tt t, xlen, adt) (maW W (V 47) nt t) (by show 43 < 56 + nt + t; omega) (kdm_lt (tk := tk) (tk' := fun t => knd (V 46 t)) (nt := nt) (k := 43) (by decide)) rfl (by show 47 < 56 + nt + t; omega) (kdm_lt (tk := tk) (tk' := fun t => knd (V 46 t)) (nt := nt) (k := 47) (by decide)) rfl (nI t)) v_RX11_281 (by show 43 < 56 + nt + t; omega) (kdm_lt (tk := tk) (tk' := fun t => knd (V 46 t)) (nt := nt) (k := 43) (by decide)) rfl ⟨rfl, rfl, Nat.le_of_ble_eq_true rfl, Nat.le_of_ble_eq_true rfl⟩ rfl hl.1 rfl (Nat.le_of_ble_eq_true rfl) ⟨show t + 0 ≤ 5 by omega, show 2 * t + 0 ≤ 10 by omega⟩ dX11_makeAnew_52 (kIs fun xa hxa => ?_)
            rw [if_pos ⟨nI_pos (by omega), nI_lt (b := 5) (by omega) (by omega)⟩, nI_clamp (by omega), maW_lt (show 47 < 56 by decide), eW 47 (by decide)] at hxa
            refine j_callS C [.int xk, .int (nI t), .int xa] [.int (nI t), .ref (adt 54)] (k_X11_newThrower l (56 + nt + t) (kdm tk (fun t => knd (V 46 t)) nt) xlen adt (maR nt tt t) (maW W (V 47) nt t) xk (nI t) xa (by rw [kdm_n, hxk]) (ma_fre (fun i h _ => h) nt5)) v_RX11_284 ⟨rfl, rfl, Nat.le_of_ble_eq_true rfl, Nat.le_of_ble_eq_true rfl⟩ rfl hl.1 rfl (Nat.le_of_ble_eq_true rfl) ⟨show t + 1 ≤ 5 by omega, show 2 * t + 2 ≤ 10 by omega⟩ dX11_makeAnew_55 (kAn fun ad2 h_2_ => ?_)
            rw [maW_y hxa]
            refine j_goto (tgt := 62) C dX11_makeAnew_58 (by decide) ?_
            refine j_aastT (k := 54) (k2 := 56 + nt + t) (n := 5) (j := t) C (nI_clamp (by omega)) (by omega) (kdm_lt (by decide)) rfl (vp_in_nI (by omega) (by decide)) (h_2_ 54 (by omega)) (by omega) (by rw [kdm_n]; exact knd_T _) rfl dX11_makeAnew_62 ?_
            rw [maR_y hlt]
            refine j_iinc (v := nI (t + 1)) (lv2 := [(1, .int (nI (t + 1))), (0, .ref (ad 55))]) C dX11_makeAnew_63 hl (k0 := 1) rfl (nI_1 _) (by decide) rfl (fun ls hl => ?_)
            refine j_goto (tgt := 13) C dX11_makeAnew_66 (by decide) ?_
            exact ih (t + 1) ad2 (by omega) (fun j hj => (h_2_ j (by omega)).trans (hA j hj)) (by omega) ls (lv_sub hl [1, 0] rfl)
  exact loopA (tt + 1) 0 ad (by omega) (fun j _ => rfl) (by omega) ls (lv_sub hl [1, 0] rfl)
