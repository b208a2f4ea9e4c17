section JLc
variable {p : Program} {l : Launch} {e : Env} {R : Room} {s : State} {m : MethodId} {args : Array Value} {below : List Frame} {meth : Method} {c : Code} {A : Nat → Prop} {D : va_G} {cy : Nat → ClassId} {cells slots : Nat} {Q : State → Prop} {σ : Sh} {V : Vt} {own : String} {cc : ByteArray} {nL : Nat} {ret : Option FieldType} {pc : Nat} {ls : Array Slot} {rest st0 : List Value} {post : Option Value → Sh → Vt → Prop}
theorem j_lcmp (C : Cx p s m args meth c A D cy own cc nL ret) {x y : Int64} (d : decode cc pc = .ok (.lcmp, 1)) (k : J p l e R s m args below meth c A D cy cells slots Q σ V (F0 m (pc + 1) ls (.int (lg_cmp x y) :: rest))) : J p l e R s m args below meth c A D cy cells slots Q σ V (F0 m pc ls (.long y :: .long x :: rest)) := fun H locs hP hD hS => W.lcmp C.1 C.2.1 d (k H locs hP hD hS)
end JLc
/-- the reference's pool, but for what is only jotted down -/
def rlM (ng : Nat) (rr : Nat → Nat) (a j : Nat) : Prop := ((a = 9 ∨ a = 10) → ∃ g, g < ng ∧ 8 * g ≤ j ∧ j < 8 * g + rr g) ∧ ¬ (11 ≤ a ∧ a ≤ 20) ∧ ¬ (a = 0 ∧ 15 ≤ j ∧ j ≤ 33)
def scE (ng : Nat) (rr : Nat → Nat) (V V2 : Vt) : Prop := ∀ a j, rlM ng rr a j → V2 a j = V a j
theorem scE.rf {ng : Nat} {rr : Nat → Nat} {V : Vt} : scE ng rr V V := fun _ _ _ => rfl
theorem scE.tr {ng : Nat} {rr : Nat → Nat} {V V2 V3 : Vt} (h : scE ng rr V V2) (h_2_ : scE ng rr V2 V3) : scE ng rr V V3 := fun a j q => (h_2_ a j q).trans (h a j q)
theorem scE.row {ng : Nat} {rr : Nat → Nat} {V V2 : Vt} (h : scE ng rr V V2) {a : Nat} (ha : (1 ≤ a ∧ a ≤ 8) ∨ 20 < a) : V2 a = V a := by
  funext j
  exact h a j ⟨fun q => absurd q (by omega), by omega, by omega⟩
theorem scE.o {ng : Nat} {rr : Nat → Nat} {V V2 : Vt} (h : scE ng rr V V2) {j : Nat} (hj : j < 15 ∨ 33 < j) : V2 0 j = V 0 j := h 0 j ⟨fun q => absurd q (by omega), by omega, by omega⟩
theorem scE.ring {ng : Nat} {rr : Nat → Nat} {V V2 : Vt} (h : scE ng rr V V2) {g j : Nat} (hg : g < ng) (hj : j < rr g) : mW V2 g j = mW V g j ∧ mM V2 g j = mM V g j := ⟨h 9 _ ⟨fun _ => ⟨g, hg, by omega, by omega⟩, by omega, by omega⟩, h 10 _ ⟨fun _ => ⟨g, hg, by omega, by omega⟩, by omega, by omega⟩⟩
theorem scE.up {ng : Nat} {rr : Nat → Nat} {V : Vt} {a i : Nat} {x : Int32} (h : (11 ≤ a ∧ a ≤ 20) ∨ (a = 0 ∧ 15 ≤ i ∧ i ≤ 33)) : scE ng rr V (up2 V a i x) := fun b j q => by
  unfold up2
  have h_2_ := q.2
  rw [if_neg (by omega)]
theorem MI_sc {V V2 : Vt} {ng : Nat} {rr : Nat → Nat} {nt c_0_ : Nat} (h : scE ng rr V V2) (hM : MI V ng rr nt c_0_) : MI V2 ng rr nt c_0_ := MI_cong (fun a ha => h.row (by omega)) (h.o (by omega)) (h.o (by omega)) (h.o (by omega)) hM
theorem nrM_sc {V V2 : Vt} {ng : Nat} {rr : Nat → Nat} (h : scE ng rr V V2) (t g : Nat) : nrM V2 t g = nrM V t g := by
  unfold nrM
  rw [h.row (a := 6) (by omega), h.row (a := 7) (by omega), h.row (a := 4) (by omega), h.row (a := 5) (by omega), h.o (j := 5) (by omega)]
theorem mW_up {V : Vt} {g r : Nat} {x y : Int32} : mW (up2 (up2 V 9 (8 * g + r) x) 10 (8 * g + r) y) g = upd (mW V g) r x := by
  funext j
  unfold mW
  rw [up2_k _ _ (by decide)]
  by_cases e : j = r
  · rw [e, up2_s]; simp [upd]
  · rw [up2_i _ _ (by omega)]; simp [upd, e]
theorem mM_up {V : Vt} {g r : Nat} {x y : Int32} : mM (up2 (up2 V 9 (8 * g + r) x) 10 (8 * g + r) y) g = upd (mM V g) r y := by
  funext j
  unfold mM
  by_cases e : j = r
  · rw [e, up2_s]; simp [upd]
  · rw [up2_i _ _ (by omega), up2_k _ _ (by decide)]; simp [upd, e]
/-- thrower t of reach z has girl g by one throw now -/
def hdM (V : Vt) (rr : Nat → Nat) (t g : Nat) (z : Int32) : Prop := rr g < 8 ∧ holI (upd (mW V g) (rr g) (nI t)) (upd (mM V g) (rr g) (near z (V 4 g) (V 5 g) (V 0 5))) (rr g + 1) = nI t
theorem hdM_sc {V V2 : Vt} {ng : Nat} {rr : Nat → Nat} (h : scE ng rr V V2) {g : Nat} (hg : g < ng) (t : Nat) (z : Int32) : hdM V2 rr t g z ↔ hdM V rr t g z := by
  unfold hdM
  by_cases h_8_ : rr g < 8
  · rw [h.row (a := 4) (by omega), h.row (a := 5) (by omega), h.o (j := 5) (by omega), holI_cong (f2 := upd (mW V g) (rr g) (nI t)) (g2 := upd (mM V g) (rr g) (near z (V 4 g) (V 5 g) (V 0 5))) (by omega)]
    · intro q hq
      by_cases e : q = rr g
      · simp [upd, e]
      · simp only [upd, if_neg e]; exact (h.ring hg (by omega)).1
    · intro q hq
      by_cases e : q = rr g
      · simp [upd, e]
      · simp only [upd, if_neg e]; exact (h.ring hg (by omega)).2
  · exact ⟨fun q => absurd q.1 h_8_, fun q => absurd q.1 h_8_⟩
theorem sc_had {V V2 : Vt} {ng : Nat} {rr : Nat → Nat} {g : Nat} {x y : Int32} (hr8 : ∀ q, q < ng → rr q ≤ 8) (hg : g < ng) (h : V2 = if rr g < 8 then up2 (up2 V 9 (8 * g + rr g) x) 10 (8 * g + rr g) y else V) : scE ng rr V V2 := by
  intro a j q
  rw [h]
  split
  · have key : (a = 9 ∨ a = 10) → j ≠ 8 * g + rr g := by
      intro ha e
      obtain ⟨g2, h_2_, h_3_, h_4_⟩ := q.1 ha
      have h_5_ := hr8 g2 h_2_
      have h_6_ := hr8 g hg
      have : g2 = g := by omega
      subst this
      omega
    unfold up2
    rw [if_neg (fun p => key (Or.inr p.1) p.2), if_neg (fun p => key (Or.inl p.1) p.2)]
  · rfl
abbrev rm_X12_hasBy : Room := { frames := 2, cells := 0, slots := 0, locals := 46 }
set_option maxHeartbeats 4000000 in
set_option maxRecDepth 100000 in
theorem k_X12_hasBy (l : Launch) (ad : Nat → Nat) (V : Vt) (z0 z1 z2 : Int32) (g : Nat) (e1 : z1 = nI g) (hg : g < 4) (r : Nat) (hr : V 8 g = nI r) (r8 : r ≤ 8)  : Ct l yX12_hasBy cX12_hasBy 5 (some .boolean) rm_X12_hasBy (mS ad) V [.ref (ad (0)), .int (z0), .int (z1), .int (z2)] (rI fun x V2 => (V2 = if r < 8 then up2 (up2 V 9 (8 * g + r) z0) 10 (8 * g + r) z2 else V) ∧ x = bI (r < 8 ∧ holI (upd (mW V g) r z0) (upd (mM V g) r z2) (r + 1) = z0)) := by
  subst e1
  refine Ct_of (by decide) (Nat.le_of_ble_eq_true rfl) ?_
  intro p e s m below meth c A D cy ls C hl
  have hl : lv_has ls 5 [(0, .ref (ad (0))), (1, .int (z0)), (2, .int (nI g)), (3, .int (z2))] := hl
  refine j_aload_n C dX12_hasBy_0 rfl (lv_at hl 0 rfl) ?_
  refine j_getR (k := 0) (k2 := 8) C (f_RX12_31_12) (ml (by decide)) (rfl) (rfl) dX12_hasBy_1 ?_
  refine j_iload_n C dX12_hasBy_4 rfl (lv_at hl 2 rfl) ?_
  refine j_ialdE (k := 8) (n := 4) (t := g) C (ml (by decide)) (rfl) (rfl) (rfl) (by omega) (by decide) dX12_hasBy_5 ?_
  refine j_bipush (v := 8) C dX12_hasBy_6 (by decide) ?_
  refine j_icmp_ne (tgt := 13) C dX12_hasBy_8 (by decide) (fun c_1_ => ?_) (fun c_1_ => ?_)
  · skip
    have q1 := cNq (hr) (show (8 : Int32) = nI 8 from rfl) (by omega) (by omega) c_1_
    refine j_aload_n C dX12_hasBy_13 rfl (lv_at hl 0 rfl) ?_
    refine j_iload_n C dX12_hasBy_14 rfl (lv_at hl 1 rfl) ?_
    refine j_iload_n C dX12_hasBy_15 rfl (lv_at hl 2 rfl) ?_
    refine j_iload_n C dX12_hasBy_16 rfl (lv_at hl 3 rfl) ?_
    refine j_callV (k := 0) C [.int (z0), .int (nI g), .int (z2)] [] (k_X12_layOn l ad V (z0) (nI g) (z2) g (rfl) (by omega) r hr (by omega)) v_RX12_182 (ml (by decide)) (rfl) rfl ⟨rfl, rfl, Nat.le_of_ble_eq_true rfl, Nat.le_of_ble_eq_true rfl⟩ rfl hl.1 rfl (Nat.le_of_ble_eq_true rfl) ⟨Nat.le_of_ble_eq_true rfl, Nat.le_of_ble_eq_true rfl⟩ dX12_hasBy_17 (kU fun U2 h_2_ => ?_)
    have hly := h_2_
    have hl8 : U2 8 g = nI (r + 1) := by rw [hly, up2_s]
    refine j_aload_n C dX12_hasBy_20 rfl (lv_at hl 0 rfl) ?_
    refine j_iload_n C dX12_hasBy_21 rfl (lv_at hl 2 rfl) ?_
    refine j_callV (k := 0) C [.int (nI g)] [] (k_X12_hasHer l ad U2 (nI g) g (rfl) (by omega) (r + 1) hl8 (by omega)) v_RX12_164 (ml (by decide)) (rfl) rfl ⟨rfl, rfl, Nat.le_of_ble_eq_true rfl, Nat.le_of_ble_eq_true rfl⟩ rfl hl.1 rfl (Nat.le_of_ble_eq_true rfl) ⟨Nat.le_of_ble_eq_true rfl, Nat.le_of_ble_eq_true rfl⟩ dX12_hasBy_22 (kI fun x_3_ U3 h_3_ => ?_)
    obtain ⟨eU3, h_3_⟩ := h_3_
    have eU3 := eU3.symm
    subst eU3
    have e22 : mW U2 g = upd (mW V g) r z0 := by rw [hly, ← mW_up (V := V) (y := z2)]; funext j; unfold mW; rw [up2_k _ _ (by decide)]
    have e23 : mM U2 g = upd (mM V g) r z2 := by rw [hly, ← mM_up (V := V) (x := z0)]; funext j; unfold mM; rw [up2_k _ _ (by decide)]
    rw [e22, e23] at h_3_
    refine j_iload_n C dX12_hasBy_25 rfl (lv_at hl 1 rfl) ?_
    refine j_icmp_ne (tgt := 33) C dX12_hasBy_26 (by decide) (fun c_4_ => ?_) (fun c_4_ => ?_)
    · skip
      refine j_iconst (v := 0) C dX12_hasBy_33 (by decide) ?_
      refine j_istore (lv2 := [(4, .int (0)), (0, .ref (ad (0))), (1, .int (z0)), (2, .int (nI g)), (3, .int (z2))]) C dX12_hasBy_34 hl (by decide) rfl (fun ls hl => ?_)
      refine j_aload_n C dX12_hasBy_36 rfl (lv_at hl 1 rfl) ?_
      refine j_getR (k := 0) (k2 := 8) C (f_RX12_31_12) (ml (by decide)) (rfl) (rfl) dX12_hasBy_37 ?_
      refine j_iload_n C dX12_hasBy_40 rfl (lv_at hl 3 rfl) ?_
      refine j_dup2 C dX12_hasBy_41 rfl rfl ?_
      refine j_ialdE (k := 8) (n := 4) (t := g) C (ml (by decide)) (rfl) (rfl) (rfl) (by omega) (by decide) dX12_hasBy_42 ?_
      refine j_iconst (v := 1) C dX12_hasBy_43 (by decide) ?_
      refine j_isub C dX12_hasBy_44 ?_
      refine j_iastE (k := 8) (n := 4) (t := g) C (ml (by decide)) (rfl) (rfl) (rfl) (by omega) (by decide) dX12_hasBy_45 (fun V1 eV1 => ?_)
      refine j_iload C dX12_hasBy_46 (lv_at hl 0 rfl) ?_
      refine j_zret C rfl ⟨rfl, _, rfl, ?_⟩ dX12_hasBy_48
      have e8 : r < 8 := by omega
      have eb : up2 (up2 V 9 (8 * g + r) z0) 10 (8 * g + r) z2 8 g = nI r := by rw [up2_k _ _ (by decide), up2_k _ _ (by decide)]; exact hr
      rw [if_pos e8]
      refine ⟨by rw [eV1, nS1 hl8, hly, up2_back _ eb], ?_⟩
      rw [h_3_] at c_4_
      rw [bI_f (fun q => c_4_ q.2)]
    · skip
      refine j_iconst (v := 1) C dX12_hasBy_29 (by decide) ?_
      refine j_goto (tgt := 34) C dX12_hasBy_30 (by decide) ?_
      refine j_istore (lv2 := [(4, .int (1)), (0, .ref (ad (0))), (1, .int (z0)), (2, .int (nI g)), (3, .int (z2))]) C dX12_hasBy_34 hl (by decide) rfl (fun ls hl => ?_)
      refine j_aload_n C dX12_hasBy_36 rfl (lv_at hl 1 rfl) ?_
      refine j_getR (k := 0) (k2 := 8) C (f_RX12_31_12) (ml (by decide)) (rfl) (rfl) dX12_hasBy_37 ?_
      refine j_iload_n C dX12_hasBy_40 rfl (lv_at hl 3 rfl) ?_
      refine j_dup2 C dX12_hasBy_41 rfl rfl ?_
      refine j_ialdE (k := 8) (n := 4) (t := g) C (ml (by decide)) (rfl) (rfl) (rfl) (by omega) (by decide) dX12_hasBy_42 ?_
      refine j_iconst (v := 1) C dX12_hasBy_43 (by decide) ?_
      refine j_isub C dX12_hasBy_44 ?_
      refine j_iastE (k := 8) (n := 4) (t := g) C (ml (by decide)) (rfl) (rfl) (rfl) (by omega) (by decide) dX12_hasBy_45 (fun V2 eV2 => ?_)
      refine j_iload C dX12_hasBy_46 (lv_at hl 0 rfl) ?_
      refine j_zret C rfl ⟨rfl, _, rfl, ?_⟩ dX12_hasBy_48
      have e8 : r < 8 := by omega
      have eb : up2 (up2 V 9 (8 * g + r) z0) 10 (8 * g + r) z2 8 g = nI r := by rw [up2_k _ _ (by decide), up2_k _ _ (by decide)]; exact hr
      rw [if_pos e8]
      refine ⟨by rw [eV2, nS1 hl8, hly, up2_back _ eb], ?_⟩
      rw [h_3_] at c_4_
      rw [bI_t ⟨e8, c_4_⟩]
  · skip
    have q1 := cEq (hr) (show (8 : Int32) = nI 8 from rfl) (by omega) (by omega) c_1_
    refine j_iconst (v := 0) C dX12_hasBy_11 (by decide) ?_
    refine j_zret C rfl ⟨rfl, _, rfl, ?_⟩ dX12_hasBy_12
    obtain rfl : r = 8 := by omega
    rw [if_neg (by omega), bI_f (fun q => absurd q.1 (by omega))]
    exact ⟨rfl, rfl⟩
