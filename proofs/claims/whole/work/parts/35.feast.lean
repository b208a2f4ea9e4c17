/-! a feast that is told: frost, rings per girl, whose, how near; ringers, ringers on ringers -/
abbrev Fs : Type := Int32 × (Nat → Nat) × (Nat → Nat → Int32) × (Nat → Nat → Int32) × Int32 × Int32
def uN {α : Type} (f : Nat → α) (i : Nat) (x : α) : Nat → α := fun j => if j = i then x else f j
theorem uN_s {α : Type} (f : Nat → α) (i : Nat) (x : α) : uN f i x i = x := if_pos rfl
theorem uN_o {α : Type} (f : Nat → α) {i j : Nat} (x : α) (h : j ≠ i) : uN f i x j = f j := if_neg h
def feT (rc ys ls : Nat → Int32) (F : Fs) (t g : Nat) : Fs :=
  (F.1, uN F.2.1 g (F.2.1 g + 1), uN F.2.2.1 g (uN (F.2.2.1 g) (F.2.1 g) (nI t)), uN F.2.2.2.1 g (uN (F.2.2.2.1 g) (F.2.1 g) (near (rc t) (ys g) (ls g) F.1)),
    F.2.2.2.2.1 + (if near (rc t) (ys g) (ls g) F.1 = 0 then 1 else 0), F.2.2.2.2.2 + (if near (rc t) (ys g) (ls g) F.1 = 0 ∧ 0 < cntI (fun q => F.2.2.2.1 g q = 0) (F.2.1 g) then 1 else 0))
def feS (nt ng : Nat) (rc ys ls : Nat → Int32) (F : Fs) (a b : Int32) : Option Fs :=
  if b = 10 then some (a, F.2)
  else if b = 11 then (if ¬ a < 0 ∧ a < nI ng then some (F.1, uN F.2.1 a.toNatClampNeg 0, F.2.2) else none)
  else if ¬ a < 0 ∧ a < nI nt then (if ¬ b < 0 ∧ b < nI ng then (if F.2.1 b.toNatClampNeg < 8 then some (feT rc ys ls F a.toNatClampNeg b.toNatClampNeg) else none) else none) else none
def feN (nt ng : Nat) (rc ys ls : Nat → Int32) (F : Fs) (c : Nat → Int32) : Nat → Option Fs
  | 0 => some F
  | p + 1 => (feN nt ng rc ys ls F c p).bind (fun G => feS nt ng rc ys ls G (c (2 * p)) (c (2 * p + 1)))
theorem feN_s {nt ng : Nat} {rc ys ls : Nat → Int32} {F G : Fs} {c : Nat → Int32} {p : Nat} (h : feN nt ng rc ys ls F c p = some G) : feN nt ng rc ys ls F c (p + 1) = feS nt ng rc ys ls G (c (2 * p)) (c (2 * p + 1)) := by rw [feN, h]; rfl
theorem feN_none {nt ng : Nat} {rc ys ls : Nat → Int32} {F : Fs} {c : Nat → Int32} {p : Nat} (h : feN nt ng rc ys ls F c p = none) : ∀ m, p ≤ m → feN nt ng rc ys ls F c m = none
  | 0, hm => by
    have e : p = 0 := by omega
    rw [e] at h; exact h
  | m + 1, hm => by
    by_cases e : p = m + 1
    · rw [← e]; exact h
    · rw [feN, feN_none h m (by omega)]; rfl
/-- what is asked of a feast that goes through -/
def feA (G : Fs) (ng : Nat) (z : Int32) : Int32 :=
  if z = 0 then nI (cntI (fun g => 0 < G.2.1 g) ng) else if z = 2 then G.2.2.2.2.1 else if z = 3 then G.2.2.2.2.2 else if z = 4 then G.1 else
  if ¬ z - 10 < 0 ∧ z - 10 < nI ng then holI (G.2.2.1 (z - 10).toNatClampNeg) (G.2.2.2.1 (z - 10).toNatClampNeg) (G.2.1 (z - 10).toNatClampNeg) else -9
/-- the feast's answer -/
def feX (nt ng : Nat) (rc ys ls : Nat → Int32) (F : Fs) (c : Nat → Int32) (n : Nat) (z x : Int32) : Prop :=
  (∃ G, feN nt ng rc ys ls F c n = some G ∧ x = if z = 1 then -9 else feA G ng z) ∨ ∃ p G, p < n ∧ feN nt ng rc ys ls F c p = some G ∧ feS nt ng rc ys ls G (c (2 * p)) (c (2 * p + 1)) = none ∧ x = if z = 1 then nI p else -100 - nI p
theorem feX_one {nt ng : Nat} {rc ys ls : Nat → Int32} {F : Fs} {c : Nat → Int32} {n : Nat} {z x y : Int32} (h_1_ : feX nt ng rc ys ls F c n z x) (h_2_ : feX nt ng rc ys ls F c n z y) : x = y := by
  have dead : ∀ p G m, feN nt ng rc ys ls F c p = some G → feS nt ng rc ys ls G (c (2 * p)) (c (2 * p + 1)) = none → p < m → feN nt ng rc ys ls F c m = none := fun p G m e1 e2 h => feN_none (p := p + 1) (by rw [feN_s e1]; exact e2) m h
  rcases h_1_ with ⟨G, e, rfl⟩ | ⟨p, G, hp, e, e2, rfl⟩ <;> rcases h_2_ with ⟨G', e', rfl⟩ | ⟨p', G', hp', e', e2', rfl⟩
  · rw [e] at e'; cases e'; rfl
  · rw [dead p' G' n e' e2' hp'] at e; cases e
  · rw [dead p G n e e2 hp] at e'; cases e'
  · have hpp : p = p' := by
      rcases Nat.lt_trichotomy p p' with h | h | h
      · rw [dead p G p' e e2 h] at e'; cases e'
      · exact h
      · rw [dead p' G' p e' e2' h] at e; cases e
    rw [hpp]
/-- the told clay is F -/
def feR (V : Vt) (ng : Nat) (ys ls : Nat → Int32) (F : Fs) : Prop :=
  V 15 0 = F.1 ∧ V 15 1 = nI ng ∧ ng ≤ 4 ∧ (∀ g, g < ng → V (15 + 2 + 3 * g) 0 = ys g ∧ V (15 + 2 + 3 * g) 1 = ls g ∧ V (15 + 2 + 3 * g) 2 = nI (F.2.1 g) ∧ F.2.1 g ≤ 8 ∧ ∀ j, j < F.2.1 g → V (15 + 2 + 3 * g + 1) j = F.2.2.1 g j ∧ V (15 + 2 + 3 * g + 2) j = F.2.2.2.1 g j ∧ ¬ F.2.2.1 g j = -9) ∧ V 14 2 = F.2.2.2.2.1 ∧ V 14 3 = F.2.2.2.2.2
def frF (V V2 : Vt) : Prop := ∀ a, a < 14 ∨ 28 < a → V2 a = V a
theorem frF.rf {V : Vt} : frF V V := fun _ _ => rfl
theorem frF.tr {V V2 V3 : Vt} (h : frF V V2) (h_2_ : frF V2 V3) : frF V V3 := fun a ha => (h_2_ a ha).trans (h a ha)
theorem frF.up {V : Vt} {a i : Nat} {x : Int32} (h : 14 ≤ a ∧ a ≤ 28) : frF V (up2 V a i x) := fun b hb => up2_k _ _ (by omega)
theorem feR_cl {V : Vt} {ng : Nat} {ys ls : Nat → Int32} {F : Fs} (h : feR V ng ys ls F) : ClI V 15 ng F.2.1 := ⟨h.2.1, h.2.2.1, fun j hj => ⟨(h.2.2.2.1 j hj).2.2.1, (h.2.2.2.1 j hj).2.2.2.1⟩⟩
theorem XI_fr {tk : Nat → Nat} {nt : Nat} {V V2 : Vt} {ng : Nat} {rr : Nat → Nat} {c_0_ : Nat} (h : frF V V2) (hX : XI tk nt V ng rr c_0_) : XI tk nt V2 ng rr c_0_ := by
  obtain ⟨⟨a1, a2, a3⟩, b, c, d, e, f, g, k⟩ := hX
  refine ⟨⟨?_, a2, fun j hj => ?_⟩, ?_, c, fun t ht => ⟨(d t ht).1, ?_⟩, ?_, f, fun r hr => ?_, fun q hq => ?_⟩
  · rw [h 0 (by omega)]; exact a1
  · rw [h _ (by omega)]; exact a3 j hj
  · rw [h 55 (by omega)]; exact b
  · rw [h _ (by omega)]; exact (d t ht).2
  · rw [h 29 (by omega)]; exact e
  · rw [h 30 (by omega), h 31 (by omega)]; exact g r hr
  · rw [h _ (by omega)]; exact k q hq
theorem feR_frost {V : Vt} {ng : Nat} {ys ls : Nat → Int32} {F : Fs} {a : Int32} (h : feR V ng ys ls F) : feR (up2 V 15 0 a) ng ys ls (a, F.2) := by
  obtain ⟨h_1_, h_2_, h_3_, h_4_, h_5_, h_6_⟩ := h
  refine ⟨up2_s .., by rw [up2_i _ _ (by decide)]; exact h_2_, h_3_, fun g hg => ?_, by rw [up2_k _ _ (by decide)]; exact h_5_, by rw [up2_k _ _ (by decide)]; exact h_6_⟩
  rw [up2_k _ _ (by omega), up2_k _ _ (by omega), up2_k _ _ (by omega)]
  exact h_4_ g hg
theorem feR_clear {V : Vt} {ng j : Nat} {ys ls : Nat → Int32} {F : Fs} (hj : j < ng) (h : feR V ng ys ls F) : feR (up2 V (15 + 2 + 3 * j) 2 0) ng ys ls (F.1, uN F.2.1 j 0, F.2.2) := by
  obtain ⟨h_1_, h_2_, h_3_, h_4_, h_5_, h_6_⟩ := h
  refine ⟨by rw [up2_k _ _ (by omega)]; exact h_1_, by rw [up2_k _ _ (by omega)]; exact h_2_, h_3_, fun g hg => ?_, by rw [up2_k _ _ (by omega)]; exact h_5_, by rw [up2_k _ _ (by omega)]; exact h_6_⟩
  obtain ⟨q1, q2, q3, q4, q5⟩ := h_4_ g hg
  rw [up2_i _ _ (by decide), up2_i _ _ (by decide)]
  refine ⟨q1, q2, ?_⟩
  by_cases e : g = j
  · subst e
    dsimp only
    rw [uN_s, up2_s]
    exact ⟨rfl, by omega, fun i hi => absurd hi (by omega)⟩
  · dsimp only
    rw [uN_o _ _ e, up2_k _ _ (by omega), up2_k _ _ (by omega), up2_k _ _ (by omega)]
    exact ⟨q3, q4, q5⟩
theorem cntI_cong {P Q : Nat → Prop} [DecidablePred P] [DecidablePred Q] : ∀ n, (∀ k, k < n → (P k ↔ Q k)) → cntI P n = cntI Q n
  | 0, _ => rfl
  | n + 1, h => by
    have ih := cntI_cong n (fun k hk => h k (by omega))
    rw [cntI, cntI, ih]
    by_cases q : P n
    · rw [if_pos q, if_pos ((h n (by omega)).mp q)]
    · rw [if_neg q, if_neg (fun z => q ((h n (by omega)).mpr z))]
theorem feR_throw {V : Vt} {ng j t : Nat} {rc ys ls : Nat → Int32} {F : Fs} {d : Int32} (hj : j < ng) (h_8_ : F.2.1 j < 8) (ht : t < 5) (hn : V (56 + t) 0 = nI t) (hd : d = near (rc t) (ys j) (ls j) F.1) (h : feR V ng ys ls F) : feR (thV V t j (F.2.1 j) d) ng ys ls (feT rc ys ls F t j) := by
  obtain ⟨h_1_, h_2_, h_3_, h_4_, h_5_, h_6_⟩ := h
  have hc : cntI (fun q => V (15 + 2 + 3 * j + 2) q = 0) (F.2.1 j) = cntI (fun q => F.2.2.2.1 j q = 0) (F.2.1 j) := cntI_cong _ (fun k hk => by rw [((h_4_ j hj).2.2.2.2 k hk).2.1])
  unfold thV feT
  dsimp only
  rw [hc, ← hd]
  obtain ⟨W, eW⟩ : ∃ W, W = (if d = 0 then up2 (up2 V 14 2 (V 14 2 + 1)) 14 3 (V 14 3 + (if 0 < cntI (fun q => F.2.2.2.1 j q = 0) (F.2.1 j) then 1 else 0)) else V) := ⟨_, rfl⟩
  rw [← eW, hn]
  have fW : ∀ a, a ≠ 14 → W a = V a := by
    intro a ha
    rw [eW]
    split
    · rw [up2_k _ _ ha, up2_k _ _ ha]
    · rfl
  have w2 : W 14 2 = V 14 2 + (if d = 0 then 1 else 0) := by
    rw [eW]
    split
    · rw [up2_i _ _ (by decide), up2_s]
    · exact (Int32.add_zero _).symm
  have w3 : W 14 3 = V 14 3 + (if d = 0 ∧ 0 < cntI (fun q => F.2.2.2.1 j q = 0) (F.2.1 j) then 1 else 0) := by
    rw [eW]
    by_cases q : d = 0
    · rw [if_pos q, up2_s]
      by_cases q2 : 0 < cntI (fun q => F.2.2.2.1 j q = 0) (F.2.1 j)
      · rw [if_pos q2, if_pos ⟨q, q2⟩]
      · rw [if_neg q2, if_neg (fun z => q2 z.2)]
    · rw [if_neg q, if_neg (fun z => q z.1)]
      exact (Int32.add_zero _).symm
  refine ⟨?_, ?_, h_3_, fun g hg => ?_, ?_, ?_⟩
  · rw [up2_k _ _ (by omega), up2_k _ _ (by omega), up2_k _ _ (by omega), fW 15 (by decide)]; exact h_1_
  · rw [up2_k _ _ (by omega), up2_k _ _ (by omega), up2_k _ _ (by omega), fW 15 (by decide)]; exact h_2_
  · obtain ⟨q1, q2, q3, q4, q5⟩ := h_4_ g hg
    have e0 : ∀ i, i < 2 → up2 (up2 (up2 W (15 + 2 + 3 * j + 1) (F.2.1 j) (nI t)) (15 + 2 + 3 * j + 2) (F.2.1 j) d) (15 + 2 + 3 * j) 2 (nI (F.2.1 j + 1)) (15 + 2 + 3 * g) i = V (15 + 2 + 3 * g) i := fun i hi => by
      rw [up2_i _ _ (by omega), up2_k _ _ (by omega), up2_k _ _ (by omega), fW _ (by omega)]
    rw [e0 0 (by decide), e0 1 (by decide)]
    refine ⟨q1, q2, ?_⟩
    by_cases e : g = j
    · subst e
      dsimp only
      rw [uN_s, uN_s, uN_s, up2_s]
      refine ⟨rfl, by omega, fun i hi => ?_⟩
      by_cases ei : i = F.2.1 g
      · subst ei
        rw [uN_s, uN_s]
        refine ⟨?_, ?_, m9_nI (by omega)⟩
        · rw [up2_k _ _ (by omega), up2_k _ _ (by omega), up2_s]
        · rw [up2_k _ _ (by omega), up2_s]
      · rw [uN_o _ _ ei, uN_o _ _ ei]
        have q6 := q5 i (by omega)
        refine ⟨?_, ?_, q6.2.2⟩
        · rw [up2_k _ _ (by omega), up2_k _ _ (by omega), up2_i _ _ ei, fW _ (by omega)]; exact q6.1
        · rw [up2_k _ _ (by omega), up2_i _ _ ei, up2_k _ _ (by omega), fW _ (by omega)]; exact q6.2.1
    · dsimp only
      rw [uN_o _ _ e, uN_o _ _ e, uN_o _ _ e]
      have e3 : ∀ i, up2 (up2 (up2 W (15 + 2 + 3 * j + 1) (F.2.1 j) (nI t)) (15 + 2 + 3 * j + 2) (F.2.1 j) d) (15 + 2 + 3 * j) 2 (nI (F.2.1 j + 1)) (15 + 2 + 3 * g + i) = V (15 + 2 + 3 * g + i) ∨ 2 < i := fun i => by
        by_cases hi : 2 < i
        · exact Or.inr hi
        · exact Or.inl (by rw [up2_k _ _ (by omega), up2_k _ _ (by omega), up2_k _ _ (by omega), fW _ (by omega)])
      have g0 : up2 (up2 (up2 W (15 + 2 + 3 * j + 1) (F.2.1 j) (nI t)) (15 + 2 + 3 * j + 2) (F.2.1 j) d) (15 + 2 + 3 * j) 2 (nI (F.2.1 j + 1)) (15 + 2 + 3 * g) = V (15 + 2 + 3 * g) := (e3 0).resolve_right (by decide)
      have g1 := (e3 1).resolve_right (by decide)
      have g2 := (e3 2).resolve_right (by decide)
      rw [g0, g1, g2]
      exact ⟨q3, q4, q5⟩
  · rw [up2_k _ _ (by omega), up2_k _ _ (by omega), up2_k _ _ (by omega), w2, h_5_]
  · rw [up2_k _ _ (by omega), up2_k _ _ (by omega), up2_k _ _ (by omega), w3, h_6_]
theorem thV_fr {V : Vt} {t j r : Nat} {d : Int32} (hj : j < 4) : frF V (thV V t j r d) ∧ thV V t j r d 14 1 = V 14 1 := by
  unfold thV
  dsimp only
  refine ⟨fun a ha => ?_, ?_⟩
  · rw [up2_k _ _ (by omega), up2_k _ _ (by omega), up2_k _ _ (by omega)]
    split
    · rw [up2_k _ _ (by omega), up2_k _ _ (by omega)]
    · rfl
  · rw [up2_k _ _ (by omega), up2_k _ _ (by omega), up2_k _ _ (by omega)]
    split
    · rw [up2_i _ _ (by decide), up2_i _ _ (by decide)]
    · rfl
def rfI (nt : Nat) (a b : Int32) : Int32 :=
  if b = 10 ∨ b = 11 then (if 0 ≤ a ∧ a ≤ 3 then 0 else -2) else if 0 ≤ b ∧ b ≤ 3 then (if ¬ a < 0 ∧ a < nI nt then 0 else -1) else -2
/-- the first refusal among the first n pairs -/
def rfN (nt : Nat) (c : Nat → Int32) : Nat → Int32
  | 0 => 0
  | p + 1 => if rfN nt c p = 0 then rfI nt (c (2 * p)) (c (2 * p + 1)) else rfN nt c p
theorem rfN_st {nt : Nat} {c : Nat → Int32} {p : Nat} (h : ¬ rfN nt c p = 0) : ∀ m, p ≤ m → rfN nt c m = rfN nt c p
  | 0, hm => by rw [show p = 0 by omega]
  | m + 1, hm => by
    by_cases e : p = m + 1
    · rw [e]
    · have ih := rfN_st h m (by omega)
      rw [rfN, ih, if_neg h]
theorem iI2 (i p : Nat) : nI i + 2 * nI p = nI (i + 2 * p) := by rw [show (2 : Int32) = nI 2 from rfl, pk_mul, nI_add]
theorem iI3 (i p : Nat) : nI i + 2 * nI p + 1 = nI (i + (2 * p + 1)) := by rw [iI2, nI_1, Nat.add_assoc]
abbrev rm_X11_refusalOfPair : Room := { frames := 1, cells := 0, slots := 0, locals := 22 }
set_option maxHeartbeats 4000000 in
set_option maxRecDepth 100000 in
theorem k_X11_refusalOfPair (l : Launch) (ad tk : Nat → Nat) (nt : Nat) (V : Vt) (ng : Nat) (rr : Nat → Nat) (c_0_ : Nat) (hX : XI tk nt V ng rr c_0_) (z0 z1 : Int32) : Ct l yX11_refusalOfPair cX11_refusalOfPair 3 (some .int) rm_X11_refusalOfPair (xS ad tk nt) V [.ref (ad (55)), .int (z0), .int (z1)] (rI fun x V2 => V2 = V ∧ x = rfI nt z0 z1) := by
  refine Ct_of (by decide) (Nat.le_of_ble_eq_true rfl) ?_
  intro p e s m below meth c A D cy ls C hl
  have hl : lv_has ls 3 [(0, .ref (ad (55))), (1, .int (z0)), (2, .int (z1))] := hl
  have ng4 := hX.1.2.1
  have nt5 := hX.2.2.1
  refine j_iload_n C dX11_refusalOfPair_0 rfl (lv_at hl 2 rfl) ?_
  refine j_bipush (v := 10) C dX11_refusalOfPair_1 (by decide) ?_
  refine j_icmp_eq (tgt := 12) C dX11_refusalOfPair_3 (by decide) (fun c_1_ => ?_) (fun c_1_ => ?_)
  · skip
    refine j_iload_n C dX11_refusalOfPair_12 rfl (lv_at hl 1 rfl) ?_
    refine j_iconst (v := 0) C dX11_refusalOfPair_13 (by decide) ?_
    refine j_iconst (v := 3) C dX11_refusalOfPair_14 (by decide) ?_
    refine j_callS C [.int (z0), .int (0), .int (3)] [] (k_X11_isWithin l (xS ad tk nt) V (z0) (0) (3)) v_RX11_143 ⟨rfl, rfl, Nat.le_of_ble_eq_true rfl, Nat.le_of_ble_eq_true rfl⟩ rfl hl.1 rfl (Nat.le_of_ble_eq_true rfl) ⟨Nat.le_of_ble_eq_true rfl, Nat.le_of_ble_eq_true rfl⟩ dX11_refusalOfPair_15 (kI fun x_2_ U2 h_2_ => ?_)
    obtain ⟨eU2, h_2_⟩ := h_2_
    have eU2 := eU2.symm
    subst eU2
    refine j_if_eq (tgt := 25) C dX11_refusalOfPair_18 (by decide) (fun c_3_ => ?_) (fun c_3_ => ?_)
    · skip
      have b3 := bI_0.mp (h_2_ ▸ c_3_)
      refine j_bipush (v := (-2)) C dX11_refusalOfPair_25 (by decide) ?_
      refine j_iret C ⟨rfl, _, rfl, ?_⟩ dX11_refusalOfPair_27
      refine ⟨rfl, ?_⟩
      unfold rfI
      rw [if_pos (Or.inl c_1_), if_neg b3]
    · skip
      have b3 := Decidable.not_not.mp (mt bI_0.mpr (h_2_ ▸ c_3_))
      refine j_iconst (v := 0) C dX11_refusalOfPair_21 (by decide) ?_
      refine j_goto (tgt := 27) C dX11_refusalOfPair_22 (by decide) ?_
      refine j_iret C ⟨rfl, _, rfl, ?_⟩ dX11_refusalOfPair_27
      refine ⟨rfl, ?_⟩
      unfold rfI
      rw [if_pos (Or.inl c_1_), if_pos b3]
  · skip
    refine j_iload_n C dX11_refusalOfPair_6 rfl (lv_at hl 2 rfl) ?_
    refine j_bipush (v := 11) C dX11_refusalOfPair_7 (by decide) ?_
    refine j_icmp_ne (tgt := 28) C dX11_refusalOfPair_9 (by decide) (fun c_4_ => ?_) (fun c_4_ => ?_)
    · skip
      refine j_iload_n C dX11_refusalOfPair_28 rfl (lv_at hl 2 rfl) ?_
      refine j_iconst (v := 0) C dX11_refusalOfPair_29 (by decide) ?_
      refine j_iconst (v := 3) C dX11_refusalOfPair_30 (by decide) ?_
      refine j_callS C [.int (z1), .int (0), .int (3)] [] (k_X11_isWithin l (xS ad tk nt) V (z1) (0) (3)) v_RX11_143 ⟨rfl, rfl, Nat.le_of_ble_eq_true rfl, Nat.le_of_ble_eq_true rfl⟩ rfl hl.1 rfl (Nat.le_of_ble_eq_true rfl) ⟨Nat.le_of_ble_eq_true rfl, Nat.le_of_ble_eq_true rfl⟩ dX11_refusalOfPair_31 (kI fun x_5_ U5 h_5_ => ?_)
      obtain ⟨eU5, h_5_⟩ := h_5_
      have eU5 := eU5.symm
      subst eU5
      refine j_if_ne (tgt := 40) C dX11_refusalOfPair_34 (by decide) (fun c_6_ => ?_) (fun c_6_ => ?_)
      · skip
        have b6 := Decidable.not_not.mp (mt bI_0.mpr (h_5_ ▸ c_6_))
        refine j_aload_n C dX11_refusalOfPair_40 rfl (lv_at hl 0 rfl) ?_
        refine j_iload_n C dX11_refusalOfPair_41 rfl (lv_at hl 1 rfl) ?_
        refine j_callV (k := 55) C [.int (z0)] [] (k_X11_throwerOf l ad tk nt V hX.2.1 hX.2.2.1 (z0)) v_RX11_124 (xl (by decide)) (rfl) rfl ⟨rfl, rfl, Nat.le_of_ble_eq_true rfl, Nat.le_of_ble_eq_true rfl⟩ rfl hl.1 rfl (Nat.le_of_ble_eq_true rfl) ⟨Nat.le_of_ble_eq_true rfl, Nat.le_of_ble_eq_true rfl⟩ dX11_refusalOfPair_42 (kA fun x_7_ U7 h_7_ => ?_)
        obtain ⟨eU7, h_7_⟩ := h_7_
        have eU7 := eU7.symm
        subst eU7
        rcases h_7_ with ⟨j_7_, hj7, ej7, ev7⟩ | ⟨ho7, ev7⟩
        · subst ev7
          refine j_ifnonnull (tgt := 52) C dX11_refusalOfPair_45 (by decide) ?_
          refine j_iconst (v := 0) C dX11_refusalOfPair_52 (by decide) ?_
          refine j_iret C ⟨rfl, _, rfl, ?_⟩ dX11_refusalOfPair_53
          refine ⟨rfl, ?_⟩
          unfold rfI
          rw [if_neg (fun q => q.elim c_1_ c_4_), if_pos b6, if_pos (inz ej7 hj7 (by omega)).1]
        · subst ev7
          refine j_ifnonnullN C dX11_refusalOfPair_45 ?_
          refine j_iconst (v := (-1)) C dX11_refusalOfPair_48 (by decide) ?_
          refine j_goto (tgt := 53) C dX11_refusalOfPair_49 (by decide) ?_
          refine j_iret C ⟨rfl, _, rfl, ?_⟩ dX11_refusalOfPair_53
          refine ⟨rfl, ?_⟩
          unfold rfI
          rw [if_neg (fun q => q.elim c_1_ c_4_), if_pos b6, if_neg (outR ho7)]
      · skip
        have b6 := bI_0.mp (h_5_ ▸ c_6_)
        refine j_bipush (v := (-2)) C dX11_refusalOfPair_37 (by decide) ?_
        refine j_iret C ⟨rfl, _, rfl, ?_⟩ dX11_refusalOfPair_39
        refine ⟨rfl, ?_⟩
        unfold rfI
        rw [if_neg (fun q => q.elim c_1_ c_4_), if_neg b6]
    · skip
      refine j_iload_n C dX11_refusalOfPair_12 rfl (lv_at hl 1 rfl) ?_
      refine j_iconst (v := 0) C dX11_refusalOfPair_13 (by decide) ?_
      refine j_iconst (v := 3) C dX11_refusalOfPair_14 (by decide) ?_
      refine j_callS C [.int (z0), .int (0), .int (3)] [] (k_X11_isWithin l (xS ad tk nt) V (z0) (0) (3)) v_RX11_143 ⟨rfl, rfl, Nat.le_of_ble_eq_true rfl, Nat.le_of_ble_eq_true rfl⟩ rfl hl.1 rfl (Nat.le_of_ble_eq_true rfl) ⟨Nat.le_of_ble_eq_true rfl, Nat.le_of_ble_eq_true rfl⟩ dX11_refusalOfPair_15 (kI fun x_8_ U8 h_8_ => ?_)
      obtain ⟨eU8, h_8_⟩ := h_8_
      have eU8 := eU8.symm
      subst eU8
      refine j_if_eq (tgt := 25) C dX11_refusalOfPair_18 (by decide) (fun c_9_ => ?_) (fun c_9_ => ?_)
      · skip
        have b9 := bI_0.mp (h_8_ ▸ c_9_)
        refine j_bipush (v := (-2)) C dX11_refusalOfPair_25 (by decide) ?_
        refine j_iret C ⟨rfl, _, rfl, ?_⟩ dX11_refusalOfPair_27
        refine ⟨rfl, ?_⟩
        unfold rfI
        rw [if_pos (Or.inr c_4_), if_neg b9]
      · skip
        have b9 := Decidable.not_not.mp (mt bI_0.mpr (h_8_ ▸ c_9_))
        refine j_iconst (v := 0) C dX11_refusalOfPair_21 (by decide) ?_
        refine j_goto (tgt := 27) C dX11_refusalOfPair_22 (by decide) ?_
        refine j_iret C ⟨rfl, _, rfl, ?_⟩ dX11_refusalOfPair_27
        refine ⟨rfl, ?_⟩
        unfold rfI
        rw [if_pos (Or.inr c_4_), if_pos b9]
abbrev rm_X11_refusalOfPairs : Room := { frames := 2, cells := 0, slots := 0, locals := 44 }
set_option maxHeartbeats 4000000 in
set_option maxRecDepth 100000 in
theorem k_X11_refusalOfPairs (l : Launch) (ad tk : Nat → Nat) (nt : Nat) (V : Vt) (ng : Nat) (rr : Nat → Nat) (c_0_ : Nat) (hX : XI tk nt V ng rr c_0_) (k : Nat) (hg : isH k) (m9 : Nat) (hn : V k 1 = nI m9) (h_60_ : m9 ≤ 60) (i n : Nat) (z1 z2 : Int32) (ez1 : z1 = nI i) (ez2 : z2 = nI n) (hin : i + 2 * n ≤ m9)  : Ct l yX11_refusalOfPairs cX11_refusalOfPairs 6 (some .int) rm_X11_refusalOfPairs (xS ad tk nt) V [.ref (ad (55)), .ref (ad (k)), .int (z1), .int (z2)] (rI fun x V2 => V2 = V ∧ x = rfN nt (fun j => V (k + 1) (i + j)) n) := by
  refine Ct_of (by decide) (Nat.le_of_ble_eq_true rfl) ?_
  intro p e s m below meth c A D cy ls C hl
  have hl : lv_has ls 6 [(0, .ref (ad (55))), (1, .ref (ad (k))), (2, .int (z1)), (3, .int (z2))] := hl
  have ng4 := hX.1.2.1
  have nt5 := hX.2.2.1
  refine j_iconst (v := 0) C dX11_refusalOfPairs_0 (by decide) ?_
  refine j_istore (lv2 := [(4, .int (0)), (0, .ref (ad (55))), (1, .ref (ad (k))), (2, .int (z1)), (3, .int (z2))]) C dX11_refusalOfPairs_1 hl (by decide) rfl (fun ls hl => ?_)
  have loop : ∀ (n_9_ : Nat) (p9 : Nat), p9 ≤ n → rfN nt (fun j => V (k + 1) (i + j)) p9 = 0 → n - p9 < n_9_ → ∀ (ls : Array Slot), lv_has ls 6 [(0, .ref (ad (55))), (1, .ref (ad (k))), (2, .int (z1)), (3, .int (z2)), (4, .int (nI p9))] → J p l e rm_X11_refusalOfPairs s m [.ref (ad (55)), .ref (ad (k)), .int (z1), .int (z2)].toArray below meth c A D cy 0 0 (MQ below (gPost D cy A (fun o9 σ2 V2 => σ2 = xS ad tk nt ∧ (rI fun x V2 => V2 = V ∧ x = rfN nt (fun j => V (k + 1) (i + j)) n) o9 V2)) [.ref (ad (55)), .ref (ad (k)), .int (z1), .int (z2)].toArray s 0 0 A) (xS ad tk nt) V (F0 m 3 ls []) := by
    intro n_9_
    induction n_9_ with
    | zero =>
      intro p9 hi hz hm
      exact absurd hm (by omega)
    | succ n_9_ ih_loop =>
      intro p9 hi hz hm ls hl
      refine j_iload C dX11_refusalOfPairs_3 (lv_at hl 4 rfl) ?_
      refine j_iload_n C dX11_refusalOfPairs_5 rfl (lv_at hl 3 rfl) ?_
      refine j_icmp_ge (tgt := 51) C dX11_refusalOfPairs_6 (by decide) (fun c_1_ => ?_) (fun c_1_ => ?_)
      · have n_1_ := Int32.not_lt.mpr c_1_
        obtain rfl : p9 = n := by rw [ez2] at c_1_; have q := leN (by omega) (by omega) c_1_; omega
        refine j_iconst (v := 0) C dX11_refusalOfPairs_51 (by decide) ?_
        refine j_iret C ⟨rfl, _, rfl, ?_⟩ dX11_refusalOfPairs_52
        exact ⟨rfl, hz.symm⟩
      · have n_1_ := Int32.not_le.mp c_1_
        have hlt : p9 < n := by rw [ez2] at c_1_; exact ltN (by omega) c_1_
        refine j_aload_n C dX11_refusalOfPairs_9 rfl (lv_at hl 0 rfl) ?_
        refine j_aload_n C dX11_refusalOfPairs_10 rfl (lv_at hl 1 rfl) ?_
        refine j_iload_n C dX11_refusalOfPairs_11 rfl (lv_at hl 2 rfl) ?_
        refine j_iconst (v := 2) C dX11_refusalOfPairs_12 (by decide) ?_
        refine j_iload C dX11_refusalOfPairs_13 (lv_at hl 4 rfl) ?_
        refine j_imul C dX11_refusalOfPairs_15 ?_
        refine j_iadd C dX11_refusalOfPairs_16 ?_
        refine j_callV (k := k) C [.int (z1 + (2 * (nI p9)))] [.ref (ad (55))] (k_X7_at l ad tk nt V k hg m9 hn h_60_ (z1 + (2 * (nI p9)))) v_RX11_242 (xl (xH (tk := tk) (nt := nt) hg).1.1) ((xH (tk := tk) (nt := nt) hg).2.1) rfl ⟨rfl, rfl, Nat.le_of_ble_eq_true rfl, Nat.le_of_ble_eq_true rfl⟩ rfl hl.1 rfl (Nat.le_of_ble_eq_true rfl) ⟨Nat.le_of_ble_eq_true rfl, Nat.le_of_ble_eq_true rfl⟩ dX11_refusalOfPairs_17 (kI fun x_2_ U2 h_2_ => ?_)
        obtain ⟨eU2, h_2_⟩ := h_2_
        have eU2 := eU2.symm
        subst eU2
        rw [hn, ez1, iI2, atS_in (by omega) (by omega)] at h_2_
        refine j_aload_n C dX11_refusalOfPairs_20 rfl (lv_at hl 1 rfl) ?_
        refine j_iload_n C dX11_refusalOfPairs_21 rfl (lv_at hl 2 rfl) ?_
        refine j_iconst (v := 2) C dX11_refusalOfPairs_22 (by decide) ?_
        refine j_iload C dX11_refusalOfPairs_23 (lv_at hl 4 rfl) ?_
        refine j_imul C dX11_refusalOfPairs_25 ?_
        refine j_iadd C dX11_refusalOfPairs_26 ?_
        refine j_iconst (v := 1) C dX11_refusalOfPairs_27 (by decide) ?_
        refine j_iadd C dX11_refusalOfPairs_28 ?_
        refine j_callV (k := k) C [.int ((z1 + (2 * (nI p9))) + 1)] [.int (x_2_), .ref (ad (55))] (k_X7_at l ad tk nt V k hg m9 hn h_60_ ((z1 + (2 * (nI p9))) + 1)) v_RX11_242 (xl (xH (tk := tk) (nt := nt) hg).1.1) ((xH (tk := tk) (nt := nt) hg).2.1) rfl ⟨rfl, rfl, Nat.le_of_ble_eq_true rfl, Nat.le_of_ble_eq_true rfl⟩ rfl hl.1 rfl (Nat.le_of_ble_eq_true rfl) ⟨Nat.le_of_ble_eq_true rfl, Nat.le_of_ble_eq_true rfl⟩ dX11_refusalOfPairs_29 (kI fun x_3_ U3 h_3_ => ?_)
        obtain ⟨eU3, h_3_⟩ := h_3_
        have eU3 := eU3.symm
        subst eU3
        rw [hn, ez1, iI3, atS_in (by omega) (by omega)] at h_3_
        refine j_callV (k := 55) C [.int (x_2_), .int (x_3_)] [] (k_X11_refusalOfPair l ad tk nt V ng rr c_0_ hX (x_2_) (x_3_)) v_RX11_296 (xl (by decide)) (rfl) rfl ⟨rfl, rfl, Nat.le_of_ble_eq_true rfl, Nat.le_of_ble_eq_true rfl⟩ rfl hl.1 rfl (Nat.le_of_ble_eq_true rfl) ⟨Nat.le_of_ble_eq_true rfl, Nat.le_of_ble_eq_true rfl⟩ dX11_refusalOfPairs_32 (kI fun x_4_ U4 h_4_ => ?_)
        obtain ⟨eU4, h_4_⟩ := h_4_
        have eU4 := eU4.symm
        subst eU4
        rw [h_2_, h_3_] at h_4_
        refine j_istore (lv2 := [(5, .int (x_4_)), (0, .ref (ad (55))), (1, .ref (ad (k))), (2, .int (z1)), (3, .int (z2)), (4, .int (nI p9))]) C dX11_refusalOfPairs_35 hl (by decide) rfl (fun ls hl => ?_)
        refine j_iload C dX11_refusalOfPairs_37 (lv_at hl 0 rfl) ?_
        refine j_if_eq (tgt := 45) C dX11_refusalOfPairs_39 (by decide) (fun c_5_ => ?_) (fun c_5_ => ?_)
        · skip
          refine j_iinc (v := nI (p9 + 1)) (lv2 := [(4, .int (nI (p9 + 1))), (5, .int (x_4_)), (0, .ref (ad (55))), (1, .ref (ad (k))), (2, .int (z1)), (3, .int (z2))]) C dX11_refusalOfPairs_45 hl (k0 := 5) rfl (nI_1 _) (by decide) rfl (fun ls hl => ?_)
          refine j_goto (tgt := 3) C dX11_refusalOfPairs_48 (by decide) ?_
          exact ih_loop (p9 + 1) (by omega) (by rw [rfN, if_pos hz]; exact h_4_.symm.trans c_5_) (by omega) ls (lv_sub hl [2, 3, 4, 5, 0] rfl)
        · skip
          refine j_iload C dX11_refusalOfPairs_42 (lv_at hl 0 rfl) ?_
          refine j_iret C ⟨rfl, _, rfl, ?_⟩ dX11_refusalOfPairs_44
          refine ⟨rfl, ?_⟩
          have e9 : rfN nt (fun j => V (k + 1) (i + j)) (p9 + 1) = x_4_ := by rw [rfN, if_pos hz]; exact h_4_.symm
          rw [← e9]
          exact (rfN_st (by rw [e9]; assumption) n (by omega)).symm
  exact loop (n + 1) 0 (by omega) rfl (by omega) ls (lv_sub hl [1, 2, 3, 4, 0] rfl)
