/-- all cells stay but those of rings that don't lie -/
def gbE (ng : Nat) (rr : Nat → Nat) (V V2 : Vt) : Prop := ∀ a j, (∀ g, g < ng → (a = 0 + 2 + 3 * g + 1 ∨ a = 0 + 2 + 3 * g + 2) → j < rr g) → V2 a j = V a j
theorem gbE.rf {ng : Nat} {rr : Nat → Nat} {V : Vt} : gbE ng rr V V := fun _ _ _ => rfl
theorem gbE.tr {ng : Nat} {rr : Nat → Nat} {V V2 V3 : Vt} (h : gbE ng rr V V2) (h_2_ : gbE ng rr V2 V3) : gbE ng rr V V3 := fun a j q => (h_2_ a j q).trans (h a j q)
theorem gbE.row {ng : Nat} {rr : Nat → Nat} {V V2 : Vt} (h : gbE ng rr V V2) {a : Nat} (ha : ∀ g, g < ng → a ≠ 0 + 2 + 3 * g + 1 ∧ a ≠ 0 + 2 + 3 * g + 2) : V2 a = V a := by
  funext j
  exact h a j (fun g hg q => absurd q (by have := ha g hg; omega))
theorem gbE.ring {ng : Nat} {rr : Nat → Nat} {V V2 : Vt} (h : gbE ng rr V V2) {g j : Nat} (hj : j < rr g) (i : Nat) (hi : i = 1 ∨ i = 2) : V2 (0 + 2 + 3 * g + i) j = V (0 + 2 + 3 * g + i) j := by
  refine h _ j (fun g2 _ q => ?_)
  have e : g2 = g := by omega
  rw [e]; exact hj
theorem gbE_had {ng : Nat} {rr : Nat → Nat} {V V2 : Vt} {g : Nat} {x y : Int32} (hg : g < ng) (h : V2 = if rr g < 8 then up2 (up2 V (0 + 2 + 3 * g + 1) (rr g) x) (0 + 2 + 3 * g + 2) (rr g) y else V) : gbE ng rr V V2 := by
  intro a j q
  rw [h]
  split
  · unfold up2
    rw [if_neg (fun p => by have := q g hg (Or.inr p.1); omega), if_neg (fun p => by have := q g hg (Or.inl p.1); omega)]
  · rfl
theorem hldI_cong {f g : Nat → Int32} : ∀ r, (∀ q, q < r → f q = g q) → hldI f r = hldI g r
  | 0, _ => rfl
  | r + 1, h => by
    have ih := hldI_cong r (fun q hq => h q (by omega))
    rw [hldI, hldI, ih, h r (by omega)]
    rcases hldI_rng g r with e | ⟨q, hq, e⟩
    · simp [e]
    · by_cases hb : q < 2 ^ 31
      · rw [e, nI_clamp hb, h q (by omega)]
      · have hm : (nI q).toNatClampNeg = (nI q).toNatClampNeg := rfl
        have hle : (nI q).toNatClampNeg ≤ q := by
          unfold nI
          have h_9_ := Int32.toNatClampNeg_lt (Int32.ofNat q)
          omega
        rw [e, h _ (by omega)]
theorem holI_cong {f f2 g g2 : Nat → Int32} {r : Nat} (hr : r < 2 ^ 31) (hf : ∀ q, q < r → f q = f2 q) (hg : ∀ q, q < r → g q = g2 q) : holI f g r = holI f2 g2 r := by
  unfold holI
  rw [hldI_cong r hg]
  split
  · rfl
  · rename_i hn
    rcases hldI_rng g2 r with e | ⟨q, hq, e⟩
    · exact absurd e hn
    · rw [e, nI_clamp (by omega), hf q hq]
/-- thrower t of reach z has girl g by one throw now -/
def hdP (V : Vt) (rr : Nat → Nat) (t g : Nat) (z : Int32) : Prop := rr g < 8 ∧ holI (upd (V (0 + 2 + 3 * g + 1)) (rr g) (nI t)) (upd (V (0 + 2 + 3 * g + 2)) (rr g) (near z (V (0 + 2 + 3 * g) 0) (V (0 + 2 + 3 * g) 1) (V 0 0))) (rr g + 1) = nI t
noncomputable def hdD (V : Vt) (rr : Nat → Nat) (t g : Nat) (z : Int32) : Int32 := @ite Int32 (hdP V rr t g z) (Classical.propDecidable _) 1 0
theorem hdP_gb {ng : Nat} {rr : Nat → Nat} {V V2 : Vt} (h : gbE ng rr V V2) (t g : Nat) (z : Int32) : hdP V2 rr t g z ↔ hdP V rr t g z := by
  unfold hdP
  by_cases h_8_ : rr g < 8
  · have e0 : V2 (0 + 2 + 3 * g) = V (0 + 2 + 3 * g) := h.row (fun g2 _ => by omega)
    have e1 : V2 0 = V 0 := h.row (fun g2 _ => by omega)
    rw [e0, e1, holI_cong (f2 := upd (V (0 + 2 + 3 * g + 1)) (rr g) (nI t)) (g2 := upd (V (0 + 2 + 3 * g + 2)) (rr g) (near z (V (0 + 2 + 3 * g) 0) (V (0 + 2 + 3 * g) 1) (V 0 0))) (by omega)]
    · intro q hq
      by_cases e : q = rr g
      · simp [upd, e]
      · simp only [upd, if_neg e]; exact h.ring (by omega) 1 (Or.inl rfl)
    · intro q hq
      by_cases e : q = rr g
      · simp [upd, e]
      · simp only [upd, if_neg e]; exact h.ring (by omega) 2 (Or.inr rfl)
  · exact ⟨fun q => absurd q.1 h_8_, fun q => absurd q.1 h_8_⟩
theorem XI_gb {tk : Nat → Nat} {nt : Nat} {V V2 : Vt} {ng : Nat} {rr : Nat → Nat} {c_0_ : Nat} (h : gbE ng rr V V2) (hX : XI tk nt V ng rr c_0_) : XI tk nt V2 ng rr c_0_ := by
  obtain ⟨⟨a1, a2, a3⟩, b, c, d, e, f, g, k⟩ := hX
  have e0 : V2 0 = V 0 := h.row (fun g2 _ => by omega)
  have e29 : V2 29 = V 29 := h.row (fun g2 _ => by omega)
  have e30 : V2 30 = V 30 := h.row (fun g2 _ => by omega)
  have e31 : V2 31 = V 31 := h.row (fun g2 _ => by omega)
  have e55 : V2 55 = V 55 := h.row (fun g2 _ => by omega)
  refine ⟨⟨by rw [e0]; exact a1, a2, fun j hj => ?_⟩, by rw [e55]; exact b, c, fun t ht => ⟨(d t ht).1, ?_⟩, by rw [e29]; exact e, f, fun r hr => by rw [e30, e31]; exact g r hr, fun q hq => ?_⟩
  · rw [h.row (a := 0 + 2 + 3 * j) (fun g2 _ => by omega)]; exact a3 j hj
  · rw [h.row (a := 56 + t) (fun g2 _ => by omega)]; exact (d t ht).2
  · rw [h.row (a := 34 + 2 * q) (fun g2 _ => by omega)]; exact k q hq
