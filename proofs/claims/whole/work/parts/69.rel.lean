theorem U_read {tk : Nat → Nat} {nt : Nat} {V M : Vt} {ng : Nat} {rr : Nat → Nat} {c_0_ : Nat} (t0 g0 : Nat) (z : Int32) (ht : t0 < nt) (hg : g0 < ng) (hc : c_0_ < 8) (h : REL tk nt V M ng rr c_0_) : REL tk nt (up2 (up2 (up2 (up2 V 30 c_0_ (nI t0)) 31 c_0_ (nI g0)) 32 c_0_ z) 29 0 (nI (c_0_ + 1))) (up2 (up2 (up2 (up2 M 21 c_0_ (nI t0)) 22 c_0_ (nI g0)) 23 c_0_ z) 0 34 (nI (c_0_ + 1))) ng rr (c_0_ + 1) := by
  obtain ⟨a, b, c, d, e, f, g, i⟩ := h
  have n_4_ := a.1.2.1
  obtain ⟨⟨a1, a2, a3⟩, a4, a5, a6, a7, a8, a9, a10⟩ := a
  obtain ⟨b1, b2, b3, b4, b5, b6, b7, b8, b9⟩ := b
  have kV : ∀ x, x < 29 ∨ 32 < x → (up2 (up2 (up2 (up2 V 30 c_0_ (nI t0)) 31 c_0_ (nI g0)) 32 c_0_ z) 29 0 (nI (c_0_ + 1))) x = V x := fun x hx => by rw [up2_k _ _ (by omega), up2_k _ _ (by omega), up2_k _ _ (by omega), up2_k _ _ (by omega)]
  have kM : ∀ x, (1 ≤ x ∧ x < 21) → (up2 (up2 (up2 (up2 M 21 c_0_ (nI t0)) 22 c_0_ (nI g0)) 23 c_0_ z) 0 34 (nI (c_0_ + 1))) x = M x := fun x hx => by rw [up2_k _ _ (by omega), up2_k _ _ (by omega), up2_k _ _ (by omega), up2_k _ _ (by omega)]
  refine ⟨⟨⟨by rw [kV 0 (by omega)]; exact a1, a2, fun q hq => by rw [kV _ (by omega)]; exact a3 q hq⟩, by rw [kV 55 (by omega)]; exact a4, a5, fun t ht => by rw [kV _ (by omega)]; exact a6 t ht, up2_s .., by omega, fun r hr => ?_, fun k hk => by rw [kV _ (by omega)]; exact a10 k hk⟩, ⟨by (repeat rw [up2_ne (by omega)]); exact b1, b2, by (repeat rw [up2_ne (by omega)]); exact b3, b4, fun q hq => by rw [kM 8 (by omega)]; exact b5 q hq, up2_s .., by omega, fun r hr => ?_, fun k hk => by rw [kM 2 (by omega)]; exact b9 k hk⟩, cG_M (fun x hx => kM x (by omega)) (cG_V n_4_ (fun x h_1_ h_2_ => kV x (by omega)) c), cT_M (fun x hx => kM x (by omega)) (cT_V (fun x hx => kV x (by omega)) d), fun r hr => ?_, cS_M (fun x h_1_ h_2_ => kM x (by omega)) (cS_V (fun x h_1_ h_2_ => kV x (by omega)) f), cE_cg (by rw [kV 0 (by omega)]) (by rw [kV 42 (by omega)]) (by rw [kV 55 (by omega)]) (by repeat rw [up2_ne (by omega)]) (by repeat rw [up2_ne (by omega)]) (by repeat rw [up2_ne (by omega)]) g, i⟩
  · by_cases k : r = c_0_
    · rw [k]
      refine ⟨⟨t0, ht, ?_⟩, g0, hg, ?_⟩
      · rw [up2_ne (by omega), up2_ne (by omega), up2_ne (by omega), up2_s]
      · rw [up2_ne (by omega), up2_ne (by omega), up2_s]
    · repeat rw [up2_ne (by omega)]
      exact a9 r (by omega)
  · by_cases k : r = c_0_
    · rw [k]
      refine ⟨⟨t0, ht, ?_⟩, g0, hg, ?_⟩
      · rw [up2_ne (by omega), up2_ne (by omega), up2_ne (by omega), up2_s]
      · rw [up2_ne (by omega), up2_ne (by omega), up2_s]
    · repeat rw [up2_ne (by omega)]
      exact b8 r (by omega)
  · by_cases k : r = c_0_
    · rw [k]
      refine ⟨?_, ?_, ?_⟩
      · rw [up2_ne (by omega), up2_ne (by omega), up2_ne (by omega), up2_s, up2_ne (by omega), up2_ne (by omega), up2_ne (by omega), up2_s]
      · rw [up2_ne (by omega), up2_ne (by omega), up2_s, up2_ne (by omega), up2_ne (by omega), up2_s]
      · rw [up2_ne (by omega), up2_s, up2_ne (by omega), up2_s]
    · repeat rw [up2_ne (by omega)]
      exact e r (by omega)
theorem U_back {tk : Nat → Nat} {nt : Nat} {V M : Vt} {ng : Nat} {rr : Nat → Nat} {c_0_ : Nat} (k : Nat) (hk : k ≤ c_0_) (h : REL tk nt V M ng rr c_0_) : REL tk nt (up2 V 29 0 (nI k)) (up2 M 0 34 (nI k)) ng rr k := by
  obtain ⟨a, b, c, d, e, f, g, i⟩ := h
  have n_4_ := a.1.2.1
  obtain ⟨⟨a1, a2, a3⟩, a4, a5, a6, a7, a8, a9, a10⟩ := a
  obtain ⟨b1, b2, b3, b4, b5, b6, b7, b8, b9⟩ := b
  exact ⟨⟨⟨by rw [up2_ne (by omega)]; exact a1, a2, fun q hq => by rw [up2_ne (by omega)]; exact a3 q hq⟩, by rw [up2_ne (by omega)]; exact a4, a5, fun t ht => by rw [up2_ne (by omega)]; exact a6 t ht, up2_s .., by omega, fun r hr => by rw [up2_k _ _ (by decide), up2_k _ _ (by decide)]; exact a9 r (by omega), fun k hk => by rw [up2_ne (by omega)]; exact a10 k hk⟩, ⟨by rw [up2_ne (by omega)]; exact b1, b2, by rw [up2_ne (by omega)]; exact b3, b4, fun q hq => by rw [up2_k _ _ (by decide)]; exact b5 q hq, up2_s .., by omega, fun r hr => by rw [up2_k _ _ (by decide), up2_k _ _ (by decide)]; exact b8 r (by omega), fun k hk => by rw [up2_k _ _ (by decide)]; exact b9 k hk⟩, cG_M (fun x hx => up2_k _ _ (by omega)) (cG_V n_4_ (fun x h_1_ h_2_ => up2_k _ _ (by omega)) c), cT_M (fun x hx => up2_k _ _ (by omega)) (cT_V (fun x hx => up2_k _ _ (by omega)) d), fun r hr => by rw [up2_k _ _ (by decide), up2_k _ _ (by decide), up2_k _ _ (by decide), up2_k _ _ (by decide), up2_k _ _ (by decide), up2_k _ _ (by decide)]; exact e r (by omega), cS_M (fun x h_1_ h_2_ => up2_k _ _ (by omega)) (cS_V (fun x h_1_ h_2_ => up2_k _ _ (by omega)) f), cE_cg (up2_ne (by omega)) (up2_ne (by omega)) (up2_ne (by omega)) (up2_ne (by omega)) (up2_ne (by omega)) (up2_ne (by omega)) g, i⟩
/-- only sheets change -/
theorem REL_sh {tk : Nat → Nat} {nt : Nat} {V M : Vt} {ng : Nat} {rr : Nat → Nat} {c_0_ : Nat} {V2 M2 : Vt} (hV : ∀ a, a < 34 ∨ 41 < a → V2 a = V a) (hM : ∀ b, b = 0 ∨ 3 < b → M2 b = M b) (hx : ∀ k, k < 4 → ∃ n, n ≤ 60 ∧ V2 (34 + 2 * k) 1 = nI n) (hm : ∀ k, k < 4 → ∃ n, n ≤ 60 ∧ M2 2 k = nI n) (hS : cS V2 M2) (h : REL tk nt V M ng rr c_0_) : REL tk nt V2 M2 ng rr c_0_ := by
  obtain ⟨a, b, c, d, e, f, g, i⟩ := h
  have n_4_ := a.1.2.1
  obtain ⟨⟨a1, a2, a3⟩, a4, a5, a6, a7, a8, a9, a10⟩ := a
  obtain ⟨b1, b2, b3, b4, b5, b6, b7, b8, b9⟩ := b
  exact ⟨⟨⟨by rw [hV 0 (by omega)]; exact a1, a2, fun q hq => by rw [hV _ (by omega)]; exact a3 q hq⟩, by rw [hV 55 (by omega)]; exact a4, a5, fun t ht => by rw [hV _ (by omega)]; exact a6 t ht, by rw [hV 29 (by omega)]; exact a7, a8, fun r hr => by rw [hV 30 (by omega), hV 31 (by omega)]; exact a9 r hr, hx⟩, ⟨by rw [hM 0 (by omega)]; exact b1, b2, by rw [hM 0 (by omega)]; exact b3, b4, fun q hq => by rw [hM 8 (by omega)]; exact b5 q hq, by rw [hM 0 (by omega)]; exact b6, b7, fun r hr => by rw [hM 21 (by omega), hM 22 (by omega)]; exact b8 r hr, hm⟩, cG_M (fun x hx => hM x (by omega)) (cG_V n_4_ (fun x h_1_ h_2_ => hV x (by omega)) c), cT_M (fun x hx => hM x (by omega)) (cT_V (fun x hx => hV x (by omega)) d), cR_M (fun x h_1_ h_2_ => hM x (by omega)) (cR_V (fun x h_1_ h_2_ => hV x (by omega)) e), hS, cE_cg (by rw [hV 0 (by omega)]) (by rw [hV 42 (by omega)]) (by rw [hV 55 (by omega)]) (by rw [hM 0 (by omega)]) (by rw [hM 0 (by omega)]) (by rw [hM 0 (by omega)]) g, i⟩
theorem cut_0 (l : Int32) : cutI l 0 = 0 := by
  unfold cutI
  split
  · rfl
  · split <;> rfl
theorem cut_cut (l z : Int32) : cutI l (cutI l z) = cutI l z := by
  unfold cutI
  split
  · simp
  · split
    · simp
    · rfl
theorem U_sheet {tk : Nat → Nat} {nt : Nat} {V M : Vt} {ng : Nat} {rr : Nat → Nat} {c_0_ : Nat} (k n : Nat) (z1 : Int32) (hk : k < 4) (h_1_ : 0 ≤ z1 ∧ z1 ≤ 2) (hn : n ≤ 60) (h : REL tk nt V M ng rr c_0_) : REL tk nt (rnV V (34 + 2 * k) z1 (nI n) 60) (rnM M k z1 (nI n) 60) ng rr c_0_ := by
  have f := h.2.2.2.2.2.1
  have vO : ∀ a j, a ≠ 34 + 2 * k → a ≠ 34 + 2 * k + 1 → rnV V (34 + 2 * k) z1 (nI n) 60 a j = V a j := fun a j p q => by unfold rnV; rw [if_neg p, if_neg (fun w => q w.1)]
  have v0 : rnV V (34 + 2 * k) z1 (nI n) 60 (34 + 2 * k) 0 = z1 := by unfold rnV; rw [if_pos rfl, if_pos rfl]
  have v1 : rnV V (34 + 2 * k) z1 (nI n) 60 (34 + 2 * k) 1 = nI n := by unfold rnV; rw [if_pos rfl, if_neg (by decide), if_pos rfl]
  have v2 : ∀ j, j < 60 → rnV V (34 + 2 * k) z1 (nI n) 60 (34 + 2 * k + 1) j = 0 := fun j hj => by unfold rnV; rw [if_neg (by omega), if_pos ⟨rfl, hj⟩]
  have mO : ∀ a j, (a = 1 ∨ a = 2 → j ≠ k) → (a = 3 → ¬ (60 * k ≤ j ∧ j < 60 * k + 60)) → rnM M k z1 (nI n) 60 a j = M a j := fun a j p q => by unfold rnM; rw [if_neg (fun w => p (Or.inl w.1) w.2), if_neg (fun w => p (Or.inr w.1) w.2), if_neg (fun w => q w.1 w.2)]
  have m1 : rnM M k z1 (nI n) 60 1 k = z1 := by unfold rnM; rw [if_pos ⟨rfl, rfl⟩]
  have m2 : rnM M k z1 (nI n) 60 2 k = nI n := by unfold rnM; rw [if_neg (by omega), if_pos ⟨rfl, rfl⟩]
  have m3 : ∀ j, j < 60 → rnM M k z1 (nI n) 60 3 (60 * k + j) = 0 := fun j hj => by unfold rnM; rw [if_neg (by omega), if_neg (by omega), if_pos (by omega)]
  refine REL_sh (fun a ha => funext fun j => vO a j (by omega) (by omega)) (fun b hb => funext fun j => mO b j (by omega) (by omega)) (fun q hq => ?_) (fun q hq => ?_) (fun q hq => ?_) h
  · by_cases e : q = k
    · rw [e, v1]; exact ⟨n, hn, rfl⟩
    · rw [vO _ _ (by omega) (by omega)]; exact h.1.2.2.2.2.2.2.2 q hq
  · by_cases e : q = k
    · rw [e, m2]; exact ⟨n, hn, rfl⟩
    · rw [mO _ _ (fun _ => e) (by omega)]; exact h.2.1.2.2.2.2.2.2.2.2 q hq
  · by_cases e : q = k
    · rw [e, v0, v1, m1, m2]
      exact Or.inr ⟨⟨rfl, h_1_⟩, n, hn, rfl, rfl, fun j hj => by rw [v2 j (by omega), m3 j (by omega)]; exact ⟨rfl, cut_0 z1⟩⟩
    · rw [vO _ _ (by omega) (by omega), vO _ _ (by omega) (by omega), mO 1 _ (fun _ => e) (by omega), mO 2 _ (fun _ => e) (by omega)]
      rcases f q hq with w | ⟨w1, n_2_, w2, w3, w4, w5⟩
      · exact Or.inl w
      · exact Or.inr ⟨w1, n_2_, w2, w3, w4, fun j hj => by rw [vO _ _ (by omega) (by omega), mO 3 _ (by omega) (by omega)]; exact w5 j hj⟩
theorem U_lose {tk : Nat → Nat} {nt : Nat} {V M : Vt} {ng : Nat} {rr : Nat → Nat} {c_0_ : Nat} (k : Nat) (hk : k < 4) (h : REL tk nt V M ng rr c_0_) : REL tk nt (if V (34 + 2 * k) 0 = -1 then V else up2 (up2 V (34 + 2 * k) 0 (-1)) (34 + 2 * k) 1 0) (up2 M 1 k (-9)) ng rr c_0_ := by
  have f := h.2.2.2.2.2.1
  have key : ∀ (W : Vt), (∀ a j, a ≠ 34 + 2 * k → W a j = V a j) → W (34 + 2 * k) 0 = -1 → (∃ n, n ≤ 60 ∧ W (34 + 2 * k) 1 = nI n) → REL tk nt W (up2 M 1 k (-9)) ng rr c_0_ := by
    intro W vO v0 v1
    refine REL_sh (fun a ha => funext fun j => vO a j (by omega)) (fun b hb => up2_k _ _ (by omega)) (fun q hq => ?_) (fun q hq => by rw [up2_k _ _ (by decide)]; exact h.2.1.2.2.2.2.2.2.2.2 q hq) (fun q hq => ?_) h
    · by_cases e : q = k
      · rw [e]; exact v1
      · rw [vO _ _ (by omega)]; exact h.1.2.2.2.2.2.2.2 q hq
    · by_cases e : q = k
      · rw [e, v0, up2_s]; exact Or.inl ⟨rfl, rfl⟩
      · rw [vO _ _ (by omega), vO _ _ (by omega), up2_ne (by omega), up2_k _ _ (by decide), up2_k _ _ (by decide)]
        rcases f q hq with w | ⟨w1, n_2_, w2, w3, w4, w5⟩
        · exact Or.inl w
        · exact Or.inr ⟨w1, n_2_, w2, w3, w4, fun j hj => by rw [vO _ _ (by omega)]; exact w5 j hj⟩
  split
  · rename_i e
    exact key V (fun _ _ _ => rfl) e (h.1.2.2.2.2.2.2.2 k hk)
  · exact key _ (fun a j p => by rw [up2_k _ _ p, up2_k _ _ p]) (by rw [up2_ne (by omega), up2_s]) ⟨0, by omega, by rw [up2_s]; rfl⟩
theorem U_put {tk : Nat → Nat} {nt : Nat} {V M : Vt} {ng : Nat} {rr : Nat → Nat} {c_0_ : Nat} (k n i : Nat) (z : Int32) (hk : k < 4) (hi : i < n) (hn : n ≤ 60) (e0 : V (34 + 2 * k) 0 = M 1 k) (em : M 2 k = nI n) (h : REL tk nt V M ng rr c_0_) (hl : ¬ M 1 k = -9) : REL tk nt (up2 V (34 + 2 * k + 1) i (cutI (V (34 + 2 * k) 0) z)) (up2 M 3 (60 * k + i) (cutI (M 1 k) z)) ng rr c_0_ := by
  have f := h.2.2.2.2.2.1
  rw [e0]
  refine REL_sh (fun a ha => up2_k _ _ (by omega)) (fun b hb => up2_k _ _ (by omega)) (fun q hq => by rw [up2_k _ _ (by omega)]; exact h.1.2.2.2.2.2.2.2 q hq) (fun q hq => by rw [up2_k _ _ (by decide)]; exact h.2.1.2.2.2.2.2.2.2.2 q hq) (fun q hq => ?_) h
  rw [up2_k _ _ (show 34 + 2 * q ≠ 34 + 2 * k + 1 by omega), up2_k _ _ (show 1 ≠ 3 by decide), up2_k _ _ (show 2 ≠ 3 by decide)]
  rcases f q hq with w | ⟨w1, n_2_, w2, w3, w4, w5⟩
  · exact Or.inl w
  · refine Or.inr ⟨w1, n_2_, w2, w3, w4, fun j hj => ?_⟩
    by_cases c : q = k ∧ j = i
    · rw [c.1, c.2, up2_s, up2_s]; exact ⟨rfl, cut_cut _ _⟩
    · rw [up2_ne (by omega), up2_ne (by omega)]; exact w5 j hj
theorem U_copy {tk : Nat → Nat} {nt : Nat} {V M : Vt} {ng : Nat} {rr : Nat → Nat} {c_0_ : Nat} (k k2 n_1_ n_2_ i j n : Nat) (hk : k < 4) (hk2 : k2 < 4) (hn1 : n_1_ ≤ 60) (hn2 : n_2_ ≤ 60) (em1 : M 2 k = nI n_1_) (em2 : M 2 k2 = nI n_2_) (l1 : ¬ M 1 k = -9) (l2 : ¬ M 1 k2 = -9) (el : M 1 k = M 1 k2) (hi : i + n ≤ n_1_) (hj : j + n ≤ n_2_) (h : REL tk nt V M ng rr c_0_) : REL tk nt (tkV V (34 + 2 * k2 + 1) (34 + 2 * k + 1) (V (34 + 2 * k2) 0) i j 0 n) (cpM M (60 * k + i) (60 * k2 + j) 0 n) ng rr c_0_ := by
  have f := h.2.2.2.2.2.1
  have vO : ∀ a q, ¬ (a = 34 + 2 * k2 + 1 ∧ j ≤ q ∧ q < j + n) → tkV V (34 + 2 * k2 + 1) (34 + 2 * k + 1) (V (34 + 2 * k2) 0) i j 0 n a q = V a q := fun a q p => by unfold tkV; rw [if_neg (fun w => p ⟨w.1, by omega, w.2.2⟩)]
  have vI : ∀ q, j ≤ q → q < j + n → tkV V (34 + 2 * k2 + 1) (34 + 2 * k + 1) (V (34 + 2 * k2) 0) i j 0 n (34 + 2 * k2 + 1) q = cutI (V (34 + 2 * k2) 0) (V (34 + 2 * k + 1) (i + (q - j))) := fun q p1 p2 => by unfold tkV; rw [if_pos ⟨rfl, by omega, p2⟩]
  have mO : ∀ a q, ¬ (a = 3 ∧ 60 * k2 + j ≤ q ∧ q < 60 * k2 + j + n) → cpM M (60 * k + i) (60 * k2 + j) 0 n a q = M a q := fun a q p => by unfold cpM; rw [if_neg (fun w => p ⟨w.1, by omega, w.2.2⟩)]
  have mI : ∀ q, j ≤ q → q < j + n → cpM M (60 * k + i) (60 * k2 + j) 0 n 3 (60 * k2 + q) = M 3 (60 * k + (i + (q - j))) := fun q p1 p2 => by unfold cpM; rw [if_pos ⟨rfl, by omega, by omega⟩, show 60 * k + i + (60 * k2 + q - (60 * k2 + j)) = 60 * k + (i + (q - j)) by omega]
  obtain ⟨x_1_, m1, y1, y2, y3, y4⟩ := (f k hk).resolve_left (fun w => l1 w.2)
  obtain ⟨x_2_, m2, w1, w2, w3, w4⟩ := (f k2 hk2).resolve_left (fun w => l2 w.2)
  have en1 : m1 = n_1_ := nI_inj (by omega) (by omega) (y3.symm.trans em1)
  have en2 : m2 = n_2_ := nI_inj (by omega) (by omega) (w3.symm.trans em2)
  refine REL_sh (fun a ha => funext fun q => vO a q (by omega)) (fun b hb => funext fun q => mO b q (by omega)) (fun q hq => by rw [vO _ _ (by omega)]; exact h.1.2.2.2.2.2.2.2 q hq) (fun q hq => by rw [mO _ _ (by omega)]; exact h.2.1.2.2.2.2.2.2.2.2 q hq) (fun q hq => ?_) h
  rw [vO _ _ (by omega), vO _ _ (by omega), mO 1 _ (by omega), mO 2 _ (by omega)]
  rcases f q hq with w | ⟨v1, m3, v2, v3, v4, v5⟩
  · exact Or.inl w
  · refine Or.inr ⟨v1, m3, v2, v3, v4, fun p hp => ?_⟩
    by_cases c : q = k2 ∧ j ≤ p ∧ p < j + n
    · obtain ⟨rfl, c_2_, c_3_⟩ := c
      have z := y4 (i + (p - j)) (by omega)
      rw [vI p c_2_ c_3_, mI p c_2_ c_3_, x_2_.1, ← el, z.1, z.2]
      exact ⟨rfl, rfl⟩
    · rw [vO _ _ (by omega), mO 3 _ (by omega)]; exact v5 p hp
