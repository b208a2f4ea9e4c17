theorem up2_ne {V : Vt} {a i b j : Nat} {x : Int32} (h : ¬ (b = a ∧ j = i)) : up2 V a i x b j = V b j := if_neg h
def cG (V M : Vt) (ng : Nat) (rr : Nat → Nat) : Prop := ∀ g, g < ng → (V (0 + 2 + 3 * g) 0 = M 4 g ∧ 1 ≤ M 4 g ∧ M 4 g ≤ 9) ∧ (V (0 + 2 + 3 * g) 1 = M 5 g ∧ 0 ≤ M 5 g ∧ M 5 g ≤ 9) ∧ ∀ j, j < rr g → V (0 + 2 + 3 * g + 1) j = mW M g j ∧ V (0 + 2 + 3 * g + 2) j = mM M g j ∧ ¬ mW M g j = -9
def cT (tk : Nat → Nat) (nt : Nat) (V M : Vt) : Prop := ∀ t, t < nt → kdI (tk t) = M 6 t ∧ V (56 + t) 1 = M 7 t ∧ 1 ≤ M 7 t ∧ M 7 t ≤ 9
def cR (V M : Vt) (c_0_ : Nat) : Prop := ∀ r, r < c_0_ → V 30 r = M 21 r ∧ V 31 r = M 22 r ∧ V 32 r = M 23 r
def cS (V M : Vt) : Prop := ∀ k, k < 4 → (V (34 + 2 * k) 0 = -1 ∧ M 1 k = -9) ∨ ((V (34 + 2 * k) 0 = M 1 k ∧ 0 ≤ M 1 k ∧ M 1 k ≤ 2) ∧ ∃ n, n ≤ 60 ∧ V (34 + 2 * k) 1 = nI n ∧ M 2 k = nI n ∧ ∀ j, j < n → V (34 + 2 * k + 1) j = M 3 (60 * k + j) ∧ cutI (M 1 k) (M 3 (60 * k + j)) = M 3 (60 * k + j))
def cE (V M : Vt) : Prop := (V 0 0 = M 0 5 ∧ 0 ≤ M 0 5 ∧ M 0 5 ≤ 3) ∧ V 42 0 = M 0 1 ∧ V 55 9 = M 0 0
/-- the two tell the same -/
def REL (tk : Nat → Nat) (nt : Nat) (V M : Vt) (ng : Nat) (rr : Nat → Nat) (c_0_ : Nat) : Prop := XI tk nt V ng rr c_0_ ∧ MI M ng rr nt c_0_ ∧ cG V M ng rr ∧ cT tk nt V M ∧ cR V M c_0_ ∧ cS V M ∧ cE V M ∧ (nt = 0 ↔ ng = 0)
theorem cG_cg {V V2 M M2 : Vt} {ng : Nat} {rr : Nat → Nat} (hV : ∀ g, g < ng → V2 (0 + 2 + 3 * g) 0 = V (0 + 2 + 3 * g) 0 ∧ V2 (0 + 2 + 3 * g) 1 = V (0 + 2 + 3 * g) 1 ∧ ∀ j, j < rr g → V2 (0 + 2 + 3 * g + 1) j = V (0 + 2 + 3 * g + 1) j ∧ V2 (0 + 2 + 3 * g + 2) j = V (0 + 2 + 3 * g + 2) j) (hM : ∀ g, g < ng → M2 4 g = M 4 g ∧ M2 5 g = M 5 g ∧ ∀ j, j < rr g → mW M2 g j = mW M g j ∧ mM M2 g j = mM M g j) (h : cG V M ng rr) : cG V2 M2 ng rr := by
  intro g hg
  obtain ⟨a, b, c⟩ := h g hg
  obtain ⟨v1, v2, v3⟩ := hV g hg
  obtain ⟨m1, m2, m3⟩ := hM g hg
  rw [v1, v2, m1, m2]
  refine ⟨a, b, fun j hj => ?_⟩
  rw [(v3 j hj).1, (v3 j hj).2, (m3 j hj).1, (m3 j hj).2]
  exact c j hj
theorem cG_V {V V2 M : Vt} {ng : Nat} {rr : Nat → Nat} (h_4_ : ng ≤ 4) (hV : ∀ a, 2 ≤ a → a ≤ 13 → V2 a = V a) (h : cG V M ng rr) : cG V2 M ng rr :=
  cG_cg (fun g hg => by rw [hV (0 + 2 + 3 * g) (by omega) (by omega), hV (0 + 2 + 3 * g + 1) (by omega) (by omega), hV (0 + 2 + 3 * g + 2) (by omega) (by omega)]; exact ⟨rfl, rfl, fun _ _ => ⟨rfl, rfl⟩⟩) (fun _ _ => ⟨rfl, rfl, fun _ _ => ⟨rfl, rfl⟩⟩) h
theorem cG_M {V M M2 : Vt} {ng : Nat} {rr : Nat → Nat} (hM : ∀ b, b = 4 ∨ b = 5 ∨ b = 9 ∨ b = 10 → M2 b = M b) (h : cG V M ng rr) : cG V M2 ng rr :=
  cG_cg (fun _ _ => ⟨rfl, rfl, fun _ _ => ⟨rfl, rfl⟩⟩) (fun g _ => by unfold mW mM; rw [hM 4 (by decide), hM 5 (by decide), hM 9 (by decide), hM 10 (by decide)]; exact ⟨rfl, rfl, fun _ _ => ⟨rfl, rfl⟩⟩) h
theorem cT_cg {tk : Nat → Nat} {nt : Nat} {V V2 M M2 : Vt} (hV : ∀ t, t < nt → V2 (56 + t) 1 = V (56 + t) 1) (hM : ∀ t, t < nt → M2 6 t = M 6 t ∧ M2 7 t = M 7 t) (h : cT tk nt V M) : cT tk nt V2 M2 := fun t ht => by rw [hV t ht, (hM t ht).1, (hM t ht).2]; exact h t ht
theorem cT_V {tk : Nat → Nat} {nt : Nat} {V V2 M : Vt} (hV : ∀ a, 56 ≤ a → V2 a = V a) (h : cT tk nt V M) : cT tk nt V2 M := cT_cg (fun t _ => by rw [hV (56 + t) (by omega)]) (fun _ _ => ⟨rfl, rfl⟩) h
theorem cT_M {tk : Nat → Nat} {nt : Nat} {V M M2 : Vt} (hM : ∀ b, b = 6 ∨ b = 7 → M2 b = M b) (h : cT tk nt V M) : cT tk nt V M2 := cT_cg (fun _ _ => rfl) (fun t _ => by rw [hM 6 (by decide), hM 7 (by decide)]; exact ⟨rfl, rfl⟩) h
theorem cR_V {V V2 M : Vt} {c_0_ : Nat} (hV : ∀ a, 30 ≤ a → a ≤ 32 → V2 a = V a) (h : cR V M c_0_) : cR V2 M c_0_ := fun r hr => by rw [hV 30 (by decide) (by decide), hV 31 (by decide) (by decide), hV 32 (by decide) (by decide)]; exact h r hr
theorem cR_M {V M M2 : Vt} {c_0_ : Nat} (hM : ∀ b, 21 ≤ b → b ≤ 23 → M2 b = M b) (h : cR V M c_0_) : cR V M2 c_0_ := fun r hr => by rw [hM 21 (by decide) (by decide), hM 22 (by decide) (by decide), hM 23 (by decide) (by decide)]; exact h r hr
theorem cS_V {V V2 M : Vt} (hV : ∀ a, 34 ≤ a → a ≤ 41 → V2 a = V a) (h : cS V M) : cS V2 M := fun k hk => by rw [hV (34 + 2 * k) (by omega) (by omega), hV (34 + 2 * k + 1) (by omega) (by omega)]; exact h k hk
theorem cS_M {V M M2 : Vt} (hM : ∀ b, 1 ≤ b → b ≤ 3 → M2 b = M b) (h : cS V M) : cS V M2 := fun k hk => by rw [hM 1 (by decide) (by decide), hM 2 (by decide) (by decide), hM 3 (by decide) (by decide)]; exact h k hk
theorem cE_cg {V V2 M M2 : Vt} (h_1_ : V2 0 0 = V 0 0) (h_2_ : V2 42 0 = V 42 0) (h_3_ : V2 55 9 = V 55 9) (m1 : M2 0 5 = M 0 5) (m2 : M2 0 1 = M 0 1) (m3 : M2 0 0 = M 0 0) (h : cE V M) : cE V2 M2 := by unfold cE; rw [h_1_, h_2_, h_3_, m1, m2, m3]; exact h
theorem XI_cg {tk : Nat → Nat} {nt : Nat} {V V2 : Vt} {ng : Nat} {rr : Nat → Nat} {c_0_ : Nat} (h_01_ : V2 0 1 = V 0 1) (hg : ∀ g, g < ng → V2 (0 + 2 + 3 * g) 2 = V (0 + 2 + 3 * g) 2) (h_55_ : V2 55 8 = V 55 8) (ht : ∀ t, t < nt → V2 (56 + t) 0 = V (56 + t) 0) (h_29_ : V2 29 0 = V 29 0) (h_30_ : ∀ r, r < c_0_ → V2 30 r = V 30 r ∧ V2 31 r = V 31 r) (hs : ∀ k, k < 4 → V2 (34 + 2 * k) 1 = V (34 + 2 * k) 1) (h : XI tk nt V ng rr c_0_) : XI tk nt V2 ng rr c_0_ := by
  obtain ⟨⟨a1, a2, a3⟩, b, c, d, e, f, g, i⟩ := h
  refine ⟨⟨h_01_.trans a1, a2, fun j hj => by rw [hg j hj]; exact a3 j hj⟩, h_55_.trans b, c, fun t h => by rw [ht t h]; exact d t h, h_29_.trans e, f, fun r hr => by rw [(h_30_ r hr).1, (h_30_ r hr).2]; exact g r hr, fun k hk => by rw [hs k hk]; exact i k hk⟩
/-- what the system only jots down -/
def scX (ng : Nat) (rr : Nat → Nat) (V V2 : Vt) : Prop := ∀ a j, (a < 14 ∨ 28 < a) → (a < 43 ∨ 53 < a) → (∀ g, g < ng → (a = 0 + 2 + 3 * g + 1 ∨ a = 0 + 2 + 3 * g + 2) → j < rr g) → V2 a j = V a j
theorem scX.gb {ng : Nat} {rr : Nat → Nat} {V V2 : Vt} (h : gbE ng rr V V2) : scX ng rr V V2 := fun a j _ _ q => h a j q
theorem scX.pr {ng : Nat} {rr : Nat → Nat} {V V2 : Vt} (h : prE ng rr V V2) : scX ng rr V V2 := fun a j _ r q => h a j (by omega) q
theorem scX.fF {ng : Nat} {rr : Nat → Nat} {V V2 : Vt} (h : frF V V2) : scX ng rr V V2 := fun a j p _ _ => by rw [h a p]
theorem scX.fT {ng : Nat} {rr : Nat → Nat} {V V2 : Vt} (h : frT V V2) : scX ng rr V V2 := fun a j _ r _ => by rw [h a (by omega)]
theorem scX.tr {ng : Nat} {rr : Nat → Nat} {V V2 V3 : Vt} (h : scX ng rr V V2) (h_2_ : scX ng rr V2 V3) : scX ng rr V V3 := fun a j p q r => (h_2_ a j p q r).trans (h a j p q r)
theorem scE.fD {ng : Nat} {rr : Nat → Nat} {V V2 : Vt} (h : frD V V2) : scE ng rr V V2 := fun a j q => h a j (fun e => q.2.1 (by omega)) (fun e => q.2.1 (by omega)) (fun e => q.2.2 (by omega))
theorem REL_X {tk : Nat → Nat} {nt : Nat} {V M : Vt} {ng : Nat} {rr : Nat → Nat} {c_0_ : Nat} {V2 : Vt} (h : REL tk nt V M ng rr c_0_) (s : scX ng rr V V2) : REL tk nt V2 M ng rr c_0_ := by
  obtain ⟨a, b, c, d, e, f, g, i⟩ := h
  have n_4_ := a.1.2.1
  have r : ∀ a, (a < 2 ∨ 28 < a) → (a < 43 ∨ 53 < a) → V2 a = V a := fun a p q => funext fun j => s a j (by omega) q (fun g hg z => by omega)
  have r2 : ∀ g j, g < ng → V2 (0 + 2 + 3 * g) j = V (0 + 2 + 3 * g) j := fun g j hg => s _ j (by omega) (by omega) (fun k hk z => by omega)
  have r3 : ∀ g j i, g < ng → j < rr g → (i = 1 ∨ i = 2) → V2 (0 + 2 + 3 * g + i) j = V (0 + 2 + 3 * g + i) j := fun g j i hg hj hi => s _ j (by omega) (by omega) (fun k hk z => (show k = g by omega) ▸ hj)
  refine ⟨XI_cg (by rw [r 0 (by omega) (by omega)]) (fun g hg => r2 g 2 hg) (by rw [r 55 (by omega) (by omega)]) (fun t _ => by rw [r _ (by omega) (by omega)]) (by rw [r 29 (by omega) (by omega)]) (fun _ _ => by rw [r 30 (by omega) (by omega), r 31 (by omega) (by omega)]; exact ⟨rfl, rfl⟩) (fun k hk => by rw [r _ (by omega) (by omega)]) a, b, cG_cg (fun g hg => ⟨r2 g 0 hg, r2 g 1 hg, fun j hj => ⟨r3 g j 1 hg hj (Or.inl rfl), r3 g j 2 hg hj (Or.inr rfl)⟩⟩) (fun _ _ => ⟨rfl, rfl, fun _ _ => ⟨rfl, rfl⟩⟩) c, cT_V (fun x hx => r x (by omega) (by omega)) d, cR_V (fun x h_1_ h_2_ => r x (by omega) (by omega)) e, cS_V (fun x h_1_ h_2_ => r x (by omega) (by omega)) f, cE_cg (by rw [r 0 (by omega) (by omega)]) (by rw [r 42 (by omega) (by omega)]) (by rw [r 55 (by omega) (by omega)]) rfl rfl rfl g, i⟩
theorem REL_M {tk : Nat → Nat} {nt : Nat} {V M : Vt} {ng : Nat} {rr : Nat → Nat} {c_0_ : Nat} {M2 : Vt} (h : REL tk nt V M ng rr c_0_) (s : scE ng rr M M2) : REL tk nt V M2 ng rr c_0_ := by
  obtain ⟨a, b, c, d, e, f, g, i⟩ := h
  exact ⟨a, MI_sc s b, cG_cg (fun _ _ => ⟨rfl, rfl, fun _ _ => ⟨rfl, rfl⟩⟩) (fun g hg => ⟨by rw [s.row (by omega)], by rw [s.row (by omega)], fun j hj => s.ring hg hj⟩) c, cT_M (fun b hb => s.row (by omega)) d, cR_M (fun b h_1_ h_2_ => s.row (by omega)) e, cS_M (fun b h_1_ h_2_ => s.row (by omega)) f, cE_cg rfl rfl rfl (s.o (by omega)) (s.o (by omega)) (s.o (by omega)) g, i⟩
theorem U_fault {tk : Nat → Nat} {nt : Nat} {V M : Vt} {ng : Nat} {rr : Nat → Nat} {c_0_ : Nat} (z : Int32) (h : REL tk nt V M ng rr c_0_) : REL tk nt (up2 V 55 9 z) (up2 M 0 0 z) ng rr c_0_ := by
  obtain ⟨a, b, c, d, e, f, g, i⟩ := h
  have n_4_ := a.1.2.1
  exact ⟨XI_cg (up2_ne (by omega)) (fun g hg => up2_ne (by omega)) (up2_ne (by omega)) (fun t _ => up2_ne (by omega)) (up2_ne (by omega)) (fun _ _ => ⟨up2_ne (by omega), up2_ne (by omega)⟩) (fun k hk => up2_ne (by omega)) a, MI_cong (fun x hx => up2_k _ _ (by omega)) (up2_ne (by omega)) (up2_ne (by omega)) (up2_ne (by omega)) b, cG_M (fun b hb => up2_k _ _ (by omega)) (cG_V n_4_ (fun x h_1_ h_2_ => up2_k _ _ (by omega)) c), cT_M (fun b hb => up2_k _ _ (by omega)) (cT_cg (fun t _ => up2_ne (by omega)) (fun _ _ => ⟨rfl, rfl⟩) d), cR_M (fun b h_1_ h_2_ => up2_k _ _ (by omega)) (cR_V (fun x h_1_ h_2_ => up2_k _ _ (by omega)) e), cS_M (fun b h_1_ h_2_ => up2_k _ _ (by omega)) (cS_V (fun x h_1_ h_2_ => up2_k _ _ (by omega)) f), ⟨⟨by rw [up2_ne (by omega), up2_ne (by omega)]; exact g.1.1, by rw [up2_ne (by omega)]; exact g.1.2⟩, by rw [up2_ne (by omega), up2_ne (by omega)]; exact g.2.1, by rw [up2_s, up2_s]⟩, i⟩
theorem U_trace {tk : Nat → Nat} {nt : Nat} {V M : Vt} {ng : Nat} {rr : Nat → Nat} {c_0_ : Nat} (z : Int32) (h : REL tk nt V M ng rr c_0_) : REL tk nt (up2 V 42 0 z) (up2 M 0 1 z) ng rr c_0_ := by
  obtain ⟨a, b, c, d, e, f, g, i⟩ := h
  have n_4_ := a.1.2.1
  exact ⟨XI_cg (up2_ne (by omega)) (fun g hg => up2_ne (by omega)) (up2_ne (by omega)) (fun t _ => up2_ne (by omega)) (up2_ne (by omega)) (fun _ _ => ⟨up2_ne (by omega), up2_ne (by omega)⟩) (fun k hk => up2_ne (by omega)) a, MI_cong (fun x hx => up2_k _ _ (by omega)) (up2_ne (by omega)) (up2_ne (by omega)) (up2_ne (by omega)) b, cG_M (fun b hb => up2_k _ _ (by omega)) (cG_V n_4_ (fun x h_1_ h_2_ => up2_k _ _ (by omega)) c), cT_M (fun b hb => up2_k _ _ (by omega)) (cT_cg (fun t _ => up2_ne (by omega)) (fun _ _ => ⟨rfl, rfl⟩) d), cR_M (fun b h_1_ h_2_ => up2_k _ _ (by omega)) (cR_V (fun x h_1_ h_2_ => up2_k _ _ (by omega)) e), cS_M (fun b h_1_ h_2_ => up2_k _ _ (by omega)) (cS_V (fun x h_1_ h_2_ => up2_k _ _ (by omega)) f), ⟨⟨by rw [up2_ne (by omega), up2_ne (by omega)]; exact g.1.1, by rw [up2_ne (by omega)]; exact g.1.2⟩, by rw [up2_s, up2_s], by rw [up2_ne (by omega), up2_ne (by omega)]; exact g.2.2⟩, i⟩
theorem U_frost {tk : Nat → Nat} {nt : Nat} {V M : Vt} {ng : Nat} {rr : Nat → Nat} {c_0_ : Nat} (z : Int32) (hz : 0 ≤ z ∧ z ≤ 3) (h : REL tk nt V M ng rr c_0_) : REL tk nt (up2 V 0 0 z) (up2 M 0 5 z) ng rr c_0_ := by
  obtain ⟨a, b, c, d, e, f, g, i⟩ := h
  have n_4_ := a.1.2.1
  exact ⟨XI_cg (up2_ne (by omega)) (fun g hg => up2_ne (by omega)) (up2_ne (by omega)) (fun t _ => up2_ne (by omega)) (up2_ne (by omega)) (fun _ _ => ⟨up2_ne (by omega), up2_ne (by omega)⟩) (fun k hk => up2_ne (by omega)) a, MI_cong (fun x hx => up2_k _ _ (by omega)) (up2_ne (by omega)) (up2_ne (by omega)) (up2_ne (by omega)) b, cG_M (fun b hb => up2_k _ _ (by omega)) (cG_V n_4_ (fun x h_1_ h_2_ => up2_k _ _ (by omega)) c), cT_M (fun b hb => up2_k _ _ (by omega)) (cT_cg (fun t _ => up2_ne (by omega)) (fun _ _ => ⟨rfl, rfl⟩) d), cR_M (fun b h_1_ h_2_ => up2_k _ _ (by omega)) (cR_V (fun x h_1_ h_2_ => up2_k _ _ (by omega)) e), cS_M (fun b h_1_ h_2_ => up2_k _ _ (by omega)) (cS_V (fun x h_1_ h_2_ => up2_k _ _ (by omega)) f), ⟨⟨by rw [up2_s, up2_s], by rw [up2_s]; exact hz⟩, by rw [up2_ne (by omega), up2_ne (by omega)]; exact g.2.1, by rw [up2_ne (by omega), up2_ne (by omega)]; exact g.2.2⟩, i⟩
theorem U_yard {tk : Nat → Nat} {nt : Nat} {V M : Vt} {ng : Nat} {rr : Nat → Nat} {c_0_ : Nat} (g0 : Nat) (z : Int32) (hg0 : g0 < ng) (hz : 1 ≤ z ∧ z ≤ 9) (h : REL tk nt V M ng rr c_0_) : REL tk nt (up2 V (0 + 2 + 3 * g0) 0 z) (up2 M 4 g0 z) ng rr c_0_ := by
  obtain ⟨a, b, c, d, e, f, g, i⟩ := h
  have n_4_ := a.1.2.1
  refine ⟨XI_cg (up2_ne (by omega)) (fun g hg => up2_ne (by omega)) (up2_ne (by omega)) (fun t _ => up2_ne (by omega)) (up2_ne (by omega)) (fun _ _ => ⟨up2_ne (by omega), up2_ne (by omega)⟩) (fun k hk => up2_ne (by omega)) a, MI_cong (fun x hx => up2_k _ _ (by omega)) (up2_ne (by omega)) (up2_ne (by omega)) (up2_ne (by omega)) b, ?_, cT_M (fun b hb => up2_k _ _ (by omega)) (cT_cg (fun t _ => up2_ne (by omega)) (fun _ _ => ⟨rfl, rfl⟩) d), cR_M (fun b h_1_ h_2_ => up2_k _ _ (by omega)) (cR_V (fun x h_1_ h_2_ => up2_k _ _ (by omega)) e), cS_M (fun b h_1_ h_2_ => up2_k _ _ (by omega)) (cS_V (fun x h_1_ h_2_ => up2_k _ _ (by omega)) f), cE_cg (up2_ne (by omega)) (up2_ne (by omega)) (up2_ne (by omega)) (up2_ne (by omega)) (up2_ne (by omega)) (up2_ne (by omega)) g, i⟩
  intro q hq
  obtain ⟨c_1_, c_2_, c_3_⟩ := c q hq
  refine ⟨?_, ?_, fun j hj => ?_⟩
  · by_cases e : q = g0
    · rw [e, up2_s, up2_s]; exact ⟨rfl, hz⟩
    · rw [up2_ne (by omega), up2_ne (by omega)]; exact c_1_
  · rw [up2_ne (by omega), up2_k _ _ (by decide)]; exact c_2_
  · unfold mW mM
    repeat rw [up2_ne (by omega)]
    exact c_3_ j hj
theorem U_lean {tk : Nat → Nat} {nt : Nat} {V M : Vt} {ng : Nat} {rr : Nat → Nat} {c_0_ : Nat} (g0 : Nat) (z : Int32) (hg0 : g0 < ng) (hz : 0 ≤ z ∧ z ≤ 9) (h : REL tk nt V M ng rr c_0_) : REL tk nt (up2 V (0 + 2 + 3 * g0) 1 z) (up2 M 5 g0 z) ng rr c_0_ := by
  obtain ⟨a, b, c, d, e, f, g, i⟩ := h
  have n_4_ := a.1.2.1
  refine ⟨XI_cg (up2_ne (by omega)) (fun g hg => up2_ne (by omega)) (up2_ne (by omega)) (fun t _ => up2_ne (by omega)) (up2_ne (by omega)) (fun _ _ => ⟨up2_ne (by omega), up2_ne (by omega)⟩) (fun k hk => up2_ne (by omega)) a, MI_cong (fun x hx => up2_k _ _ (by omega)) (up2_ne (by omega)) (up2_ne (by omega)) (up2_ne (by omega)) b, ?_, cT_M (fun b hb => up2_k _ _ (by omega)) (cT_cg (fun t _ => up2_ne (by omega)) (fun _ _ => ⟨rfl, rfl⟩) d), cR_M (fun b h_1_ h_2_ => up2_k _ _ (by omega)) (cR_V (fun x h_1_ h_2_ => up2_k _ _ (by omega)) e), cS_M (fun b h_1_ h_2_ => up2_k _ _ (by omega)) (cS_V (fun x h_1_ h_2_ => up2_k _ _ (by omega)) f), cE_cg (up2_ne (by omega)) (up2_ne (by omega)) (up2_ne (by omega)) (up2_ne (by omega)) (up2_ne (by omega)) (up2_ne (by omega)) g, i⟩
  intro q hq
  obtain ⟨c_1_, c_2_, c_3_⟩ := c q hq
  refine ⟨?_, ?_, fun j hj => ?_⟩
  · rw [up2_ne (by omega), up2_k _ _ (by decide)]; exact c_1_
  · by_cases e : q = g0
    · rw [e, up2_s, up2_s]; exact ⟨rfl, hz⟩
    · rw [up2_ne (by omega), up2_ne (by omega)]; exact c_2_
  · unfold mW mM
    repeat rw [up2_ne (by omega)]
    exact c_3_ j hj
theorem U_arm {tk : Nat → Nat} {nt : Nat} {V M : Vt} {ng : Nat} {rr : Nat → Nat} {c_0_ : Nat} (t0 : Nat) (z : Int32) (hz : 1 ≤ z ∧ z ≤ 9) (h : REL tk nt V M ng rr c_0_) : REL tk nt (up2 V (56 + t0) 1 z) (up2 M 7 t0 z) ng rr c_0_ := by
  obtain ⟨a, b, c, d, e, f, g, i⟩ := h
  have n_4_ := a.1.2.1
  refine ⟨XI_cg (up2_ne (by omega)) (fun g hg => up2_ne (by omega)) (up2_ne (by omega)) (fun t _ => up2_ne (by omega)) (up2_ne (by omega)) (fun _ _ => ⟨up2_ne (by omega), up2_ne (by omega)⟩) (fun k hk => up2_ne (by omega)) a, MI_cong (fun x hx => up2_k _ _ (by omega)) (up2_ne (by omega)) (up2_ne (by omega)) (up2_ne (by omega)) b, cG_M (fun b hb => up2_k _ _ (by omega)) (cG_V n_4_ (fun x h_1_ h_2_ => up2_k _ _ (by omega)) c), ?_, cR_M (fun b h_1_ h_2_ => up2_k _ _ (by omega)) (cR_V (fun x h_1_ h_2_ => up2_k _ _ (by omega)) e), cS_M (fun b h_1_ h_2_ => up2_k _ _ (by omega)) (cS_V (fun x h_1_ h_2_ => up2_k _ _ (by omega)) f), cE_cg (up2_ne (by omega)) (up2_ne (by omega)) (up2_ne (by omega)) (up2_ne (by omega)) (up2_ne (by omega)) (up2_ne (by omega)) g, i⟩
  intro q hq
  obtain ⟨c_1_, c_2_⟩ := d q hq
  refine ⟨by rw [up2_k _ _ (by decide)]; exact c_1_, ?_⟩
  by_cases e : q = t0
  · rw [e, up2_s, up2_s]; exact ⟨rfl, hz⟩
  · rw [up2_ne (by omega), up2_ne (by omega)]; exact c_2_
/-- fewer rings lie with a girl -/
theorem U_rings {tk : Nat → Nat} {nt : Nat} {V M : Vt} {ng : Nat} {rr : Nat → Nat} {c_0_ : Nat} (g0 r : Nat) (hg0 : g0 < ng) (hr : r ≤ rr g0) (h : REL tk nt V M ng rr c_0_) : REL tk nt (up2 V (0 + 2 + 3 * g0) 2 (nI r)) (up2 M 8 g0 (nI r)) ng (uN rr g0 r) c_0_ := by
  obtain ⟨a, b, c, d, e, f, g, i⟩ := h
  have n_4_ := a.1.2.1
  obtain ⟨⟨a1, a2, a3⟩, a4, a5, a6, a7, a8, a9, a10⟩ := a
  obtain ⟨b1, b2, b3, b4, b5, b6, b7, b8, b9⟩ := b
  refine ⟨⟨⟨by rw [up2_ne (by omega)]; exact a1, a2, fun q hq => ?_⟩, by rw [up2_ne (by omega)]; exact a4, a5, fun t ht => by rw [up2_ne (by omega)]; exact a6 t ht, by rw [up2_ne (by omega)]; exact a7, a8, fun q hq => by rw [up2_ne (by omega), up2_ne (by omega)]; exact a9 q hq, fun k hk => by rw [up2_ne (by omega)]; exact a10 k hk⟩, ⟨by rw [up2_ne (by omega)]; exact b1, b2, by rw [up2_ne (by omega)]; exact b3, b4, fun q hq => ?_, by rw [up2_ne (by omega)]; exact b6, b7, fun q hq => by rw [up2_ne (by omega), up2_ne (by omega)]; exact b8 q hq, fun k hk => by rw [up2_ne (by omega)]; exact b9 k hk⟩, ?_, cT_M (fun b hb => up2_k _ _ (by omega)) (cT_cg (fun t _ => up2_ne (by omega)) (fun _ _ => ⟨rfl, rfl⟩) d), cR_M (fun b h_1_ h_2_ => up2_k _ _ (by omega)) (cR_V (fun x h_1_ h_2_ => up2_k _ _ (by omega)) e), cS_M (fun b h_1_ h_2_ => up2_k _ _ (by omega)) (cS_V (fun x h_1_ h_2_ => up2_k _ _ (by omega)) f), cE_cg (up2_ne (by omega)) (up2_ne (by omega)) (up2_ne (by omega)) (up2_ne (by omega)) (up2_ne (by omega)) (up2_ne (by omega)) g, i⟩
  · have := a3 q hq
    by_cases e : q = g0
    · rw [e, up2_s, uN_s]; rw [e] at this; exact ⟨rfl, by omega⟩
    · rw [up2_ne (by omega), uN_o _ _ e]; exact this
  · have := b5 q hq
    by_cases e : q = g0
    · rw [e, up2_s, uN_s]; rw [e] at this; exact ⟨rfl, by omega⟩
    · rw [up2_ne (by omega), uN_o _ _ e]; exact this
  · intro q hq
    obtain ⟨c_1_, c_2_, c_3_⟩ := c q hq
    refine ⟨by rw [up2_ne (by omega), up2_k _ _ (by decide)]; exact c_1_, by rw [up2_ne (by omega), up2_k _ _ (by decide)]; exact c_2_, fun j hj => ?_⟩
    unfold mW mM
    repeat rw [up2_ne (by omega)]
    refine c_3_ j ?_
    by_cases e : q = g0
    · rw [e, uN_s] at hj; rw [e]; omega
    · rw [uN_o _ _ e] at hj; exact hj
/-- a ring is laid -/
theorem U_lay {tk : Nat → Nat} {nt : Nat} {V M : Vt} {ng : Nat} {rr : Nat → Nat} {c_0_ : Nat} (g0 : Nat) (x y : Int32) (hg0 : g0 < ng) (hr : rr g0 < 8) (hx : ¬ x = -9) (h : REL tk nt V M ng rr c_0_) : REL tk nt (up2 (up2 (up2 V (0 + 2 + 3 * g0 + 1) (rr g0) x) (0 + 2 + 3 * g0 + 2) (rr g0) y) (0 + 2 + 3 * g0) 2 (nI (rr g0 + 1))) (up2 (up2 (up2 M 9 (8 * g0 + rr g0) x) 10 (8 * g0 + rr g0) y) 8 g0 (nI (rr g0 + 1))) ng (uN rr g0 (rr g0 + 1)) c_0_ := by
  obtain ⟨a, b, c, d, e, f, g, i⟩ := h
  have n_4_ := a.1.2.1
  obtain ⟨⟨a1, a2, a3⟩, a4, a5, a6, a7, a8, a9, a10⟩ := a
  obtain ⟨b1, b2, b3, b4, b5, b6, b7, b8, b9⟩ := b
  refine ⟨⟨⟨by (repeat rw [up2_ne (by omega)]); exact a1, a2, fun q hq => ?_⟩, by (repeat rw [up2_ne (by omega)]); exact a4, a5, fun t ht => by (repeat rw [up2_ne (by omega)]); exact a6 t ht, by (repeat rw [up2_ne (by omega)]); exact a7, a8, fun q hq => by (repeat rw [up2_ne (by omega)]); exact a9 q hq, fun k hk => by (repeat rw [up2_ne (by omega)]); exact a10 k hk⟩, ⟨by (repeat rw [up2_ne (by omega)]); exact b1, b2, by (repeat rw [up2_ne (by omega)]); exact b3, b4, fun q hq => ?_, by (repeat rw [up2_ne (by omega)]); exact b6, b7, fun q hq => by (repeat rw [up2_ne (by omega)]); exact b8 q hq, fun k hk => by (repeat rw [up2_ne (by omega)]); exact b9 k hk⟩, ?_, cT_cg (fun t _ => by repeat rw [up2_ne (by omega)]) (fun t _ => by (repeat rw [up2_ne (by omega)]); exact ⟨rfl, rfl⟩) d, ?_, ?_, cE_cg (by repeat rw [up2_ne (by omega)]) (by repeat rw [up2_ne (by omega)]) (by repeat rw [up2_ne (by omega)]) (by repeat rw [up2_ne (by omega)]) (by repeat rw [up2_ne (by omega)]) (by repeat rw [up2_ne (by omega)]) g, i⟩
  · have := a3 q hq
    by_cases e : q = g0
    · rw [e, up2_s, uN_s]; exact ⟨rfl, by omega⟩
    · repeat rw [up2_ne (by omega)]
      rw [uN_o _ _ e]; exact this
  · have := b5 q hq
    by_cases e : q = g0
    · rw [e, up2_s, uN_s]; exact ⟨rfl, by omega⟩
    · repeat rw [up2_ne (by omega)]
      rw [uN_o _ _ e]; exact this
  · intro q hq
    obtain ⟨c_1_, c_2_, c_3_⟩ := c q hq
    have q8 := (a3 q hq).2
    refine ⟨by (repeat rw [up2_ne (by omega)]); exact c_1_, by (repeat rw [up2_ne (by omega)]); exact c_2_, fun j hj => ?_⟩
    unfold mW mM
    by_cases e : q = g0
    · subst e
      rw [uN_s] at hj
      by_cases k : j = rr q
      · rw [k]
        refine ⟨?_, ?_, ?_⟩
        · rw [up2_ne (by omega), up2_ne (by omega), up2_s, up2_ne (by omega), up2_ne (by omega), up2_s]
        · rw [up2_ne (by omega), up2_s, up2_ne (by omega), up2_s]
        · rw [up2_ne (by omega), up2_ne (by omega), up2_s]; exact hx
      · repeat rw [up2_ne (by omega)]
        exact c_3_ j (by omega)
    · rw [uN_o _ _ e] at hj
      repeat rw [up2_ne (by omega)]
      exact c_3_ j hj
  · intro q hq
    repeat rw [up2_ne (by omega)]
    exact e q hq
  · refine cS_M (fun b h_1_ h_2_ => by rw [up2_k _ _ (by omega), up2_k _ _ (by omega), up2_k _ _ (by omega)]) (cS_V (fun x h_1_ h_2_ => by rw [up2_k _ _ (by omega), up2_k _ _ (by omega), up2_k _ _ (by omega)]) f)
