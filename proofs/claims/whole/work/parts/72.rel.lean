theorem rl_so {tk : Nat → Nat} {nt : Nat} {V M : Vt} {ng : Nat} {rr : Nat → Nat} {c_0_ : Nat} (h : REL tk nt V M ng rr c_0_) {r : Nat} (hr : r < c_0_) : ∃ t g, t < nt ∧ g < ng ∧ V 30 r = nI t ∧ M 21 r = nI t ∧ V 31 r = nI g ∧ M 22 r = nI g ∧ V 32 r = M 23 r := by
  obtain ⟨⟨t, ht, et⟩, g, hg, eg⟩ := h.1.2.2.2.2.2.2.1 r hr
  obtain ⟨e1, e2, e3⟩ := h.2.2.2.2.1 r hr
  exact ⟨t, g, ht, hg, et, e1.symm.trans et, eg, e2.symm.trans eg, e3⟩
/-- one reading, both ways -/
theorem so_one {tk : Nat → Nat} {nt : Nat} {V M : Vt} {ng : Nat} {rr : Nat → Nat} {c_0_ : Nat} {M2 : Vt} {z0 z1 z2 z3 : Int32} (h : REL tk nt V M ng rr c_0_) (e21 : M2 21 = M 21) (e22 : M2 22 = M 22) (e23 : M2 23 = M 23)
    (hk : ∀ t g, t < nt → g < ng → near (if nI t = z0 then z1 else rchM (M 6 t) (M 7 t)) (M 4 g) (if nI g = z2 then z3 else M 5 g) (M 0 5) = nrM M2 t g) : soA tk V z0 z1 z2 z3 c_0_ ↔ soM M2 c_0_ := by
  have n_4_ := h.1.1.2.1
  have t5 := h.1.2.2.1
  have key : ∀ r, r < c_0_ → (soP tk V z0 z1 z2 z3 r ↔ nrM M2 (M2 21 r).toNatClampNeg (M2 22 r).toNatClampNeg = M2 23 r) := by
    intro r hr
    obtain ⟨t, g, ht, hg, et, et2, eg, eg2, e3⟩ := rl_so h hr
    obtain ⟨c_1_, c_2_, -⟩ := h.2.2.1 g hg
    unfold soP
    rw [e21, e22, e23, et, et2, eg, eg2, nI_clamp (by omega), nI_clamp (by omega), rl_rch h ht, c_1_.1, c_2_.1, h.2.2.2.2.2.2.1.1.1, e3, hk t g ht hg]
  exact ⟨fun q r hr => (key r hr).mp (q r hr), fun q r hr => (key r hr).mpr (q r hr)⟩
theorem nI_iff {a b : Nat} (ha : a < 100) (hb : b < 100) : nI a = nI b ↔ a = b := ⟨fun q => nI_inj (by omega) (by omega) q, fun q => by rw [q]⟩
theorem up2_if (V : Vt) (k i j : Nat) (x : Int32) : up2 V k i x k j = if j = i then x else V k j := by
  by_cases e : j = i
  · rw [e, up2_s, if_pos rfl]
  · rw [up2_i _ _ e, if_neg e]
theorem r_leans {tk : Nat → Nat} {nt : Nat} {V M : Vt} {ng : Nat} {rr : Nat → Nat} {c_0_ : Nat} (z0 : Int32) {x y : Int32} {V2 M2 : Vt} (h : REL tk nt V M ng rr c_0_) (hx : V2 = V ∧ x = if ¬ z0 < 0 ∧ z0 < nI ng then setP (fun v => 0 ≤ v ∧ soA tk V (-9) 0 z0 (nI v) c_0_) 10 else -1) (hy : M2 = M ∧ y = if ¬ z0 < 0 ∧ z0 < nI ng then setP (fun v => 0 ≤ v ∧ soM (up2 M 5 z0.toNatClampNeg (nI v)) c_0_) 10 else -1) : x = y ∧ RLo tk nt V2 M2 := by
  have n_4_ := h.1.1.2.1
  have t5 := h.1.2.2.1
  obtain ⟨ex, hx⟩ := hx
  obtain ⟨ey, hy⟩ := hy
  rw [ex, ey]
  refine ⟨?_, ng, rr, c_0_, h⟩
  rw [hx, hy]
  by_cases c : ¬ z0 < 0 ∧ z0 < nI ng
  · rw [if_pos c, if_pos c]
    obtain ⟨g0, hg0, e, ec⟩ := inr c (by omega)
    rw [ec]
    refine setP_cong 10 (fun v hv => ?_)
    have k := so_one (M2 := up2 M 5 g0 (nI v)) (z0 := -9) (z1 := 0) (z2 := z0) (z3 := nI v) h (up2_k _ _ (by decide)) (up2_k _ _ (by decide)) (up2_k _ _ (by decide)) (fun t g ht hg => by
      unfold nrM
      rw [up2_k _ _ (show 6 ≠ 5 by decide), up2_k _ _ (show 7 ≠ 5 by decide), up2_k _ _ (show 4 ≠ 5 by decide), up2_k _ _ (show 0 ≠ 5 by decide), up2_if, if_neg (m9_nI (by omega)), e]
      by_cases q : g = g0
      · rw [if_pos q, if_pos (by rw [q])]
      · rw [if_neg q, if_neg (fun w => q ((nI_iff (by omega) (by omega)).mp w))])
    exact ⟨fun w => ⟨w.1, k.mp w.2⟩, fun w => ⟨w.1, k.mpr w.2⟩⟩
  · rw [if_neg c, if_neg c]
theorem r_arms {tk : Nat → Nat} {nt : Nat} {V M : Vt} {ng : Nat} {rr : Nat → Nat} {c_0_ : Nat} (z0 : Int32) {x y : Int32} {V2 M2 : Vt} (h : REL tk nt V M ng rr c_0_) (hx : V2 = V ∧ x = if ¬ z0 < 0 ∧ z0 < nI nt then setP (fun v => 1 ≤ v ∧ soA tk V z0 (rch (kdI (tk z0.toNatClampNeg)) (nI v)) (-9) 0 c_0_) 10 else -1) (hy : M2 = M ∧ y = if ¬ z0 < 0 ∧ z0 < nI nt then setP (fun v => 1 ≤ v ∧ soM (up2 M 7 z0.toNatClampNeg (nI v)) c_0_) 10 else -1) : x = y ∧ RLo tk nt V2 M2 := by
  have n_4_ := h.1.1.2.1
  have t5 := h.1.2.2.1
  obtain ⟨ex, hx⟩ := hx
  obtain ⟨ey, hy⟩ := hy
  rw [ex, ey]
  refine ⟨?_, ng, rr, c_0_, h⟩
  rw [hx, hy]
  by_cases c : ¬ z0 < 0 ∧ z0 < nI nt
  · rw [if_pos c, if_pos c]
    obtain ⟨t0, ht0, e, ec⟩ := inr c (by omega)
    rw [ec]
    refine setP_cong 10 (fun v hv => ?_)
    have k := so_one (M2 := up2 M 7 t0 (nI v)) (z0 := z0) (z1 := rch (kdI (tk t0)) (nI v)) (z2 := -9) (z3 := 0) h (up2_k _ _ (by decide)) (up2_k _ _ (by decide)) (up2_k _ _ (by decide)) (fun t g ht hg => by
      unfold nrM
      rw [up2_k _ _ (show 6 ≠ 7 by decide), up2_k _ _ (show 5 ≠ 7 by decide), up2_k _ _ (show 4 ≠ 7 by decide), up2_k _ _ (show 0 ≠ 7 by decide), up2_if, if_neg (m9_nI (q := g) (by omega)), e]
      by_cases q : t = t0
      · rw [if_pos q, if_pos (by rw [q]), rl_rc h ht0, q]
      · rw [if_neg q, if_neg (fun w => q ((nI_iff (by omega) (by omega)).mp w))])
    exact ⟨fun w => ⟨w.1, k.mp w.2⟩, fun w => ⟨w.1, k.mpr w.2⟩⟩
  · rw [if_neg c, if_neg c]
theorem r_kinds {tk : Nat → Nat} {nt : Nat} {V M : Vt} {ng : Nat} {rr : Nat → Nat} {c_0_ : Nat} (z0 : Int32) {x y : Int32} {V2 M2 : Vt} (h : REL tk nt V M ng rr c_0_) (hx : V2 = V ∧ x = if ¬ z0 < 0 ∧ z0 < nI nt then setP (fun v => 0 ≤ v ∧ soA tk V z0 (rch (nI v) (V (56 + z0.toNatClampNeg) 1)) (-9) 0 c_0_) 3 else -1) (hy : M2 = M ∧ y = if ¬ z0 < 0 ∧ z0 < nI nt then setP (fun v => 0 ≤ v ∧ soM (up2 M 6 z0.toNatClampNeg (nI v)) c_0_) 3 else -1) : x = y ∧ RLo tk nt V2 M2 := by
  have n_4_ := h.1.1.2.1
  have t5 := h.1.2.2.1
  obtain ⟨ex, hx⟩ := hx
  obtain ⟨ey, hy⟩ := hy
  rw [ex, ey]
  refine ⟨?_, ng, rr, c_0_, h⟩
  rw [hx, hy]
  by_cases c : ¬ z0 < 0 ∧ z0 < nI nt
  · rw [if_pos c, if_pos c]
    obtain ⟨t0, ht0, e, ec⟩ := inr c (by omega)
    rw [ec]
    refine setP_cong 3 (fun v hv => ?_)
    have rv : ∀ a : Int32, rch (nI v) a = rchM (nI v) a := by
      intro a
      rcases (show v = 0 ∨ v = 1 ∨ v = 2 by omega) with q | q | q <;> rw [q] <;> rfl
    have k := so_one (M2 := up2 M 6 t0 (nI v)) (z0 := z0) (z1 := rch (nI v) (V (56 + t0) 1)) (z2 := -9) (z3 := 0) h (up2_k _ _ (by decide)) (up2_k _ _ (by decide)) (up2_k _ _ (by decide)) (fun t g ht hg => by
      unfold nrM
      rw [up2_k _ _ (show 7 ≠ 6 by decide), up2_k _ _ (show 5 ≠ 6 by decide), up2_k _ _ (show 4 ≠ 6 by decide), up2_k _ _ (show 0 ≠ 6 by decide), up2_if, if_neg (m9_nI (q := g) (by omega)), e]
      by_cases q : t = t0
      · rw [if_pos q, if_pos (by rw [q]), rv, (h.2.2.2.1 t0 ht0).2.1, q]
      · rw [if_neg q, if_neg (fun w => q ((nI_iff (by omega) (by omega)).mp w))])
    exact ⟨fun w => ⟨w.1, k.mp w.2⟩, fun w => ⟨w.1, k.mpr w.2⟩⟩
  · rw [if_neg c, if_neg c]
theorem rng_n {z : Int32} {lo hi : Nat} (h_1_ : nI lo ≤ z) (h_2_ : z ≤ nI hi) (hl : lo < 100) (hh : hi < 100) : ∃ n, lo ≤ n ∧ n ≤ hi ∧ z = nI n := by
  rcases pk_ix z (n := hi + 1) (by omega) with w | w | ⟨j, w, e⟩
  · exact absurd (Int32.lt_of_le_of_lt h_1_ w) (nI_pos (by omega))
  · exact absurd ((nI_leI (by omega) (by omega)).mp (Int32.le_trans w h_2_)) (by omega)
  · exact ⟨j, (nI_leI (by omega) (by omega)).mp (e ▸ h_1_), by omega, e⟩
theorem aprt_n {a b : Nat} (ha : a < 100) (hb : b < 100) : aprt (nI a) (nI b) = nI (if a < b then b - a else a - b) := by
  unfold aprt
  by_cases q : a < b
  · rw [if_pos (nI_lt q (by omega)), if_pos q, pk_sub (by omega)]
  · rw [if_neg (fun w => q ((nI_ltI (by omega) (by omega)).mp w)), if_neg q, pk_sub (by omega)]
theorem near_n {a y l f : Nat} (ha : 1 ≤ a ∧ a ≤ 18) (hy : 1 ≤ y ∧ y ≤ 9) (hf : f ≤ 3) : ∃ d, d ≤ 20 ∧ near (nI a) (nI y) (nI l) (nI f) = nI d := by
  obtain ⟨d, hd, e⟩ : ∃ d, d ≤ 17 ∧ aprt (nI a) (nI y) = nI d := ⟨_, by split <;> omega, aprt_n (by omega) (by omega)⟩
  unfold near
  rw [e]
  by_cases q : nI d ≤ nI l
  · rw [if_pos q]; exact ⟨0, by omega, rfl⟩
  · rw [if_neg q]; exact ⟨d + f, by omega, nI_add d f⟩
theorem rl_nn {tk : Nat → Nat} {nt : Nat} {V M : Vt} {ng : Nat} {rr : Nat → Nat} {c_0_ : Nat} (h : REL tk nt V M ng rr c_0_) : ∃ nn : Nat → Nat → Nat, ∀ t g, t < nt → g < ng → nrM M t g = nI (nn t g) ∧ nn t g ≤ 20 := by
  have key : ∀ t g, t < nt → g < ng → ∃ d, d ≤ 20 ∧ nrM M t g = nI d := by
    intro t g ht hg
    obtain ⟨c_1_, c_2_, -⟩ := h.2.2.1 g hg
    obtain ⟨d1, -, d3, d4⟩ := h.2.2.2.1 t ht
    obtain ⟨y, y1, y2, ey⟩ := rng_n (lo := 1) (hi := 9) c_1_.2.1 c_1_.2.2 (by omega) (by omega)
    obtain ⟨lz, l1, l2, el⟩ := rng_n (lo := 0) (hi := 9) c_2_.2.1 c_2_.2.2 (by omega) (by omega)
    obtain ⟨a, a1, a2, ea⟩ := rng_n (lo := 1) (hi := 9) d3 d4 (by omega) (by omega)
    obtain ⟨f, f1, f2, ef⟩ := rng_n (lo := 0) (hi := 3) h.2.2.2.2.2.2.1.1.2.1 h.2.2.2.2.2.2.1.1.2.2 (by omega) (by omega)
    obtain ⟨r, r1, er⟩ : ∃ r, (1 ≤ r ∧ r ≤ 18) ∧ rchM (M 6 t) (M 7 t) = nI r := by
      rw [← d1, ea]
      rcases (h.1.2.2.2.1 t ht).1 with k | k | k <;> rw [k]
      · exact ⟨a, by omega, rfl⟩
      · exact ⟨a + 1, by omega, nI_1 a⟩
      · exact ⟨2 * a, by omega, pk_mul 2 a⟩
    unfold nrM
    rw [er, ey, el, ef]
    exact near_n r1 ⟨y1, y2⟩ f2
  refine ⟨fun t g => (nrM M t g).toNatClampNeg, fun t g ht hg => ?_⟩
  obtain ⟨d, hd, e⟩ := key t g ht hg
  dsimp only
  rw [e, nI_clamp (by omega)]
  exact ⟨rfl, hd⟩
theorem r_match {tk : Nat → Nat} {nt : Nat} {V M : Vt} {ng : Nat} {rr : Nat → Nat} {c_0_ : Nat} (z0 : Int32) {x y : Int32} {V2 M2 : Vt} (h : REL tk nt V M ng rr c_0_) (nn : Nat → Nat → Nat) (hn : ∀ t g, t < nt → g < ng → nrM M t g = nI (nn t g) ∧ nn t g ≤ 20) (hx : (V2 = V ∧ ((¬ (-2 ≤ z0 ∧ z0 ≤ 4) ∧ x = -2) ∨ ((-2 ≤ z0 ∧ z0 ≤ 4) ∧ nt = 0 ∧ x = -3))) ∨ ((-2 ≤ z0 ∧ z0 ≤ 4) ∧ ¬ nt = 0 ∧ ∃ (U : Vt) (ws : Nat → Nat), pW tk V nt ng rr U ws ∧ V2 = maV U nt ng ws ∧ x = maX V2 nt z0)) (hy : scE ng rr M M2 ∧ ((¬ (-2 ≤ z0 ∧ z0 ≤ 4) ∧ y = -2) ∨ ((-2 ≤ z0 ∧ z0 ≤ 4) ∧ ng = 0 ∧ y = -3) ∨ ((-2 ≤ z0 ∧ z0 ≤ 4) ∧ ¬ ng = 0 ∧ ∃ f, mBs (pwM M rr) nn ng nt f ∧ y = mAn nn ng nt f z0))) : x = y ∧ RLo tk nt V2 M2 := by
  have n_4_ := h.1.1.2.1
  have t5 := h.1.2.2.1
  have i := h.2.2.2.2.2.2.2
  obtain ⟨ey, hy⟩ := hy
  rcases hx with ⟨ex, hx⟩ | ⟨c, n_0_, U, ws, hw, ex, hx⟩
  · rw [ex]
    refine ⟨?_, ng, rr, c_0_, REL_M h ey⟩
    rcases hx with ⟨a, b⟩ | ⟨a, b, d⟩
    · rcases hy with ⟨a2, b2⟩ | ⟨a2, b2⟩ | ⟨a2, b2⟩
      · rw [b, b2]
      · exact absurd a2 a
      · exact absurd a2 a
    · rcases hy with ⟨a2, b2⟩ | ⟨a2, b2, d2⟩ | ⟨a2, b2, d2⟩
      · exact absurd a a2
      · rw [d, d2]
      · exact absurd (i.mp b) b2
  · obtain ⟨a2, b2, f, hB, hy⟩ : (-2 ≤ z0 ∧ z0 ≤ 4) ∧ ¬ ng = 0 ∧ ∃ f, mBs (pwM M rr) nn ng nt f ∧ y = mAn nn ng nt f z0 := by
      rcases hy with ⟨a2, b2⟩ | ⟨a2, b2, d2⟩ | w
      · exact absurd c a2
      · exact absurd (i.mpr b2) n_0_
      · exact w
    have u49 : ∀ t g, t < nt → g < ng → U 49 (t * 4 + g) = nI (nn t g) ∧ nn t g ≤ 20 := fun t g ht hg => by
      rw [(hw.1.2.2.2.1 t ht).2 g hg, ← (hn t g ht hg).1]
      exact ⟨rl_nr h ht hg, (hn t g ht hg).2⟩
    refine ⟨?_, ng, rr, c_0_, REL_M (REL_X h (scX.pr (hw.1.1.tr (fun a j p q => by rw [ex]; unfold maV; rw [giL_o (by omega), ouL_o (by omega)])))) ey⟩
    rw [hx, hy, ex, maX_an (nn := nn) n_4_ t5 c u49]
    refine mAn_cg t5 (fun _ _ _ _ => rfl) (mBs_one (P := pwM M rr) (mBs_cg (fun t g ht hg => ?_) (fun _ _ _ _ => rfl) (mg_bs n_4_ t5 u49)) hB)
    rw [(hw.2 t ht).2.2 g hg, rl_hd h hg, rl_rch h ht]
    exact Iff.rfl
theorem r_weds {tk : Nat → Nat} {nt : Nat} {V M : Vt} {ng : Nat} {rr : Nat → Nat} {c_0_ : Nat} (z0 : Int32) {x y : Int32} {V2 M2 : Vt} (h : REL tk nt V M ng rr c_0_) (hx : (∃ (j : Nat) (U : Vt) (n_8_ : Nat) (rf2 : Nat → Nat), j < nt ∧ z0 = nI j ∧ pP tk V nt ng rr nt U ∧ n_8_ ≤ 24 ∧ frW U V2 ∧ rfO V2 nt rf2 ∧ (wPh (nrM M) nt ng) n_8_ V2 rf2 ∧ (n_8_ = 24 ∨ ∀ q, q < nt → V2 51 q = -9 → deI V2 q (rf2 q) ng = -9) ∧ x = V2 51 j) ∨ ((z0 < 0 ∨ nI nt ≤ z0) ∧ x = -1 ∧ V2 = V)) (hy : scE ng rr M M2 ∧ ((¬ (¬ z0 < 0 ∧ z0 < nI nt) ∧ y = -1) ∨ ∃ j, j < nt ∧ z0 = nI j ∧ wRes (nrM M) nt ng j y)) : x = y ∧ RLo tk nt V2 M2 := by
  have n_4_ := h.1.1.2.1
  have t5 := h.1.2.2.1
  obtain ⟨ey, hy⟩ := hy
  rcases hx with ⟨j, U, n_8_, rf2, hj, ej, hP, h_24_, hfr, hrf, hph, hend, hx⟩ | ⟨ho, hx, ex⟩
  · obtain ⟨j_2_, hj2, ej2, hy⟩ := hy.resolve_left (fun w => w.1 (by rw [ej]; exact ⟨nI_pos (by omega), nI_lt hj (by omega)⟩))
    have e2 : j_2_ = j := nI_inj (by omega) (by omega) (ej2.symm.trans ej)
    rw [e2] at hy
    refine ⟨?_, ng, rr, c_0_, REL_M (REL_X h (scX.pr (hP.1.tr (fun a q p r => by rw [hfr a (by omega) (by omega)])))) ey⟩
    rw [hx]
    exact wRes_one (fun _ _ _ _ => rfl) hj (wPh_end n_4_ t5 hph hend) hy
  · rw [ex]
    refine ⟨?_, ng, rr, c_0_, REL_M h ey⟩
    rcases hy with ⟨-, hy⟩ | ⟨j, hj, ej, -⟩
    · rw [hx, hy]
    · exact absurd (show ¬ z0 < 0 ∧ z0 < nI nt by rw [ej]; exact ⟨nI_pos (by omega), nI_lt hj (by omega)⟩) (outR ho)
