theorem rfN_cg {nt : Nat} {c d : Nat → Int32} : ∀ n, (∀ j, j < 2 * n → c j = d j) → rfN nt c n = rfN nt d n
  | 0, _ => rfl
  | n + 1, h => by rw [rfN, rfN, rfN_cg n (fun j hj => h j (by omega)), h (2 * n) (by omega), h (2 * n + 1) (by omega)]
theorem feN_cg {nt ng : Nat} {rc ys lz : Nat → Int32} {F : Fs} {c d : Nat → Int32} : ∀ n, (∀ j, j < 2 * n → c j = d j) → feN nt ng rc ys lz F c n = feN nt ng rc ys lz F d n
  | 0, _ => rfl
  | n + 1, h => by rw [feN, feN, feN_cg n (fun j hj => h j (by omega)), h (2 * n) (by omega), h (2 * n + 1) (by omega)]
theorem feX_cg {nt ng : Nat} {rc ys lz : Nat → Int32} {F : Fs} {c d : Nat → Int32} {n : Nat} {z x : Int32} (h : ∀ j, j < 2 * n → c j = d j) (q : feX nt ng rc ys lz F c n z x) : feX nt ng rc ys lz F d n z x := by
  rcases q with ⟨G, a, b⟩ | ⟨p, G, a, b, e, f⟩
  · exact Or.inl ⟨G, by rw [← feN_cg n h]; exact a, b⟩
  · exact Or.inr ⟨p, G, a, by rw [← feN_cg p (fun j hj => h j (by omega))]; exact b, by rw [← h (2 * p) (by omega), ← h (2 * p + 1) (by omega)]; exact e, f⟩
theorem rl_fe {tk : Nat → Nat} {nt : Nat} {V M : Vt} {ng : Nat} {rr : Nat → Nat} {c_0_ : Nat} {W : Vt} (h : REL tk nt V M ng rr c_0_) (hW : ∀ a, a ≠ 55 → W a = V a) : feM0 M ng nt (rcX tk W) (yS W) (lS W) (fe0 W rr) := by
  have n_4_ := h.1.1.2.1
  refine ⟨?_, h.2.1.1, n_4_, fun g hg => ?_, h.2.1.2.2.1, h.2.1.2.2.2.1, fun t ht => ?_⟩
  · show M 0 5 = W 0 0
    rw [hW 0 (by omega)]; exact h.2.2.2.2.2.2.1.1.1.symm
  · obtain ⟨c_1_, c_2_, c_3_⟩ := h.2.2.1 g hg
    refine ⟨?_, ?_, (h.2.1.2.2.2.2.1 g hg).1, (h.2.1.2.2.2.2.1 g hg).2, fun j hj => ⟨?_, ?_⟩⟩
    · show M 4 g = W (0 + 2 + 3 * g) 0
      rw [hW _ (by omega)]; exact c_1_.1.symm
    · show M 5 g = W (0 + 2 + 3 * g) 1
      rw [hW _ (by omega)]; exact c_2_.1.symm
    · show mW M g j = W (0 + 2 + 3 * g + 1) j
      rw [hW _ (by omega)]; exact (c_3_ j hj).1.symm
    · show mM M g j = W (0 + 2 + 3 * g + 2) j
      rw [hW _ (by omega)]; exact (c_3_ j hj).2.1.symm
  · show _ = rch (kdI (tk t)) (W (56 + t) 1)
    rw [hW _ (by omega)]; exact (rl_rch h ht).symm
theorem rl_wh {tk : Nat → Nat} {nt : Nat} {V M : Vt} {ng : Nat} {rr : Nat → Nat} {c_0_ : Nat} (h : REL tk nt V M ng rr c_0_) : whP V ng rr := fun g hg j hj => by rw [((h.2.2.1 g hg).2.2 j hj).1]; exact ((h.2.2.1 g hg).2.2 j hj).2.2
theorem ag_0 {s len z1 z2 z3 : Int32} (hs : s = -9) : agI s len z1 z2 z3 = 1 := by
  unfold agI
  rw [if_neg (fun q => q.1 hs), if_pos hs]
theorem clag {s len z1 z2 z3 : Int32} (hs : 0 ≤ s ∧ s ≤ 2) (h_3_ : ¬ z3 < 0) : clF s z1 (decide (0 ≤ z2 ∧ z2 ≤ len ∧ 0 ≤ z3 ∧ z3 ≤ len - z2)) = agI s len z1 z2 z3 := by
  have l := lane_no hs
  by_cases q : s = z1
  · have a : agI s len z1 z2 z3 = if z2 < 0 ∨ len < z2 ∨ len - z2 < z3 then 3 else 0 := by unfold agI; rw [if_neg (fun w => w.2 q), if_neg l.2, if_neg h_3_]
    by_cases r : 0 ≤ z2 ∧ z2 ≤ len ∧ 0 ≤ z3 ∧ z3 ≤ len - z2
    · have n : ¬ (z2 < 0 ∨ len < z2 ∨ len - z2 < z3) := by
        rintro (w | w | w)
        · exact absurd w (Int32.not_lt.mpr r.1)
        · exact absurd w (Int32.not_lt.mpr r.2.1)
        · exact absurd w (Int32.not_lt.mpr r.2.2.2)
      rw [a, if_neg n, decide_eq_true r]
      unfold clF
      rw [if_neg l.1, if_pos q]
      rfl
    · have n : z2 < 0 ∨ len < z2 ∨ len - z2 < z3 := Classical.byContradiction fun w => r ⟨Int32.not_lt.mp (fun v => w (Or.inl v)), Int32.not_lt.mp (fun v => w (Or.inr (Or.inl v))), Int32.not_lt.mp h_3_, Int32.not_lt.mp (fun v => w (Or.inr (Or.inr v)))⟩
      rw [a, if_pos n, decide_eq_false r]
      unfold clF
      rw [if_neg l.1, if_pos q]
      rfl
  · unfold clF agI
    rw [if_neg l.1, if_neg q, if_pos ⟨l.2, q⟩]
theorem r_feast {tk : Nat → Nat} {nt : Nat} {V M : Vt} {ng : Nat} {rr : Nat → Nat} {c_0_ : Nat} (z0 z1 z2 z3 z4 : Int32) {x y : Int32} {V2 M2 : Vt} (h : REL tk nt V M ng rr c_0_) (hx : if ¬ z0 < 0 ∧ z0 < nI 4 then (if 0 ≤ z1 ∧ z1 ≤ 2 then (if 0 ≤ z3 ∧ z3 ≤ 20 then (if (0 ≤ z4 ∧ z4 ≤ 4) ∨ (10 ≤ z4 ∧ z4 ≤ 13) then (if clF ((up2 V 55 9 0) (34 + 2 * z0.toNatClampNeg) 0) z1 (decide (0 ≤ z2 ∧ z2 ≤ (up2 V 55 9 0) (34 + 2 * z0.toNatClampNeg) 1 ∧ 0 ≤ 2 * z3 ∧ 2 * z3 ≤ (up2 V 55 9 0) (34 + 2 * z0.toNatClampNeg) 1 - z2)) = 0 then (if nt = 0 then (x = -3 ∧ V2 = (up2 V 55 9 0)) else if rfN nt (fun j => (up2 V 55 9 0) ((34 + 2 * z0.toNatClampNeg) + 1) (z2.toNatClampNeg + j)) z3.toNatClampNeg = 0 then (feX nt ng (rcX tk (up2 V 55 9 0)) (yS (up2 V 55 9 0)) (lS (up2 V 55 9 0)) (fe0 (up2 V 55 9 0) rr) (fun j => (up2 V 55 9 0) ((34 + 2 * z0.toNatClampNeg) + 1) (z2.toNatClampNeg + j)) z3.toNatClampNeg z4 x ∧ frF (up2 V 55 9 0) V2) else (x = rfN nt (fun j => (up2 V 55 9 0) ((34 + 2 * z0.toNatClampNeg) + 1) (z2.toNatClampNeg + j)) z3.toNatClampNeg ∧ V2 = (up2 V 55 9 0))) else (x = -10 - clF ((up2 V 55 9 0) (34 + 2 * z0.toNatClampNeg) 0) z1 (decide (0 ≤ z2 ∧ z2 ≤ (up2 V 55 9 0) (34 + 2 * z0.toNatClampNeg) 1 ∧ 0 ≤ 2 * z3 ∧ 2 * z3 ≤ (up2 V 55 9 0) (34 + 2 * z0.toNatClampNeg) 1 - z2)) ∧ V2 = up2 (up2 V 55 9 0) 55 9 (clF ((up2 V 55 9 0) (34 + 2 * z0.toNatClampNeg) 0) z1 (decide (0 ≤ z2 ∧ z2 ≤ (up2 V 55 9 0) (34 + 2 * z0.toNatClampNeg) 1 ∧ 0 ≤ 2 * z3 ∧ 2 * z3 ≤ (up2 V 55 9 0) (34 + 2 * z0.toNatClampNeg) 1 - z2))))) else (x = -2 ∧ V2 = (up2 V 55 9 0))) else (x = -2 ∧ V2 = (up2 V 55 9 0))) else (x = -2 ∧ V2 = (up2 V 55 9 0))) else (x = -1 ∧ V2 = (up2 V 55 9 0))) (hy : if ¬ z0 < 0 ∧ z0 < nI 4 then (if 0 ≤ z1 ∧ z1 ≤ 2 then (if 0 ≤ z3 ∧ z3 ≤ 20 then (if (0 ≤ z4 ∧ z4 ≤ 4) ∨ (10 ≤ z4 ∧ z4 ≤ 13) then (if agI ((up2 M 0 0 0) 1 z0.toNatClampNeg) ((up2 M 0 0 0) 2 z0.toNatClampNeg) z1 z2 (2 * z3) = 0 then (if ng = 0 then (y = -3 ∧ M2 = (up2 M 0 0 0)) else if rfN nt (fun j => (up2 M 0 0 0) 3 (60 * z0.toNatClampNeg + z2.toNatClampNeg + j)) z3.toNatClampNeg = 0 then (feX nt ng (rcX tk (up2 V 55 9 0)) (yS (up2 V 55 9 0)) (lS (up2 V 55 9 0)) (fe0 (up2 V 55 9 0) rr) (fun j => (up2 M 0 0 0) 3 (60 * z0.toNatClampNeg + z2.toNatClampNeg + j)) z3.toNatClampNeg z4 y ∧ scE ng rr (up2 M 0 0 0) M2) else (y = rfN nt (fun j => (up2 M 0 0 0) 3 (60 * z0.toNatClampNeg + z2.toNatClampNeg + j)) z3.toNatClampNeg ∧ M2 = (up2 M 0 0 0))) else (y = -10 - agI ((up2 M 0 0 0) 1 z0.toNatClampNeg) ((up2 M 0 0 0) 2 z0.toNatClampNeg) z1 z2 (2 * z3) ∧ M2 = up2 (up2 M 0 0 0) 0 0 (agI ((up2 M 0 0 0) 1 z0.toNatClampNeg) ((up2 M 0 0 0) 2 z0.toNatClampNeg) z1 z2 (2 * z3)))) else (y = -2 ∧ M2 = (up2 M 0 0 0))) else (y = -2 ∧ M2 = (up2 M 0 0 0))) else (y = -2 ∧ M2 = (up2 M 0 0 0))) else (y = -1 ∧ M2 = (up2 M 0 0 0))) : x = y ∧ RLo tk nt V2 M2 := by
  have n_4_ := h.1.1.2.1
  have t5 := h.1.2.2.1
  have iz := h.2.2.2.2.2.2.2
  have h_1_ := U_fault 0 h
  generalize up2 V 55 9 0 = W1 at h_1_ hx hy
  generalize up2 M 0 0 0 = N1 at h_1_ hy
  by_cases c : ¬ z0 < 0 ∧ z0 < nI 4
  · rw [if_pos c] at hx hy
    obtain ⟨k, hk, e, ec⟩ := inr c (by omega)
    rw [ec] at hx hy
    by_cases c_2_ : 0 ≤ z1 ∧ z1 ≤ 2
    · rw [if_pos c_2_] at hx hy
      by_cases c_3_ : 0 ≤ z3 ∧ z3 ≤ 20
      · rw [if_pos c_3_] at hx hy
        by_cases c_4_ : (0 ≤ z4 ∧ z4 ≤ 4) ∨ (10 ≤ z4 ∧ z4 ≤ 13)
        · rw [if_pos c_4_] at hx hy
          obtain ⟨n_3_, m1, m2, en3⟩ := rng_n (lo := 0) (hi := 20) c_3_.1 c_3_.2 (by omega) (by omega)
          have e23 : 2 * z3 = nI (2 * n_3_) := by rw [en3]; exact pk_mul 2 n_3_
          have ng3 : ¬ 2 * z3 < 0 := by rw [e23]; exact nI_pos (by omega)
          rcases h_1_.2.2.2.2.2.1 k hk with w | ⟨w, n, hn, e1, e2, w5⟩
          · have q1 : clF (W1 (34 + 2 * k) 0) z1 (decide (0 ≤ z2 ∧ z2 ≤ W1 (34 + 2 * k) 1 ∧ 0 ≤ 2 * z3 ∧ 2 * z3 ≤ W1 (34 + 2 * k) 1 - z2)) = 1 := by unfold clF; rw [if_pos w.1]
            rw [q1] at hx
            rw [ag_0 w.2] at hy
            rw [if_neg (by decide)] at hx hy
            exact ⟨hx.1.trans hy.1.symm, ng, rr, c_0_, by rw [hx.2, hy.2]; exact U_fault 1 h_1_⟩
          · rw [w.1, e1, clag w.2 ng3] at hx
            rw [e2] at hy
            by_cases c_5_ : agI (N1 1 k) (nI n) z1 z2 (2 * z3) = 0
            · rw [if_pos c_5_] at hx hy
              by_cases c_6_ : nt = 0
              · rw [if_pos c_6_] at hx
                rw [if_pos (iz.mp c_6_)] at hy
                exact ⟨hx.1.trans hy.1.symm, ng, rr, c_0_, by rw [hx.2, hy.2]; exact h_1_⟩
              · rw [if_neg c_6_] at hx
                rw [if_neg (fun q => c_6_ (iz.mpr q))] at hy
                obtain ⟨i8, k8, ei8, ek8, hi8⟩ := re60 rfl hn (agI_0 c_5_)
                have ekn : k8 = 2 * n_3_ := nI_inj (by omega) (by omega) (ek8.symm.trans e23)
                have ez2 : z2.toNatClampNeg = i8 := by rw [ei8, nI_clamp (by omega)]
                have ez3 : z3.toNatClampNeg = n_3_ := by rw [en3, nI_clamp (by omega)]
                rw [ez2, ez3] at hx hy
                have cc : ∀ j, j < 2 * n_3_ → (fun j => W1 (34 + 2 * k + 1) (i8 + j)) j = (fun j => N1 3 (60 * k + i8 + j)) j := fun j hj => by
                  dsimp only
                  rw [(w5 (i8 + j) (by omega)).1, Nat.add_assoc]
                rw [rfN_cg n_3_ cc] at hx
                by_cases c_7_ : rfN nt (fun j => N1 3 (60 * k + i8 + j)) n_3_ = 0
                · rw [if_pos c_7_] at hx hy
                  exact ⟨feX_one (feX_cg cc hx.1) hy.1, ng, rr, c_0_, REL_M (REL_X h_1_ (scX.fF hx.2)) hy.2⟩
                · rw [if_neg c_7_] at hx hy
                  exact ⟨hx.1.trans hy.1.symm, ng, rr, c_0_, by rw [hx.2, hy.2]; exact h_1_⟩
            · rw [if_neg c_5_] at hx hy
              exact ⟨hx.1.trans hy.1.symm, ng, rr, c_0_, by rw [hx.2, hy.2]; exact U_fault _ h_1_⟩
        · rw [if_neg c_4_] at hx hy
          exact ⟨hx.1.trans hy.1.symm, ng, rr, c_0_, by rw [hx.2, hy.2]; exact h_1_⟩
      · rw [if_neg c_3_] at hx hy
        exact ⟨hx.1.trans hy.1.symm, ng, rr, c_0_, by rw [hx.2, hy.2]; exact h_1_⟩
    · rw [if_neg c_2_] at hx hy
      exact ⟨hx.1.trans hy.1.symm, ng, rr, c_0_, by rw [hx.2, hy.2]; exact h_1_⟩
  · rw [if_neg c] at hx hy
    exact ⟨hx.1.trans hy.1.symm, ng, rr, c_0_, by rw [hx.2, hy.2]; exact h_1_⟩
