theorem U_lv {tk : Nat → Nat} {nt : Nat} {V M : Vt} {ng : Nat} {rr : Nat → Nat} {c_0_ : Nat} (b : Int32) (h : REL tk nt V M ng rr c_0_) : REL tk nt (lvT V b) (bgM M b) ng rr c_0_ := by
  unfold lvT bgM
  rw [h.2.2.2.2.2.2.1.2.1]
  exact U_trace _ h
theorem z012 {z : Int32} (h : 0 ≤ z ∧ z ≤ 2) : z = 0 ∨ z = 1 ∨ z = 2 := by
  rcases pk_ix z (n := 3) (by omega) with w | w | ⟨j, w, e⟩
  · exact absurd w (Int32.not_lt.mpr h.1)
  · exact absurd (Int32.le_trans w h.2) (by decide)
  · rcases (show j = 0 ∨ j = 1 ∨ j = 2 by omega) with k | k | k
    · exact Or.inl (by rw [e, k]; rfl)
    · exact Or.inr (Or.inl (by rw [e, k]; rfl))
    · exact Or.inr (Or.inr (by rw [e, k]; rfl))
theorem lane_no {s : Int32} (h : 0 ≤ s ∧ s ≤ 2) : ¬ s = -1 ∧ ¬ s = -9 := by
  rcases z012 h with e | e | e <;> rw [e] <;> exact ⟨by decide, by decide⟩
theorem in_nn {z : Int32} {n : Nat} (h : 0 ≤ z ∧ z < nI n) (hn : n < 100) : ∃ j, j < n ∧ z = nI j ∧ z.toNatClampNeg = j := inr ⟨Int32.not_lt.mpr h.1, h.2⟩ hn
theorem r_tell {tk : Nat → Nat} {nt : Nat} {V M : Vt} {ng : Nat} {rr : Nat → Nat} {c_0_ : Nat} (z0 : Int32) {x y : Int32} {V2 M2 : Vt} (h : REL tk nt V M ng rr c_0_) (hx : (V2 = if ¬ z0 < 0 ∧ z0 < nI nt then telV V (tk z0.toNatClampNeg) else V) ∧ x = if ¬ z0 < 0 ∧ z0 < nI nt then telX (V (56 + z0.toNatClampNeg) 1) (tk z0.toNatClampNeg) else -1) (hy : (M2 = if ¬ z0 < 0 ∧ z0 < nI nt then tlM M (M 6 z0.toNatClampNeg) else M) ∧ y = if ¬ z0 < 0 ∧ z0 < nI nt then tlX (M 7 z0.toNatClampNeg) (M 6 z0.toNatClampNeg) else -1) : x = y ∧ RLo tk nt V2 M2 := by
  have n_4_ := h.1.1.2.1
  have t5 := h.1.2.2.1
  obtain ⟨ex, hx⟩ := hx
  obtain ⟨ey, hy⟩ := hy
  by_cases c : ¬ z0 < 0 ∧ z0 < nI nt
  · rw [if_pos c] at ex hx ey hy
    obtain ⟨t, ht, e, ec⟩ := inr c (by omega)
    obtain ⟨d1, d2, -⟩ := h.2.2.2.1 t ht
    rw [ec] at ex hx ey hy
    rw [← d1] at ey hy
    rw [d2] at hx
    rcases (h.1.2.2.2.1 t ht).1 with k | k | k
    · rw [k] at ex hx ey hy
      rw [ex, ey, hx, hy]
      exact ⟨rfl, ng, rr, c_0_, U_lv 1 h⟩
    · rw [k] at ex hx ey hy
      rw [ex, ey, hx, hy]
      exact ⟨rfl, ng, rr, c_0_, U_lv 1 (U_lv 2 h)⟩
    · rw [k] at ex hx ey hy
      rw [ex, ey, hx, hy]
      refine ⟨?_, ng, rr, c_0_, U_lv 1 (U_lv 1 (U_lv 2 (U_lv 3 h)))⟩
      show M 7 t + 100 + M 7 t = 2 * M 7 t + 100
      rw [Int32.two_mul, Int32.add_assoc, Int32.add_comm 100, ← Int32.add_assoc]
  · rw [if_neg c] at ex hx ey hy
    rw [ex, ey]; exact ⟨hx.trans hy.symm, ng, rr, c_0_, h⟩
theorem r_cheer {tk : Nat → Nat} {nt : Nat} {V M : Vt} {ng : Nat} {rr : Nat → Nat} {c_0_ : Nat} (z0 : Int32) {x y : Int32} {V2 M2 : Vt} (h : REL tk nt V M ng rr c_0_) (hx : (V2 = if ¬ z0 < 0 ∧ z0 < nI nt then (if tk z0.toNatClampNeg = 8 then lvT V 5 else lvT V 4) else V) ∧ x = if ¬ z0 < 0 ∧ z0 < nI nt then (if tk z0.toNatClampNeg = 8 then 50 else z0) else -1) (hy : (M2 = if ¬ z0 < 0 ∧ z0 < nI nt then (if M 6 z0.toNatClampNeg = 2 then bgM M 5 else bgM M 4) else M) ∧ y = if ¬ z0 < 0 ∧ z0 < nI nt then (if M 6 z0.toNatClampNeg = 2 then 50 else z0) else -1) : x = y ∧ RLo tk nt V2 M2 := by
  have n_4_ := h.1.1.2.1
  have t5 := h.1.2.2.1
  obtain ⟨ex, hx⟩ := hx
  obtain ⟨ey, hy⟩ := hy
  by_cases c : ¬ z0 < 0 ∧ z0 < nI nt
  · rw [if_pos c] at ex hx ey hy
    obtain ⟨t, ht, e, ec⟩ := inr c (by omega)
    obtain ⟨d1, d2, -⟩ := h.2.2.2.1 t ht
    rw [ec] at ex hx ey hy
    rw [← d1] at ey hy
    rcases (h.1.2.2.2.1 t ht).1 with k | k | k
    · rw [k] at ex hx ey hy
      rw [if_neg (by decide)] at ex hx ey hy
      rw [ex, ey, hx, hy]
      exact ⟨rfl, ng, rr, c_0_, U_lv 4 h⟩
    · rw [k] at ex hx ey hy
      rw [if_neg (by decide)] at ex hx ey hy
      rw [ex, ey, hx, hy]
      exact ⟨rfl, ng, rr, c_0_, U_lv 4 h⟩
    · rw [k] at ex hx ey hy
      rw [if_pos (by decide)] at ex hx ey hy
      rw [ex, ey, hx, hy]
      exact ⟨rfl, ng, rr, c_0_, U_lv 5 h⟩
  · rw [if_neg c] at ex hx ey hy
    rw [ex, ey]; exact ⟨hx.trans hy.symm, ng, rr, c_0_, h⟩
theorem r_as {tk : Nat → Nat} {nt : Nat} {V M : Vt} {ng : Nat} {rr : Nat → Nat} {c_0_ : Nat} (z0 z1 : Int32) {x y : Int32} {V2 M2 : Vt} (h : REL tk nt V M ng rr c_0_) (hx : (V2 = if ¬ z0 < 0 ∧ z0 < nI nt then (if 0 ≤ z1 ∧ z1 ≤ 2 then (if kcB (tk z0.toNatClampNeg) z1 = true then (up2 V 55 9 0) else up2 (up2 V 55 9 0) 55 9 2) else (up2 V 55 9 0)) else (up2 V 55 9 0)) ∧ x = if ¬ z0 < 0 ∧ z0 < nI nt then (if 0 ≤ z1 ∧ z1 ≤ 2 then (if kcB (tk z0.toNatClampNeg) z1 = true then 1 else -12) else -2) else -1) (hy : (M2 = if ¬ z0 < 0 ∧ z0 < nI nt then (if 0 ≤ z1 ∧ z1 ≤ 2 then (if z1 ≤ (up2 M 0 0 0) 6 z0.toNatClampNeg then (up2 M 0 0 0) else up2 (up2 M 0 0 0) 0 0 2) else (up2 M 0 0 0)) else (up2 M 0 0 0)) ∧ y = if ¬ z0 < 0 ∧ z0 < nI nt then (if 0 ≤ z1 ∧ z1 ≤ 2 then (if z1 ≤ (up2 M 0 0 0) 6 z0.toNatClampNeg then 1 else -12) else -2) else -1) : x = y ∧ RLo tk nt V2 M2 := by
  have n_4_ := h.1.1.2.1
  have t5 := h.1.2.2.1
  obtain ⟨ex, hx⟩ := hx
  obtain ⟨ey, hy⟩ := hy
  have d6 : ∀ t, t < nt → up2 M 0 0 0 6 t = kdI (tk t) := fun t ht => by rw [up2_k _ _ (by decide)]; exact (h.2.2.2.1 t ht).1.symm
  have h_1_ := U_fault 0 h
  have n_0_ : up2 M 0 0 0 0 0 = 0 := up2_s ..
  generalize up2 V 55 9 0 = W1 at h_1_ ex hx
  generalize up2 M 0 0 0 = N1 at h_1_ n_0_ d6 ey hy
  by_cases c : ¬ z0 < 0 ∧ z0 < nI nt
  · rw [if_pos c] at ex hx ey hy
    obtain ⟨t, ht, e, ec⟩ := inr c (by omega)
    rw [ec] at ex hx ey hy
    by_cases c_2_ : 0 ≤ z1 ∧ z1 ≤ 2
    · rw [if_pos c_2_] at ex hx ey hy
      rw [d6 t ht] at ey hy
      have key : kcB (tk t) z1 = true ↔ z1 ≤ kdI (tk t) := by
        rcases (h.1.2.2.2.1 t ht).1 with k | k | k <;> rcases z012 c_2_ with q | q | q <;> rw [k, q] <;> decide
      by_cases c_3_ : kcB (tk t) z1 = true
      · rw [if_pos c_3_] at ex hx
        rw [if_pos (key.mp c_3_)] at ey hy
        rw [ex, ey]; exact ⟨hx.trans hy.symm, ng, rr, c_0_, h_1_⟩
      · rw [if_neg c_3_] at ex hx
        rw [if_neg (fun q => c_3_ (key.mpr q))] at ey hy
        rw [ex, ey]; exact ⟨hx.trans hy.symm, ng, rr, c_0_, U_fault 2 h_1_⟩
    · rw [if_neg c_2_] at ex hx ey hy
      rw [ex, ey]; exact ⟨hx.trans hy.symm, ng, rr, c_0_, h_1_⟩
  · rw [if_neg c] at ex hx ey hy
    rw [ex, ey]; exact ⟨hx.trans hy.symm, ng, rr, c_0_, h_1_⟩
theorem r_sheet {tk : Nat → Nat} {nt : Nat} {V M : Vt} {ng : Nat} {rr : Nat → Nat} {c_0_ : Nat} (z0 z1 z2 : Int32) {x y : Int32} {V2 M2 : Vt} (h : REL tk nt V M ng rr c_0_) (hx : (V2 = if ¬ z0 < 0 ∧ z0 < nI 4 then (if 0 ≤ z1 ∧ z1 ≤ 2 then (if 60 < z2 then (up2 V 55 9 0) else (if z2 < 0 then up2 (up2 V 55 9 0) 55 9 4 else rnV (up2 V 55 9 0) (34 + 2 * z0.toNatClampNeg) z1 z2 60)) else (up2 V 55 9 0)) else (up2 V 55 9 0)) ∧ x = if ¬ z0 < 0 ∧ z0 < nI 4 then (if 0 ≤ z1 ∧ z1 ≤ 2 then (if 60 < z2 then -2 else (if z2 < 0 then -14 else 1)) else -2) else -1) (hy : (M2 = if ¬ z0 < 0 ∧ z0 < nI 4 then (if 0 ≤ z1 ∧ z1 ≤ 2 then (if 60 < z2 then (up2 M 0 0 0) else (if z2 < 0 then up2 (up2 M 0 0 0) 0 0 4 else rnM (up2 M 0 0 0) z0.toNatClampNeg z1 z2 60)) else (up2 M 0 0 0)) else (up2 M 0 0 0)) ∧ y = if ¬ z0 < 0 ∧ z0 < nI 4 then (if 0 ≤ z1 ∧ z1 ≤ 2 then (if 60 < z2 then -2 else (if z2 < 0 then -14 else 1)) else -2) else -1) : x = y ∧ RLo tk nt V2 M2 := by
  have n_4_ := h.1.1.2.1
  have t5 := h.1.2.2.1
  obtain ⟨ex, hx⟩ := hx
  obtain ⟨ey, hy⟩ := hy
  have h_1_ := U_fault 0 h
  have n_0_ : up2 M 0 0 0 0 0 = 0 := up2_s ..
  generalize up2 V 55 9 0 = W1 at h_1_ ex hx
  generalize up2 M 0 0 0 = N1 at h_1_ n_0_ ey hy
  by_cases c : ¬ z0 < 0 ∧ z0 < nI 4
  · rw [if_pos c] at ex hx ey hy
    obtain ⟨k, hk, e, ec⟩ := inr c (by omega)
    rw [ec] at ex ey
    by_cases c_2_ : 0 ≤ z1 ∧ z1 ≤ 2
    · rw [if_pos c_2_] at ex hx ey hy
      by_cases c_3_ : 60 < z2
      · rw [if_pos c_3_] at ex hx ey hy
        rw [ex, ey]; exact ⟨hx.trans hy.symm, ng, rr, c_0_, h_1_⟩
      · rw [if_neg c_3_] at ex hx ey hy
        by_cases c_4_ : z2 < 0
        · rw [if_pos c_4_] at ex hx ey hy
          rw [ex, ey]; exact ⟨hx.trans hy.symm, ng, rr, c_0_, U_fault 4 h_1_⟩
        · rw [if_neg c_4_] at ex hx ey hy
          obtain ⟨n, hn, en⟩ : ∃ n, n < 61 ∧ z2 = nI n := by
            rcases pk_ix z2 (n := 61) (by omega) with w | w | w
            · exact absurd w c_4_
            · exact absurd (Int32.lt_of_lt_of_le (show (60 : Int32) < nI 61 by decide) w) c_3_
            · exact w
          rw [en] at ex ey
          rw [ex, ey, hx, hy]
          exact ⟨rfl, ng, rr, c_0_, U_sheet k n z1 hk c_2_ (by omega) h_1_⟩
    · rw [if_neg c_2_] at ex hx ey hy
      rw [ex, ey]; exact ⟨hx.trans hy.symm, ng, rr, c_0_, h_1_⟩
  · rw [if_neg c] at ex hx ey hy
    rw [ex, ey]; exact ⟨hx.trans hy.symm, ng, rr, c_0_, h_1_⟩
theorem r_lose {tk : Nat → Nat} {nt : Nat} {V M : Vt} {ng : Nat} {rr : Nat → Nat} {c_0_ : Nat} (z0 : Int32) {x y : Int32} {V2 M2 : Vt} (h : REL tk nt V M ng rr c_0_) (hx : (V2 = if ¬ z0 < 0 ∧ z0 < nI 4 then (if V (34 + 2 * z0.toNatClampNeg) 0 = -1 then V else up2 (up2 V (34 + 2 * z0.toNatClampNeg) 0 (-1)) (34 + 2 * z0.toNatClampNeg) 1 0) else V) ∧ x = if ¬ z0 < 0 ∧ z0 < nI 4 then (if V (34 + 2 * z0.toNatClampNeg) 0 = -1 then 0 else 1) else -1) (hy : (M2 = if ¬ z0 < 0 ∧ z0 < nI 4 then up2 M 1 z0.toNatClampNeg (-9) else M) ∧ y = if ¬ z0 < 0 ∧ z0 < nI 4 then (if M 1 z0.toNatClampNeg = -9 then 0 else 1) else -1) : x = y ∧ RLo tk nt V2 M2 := by
  have n_4_ := h.1.1.2.1
  have t5 := h.1.2.2.1
  obtain ⟨ex, hx⟩ := hx
  obtain ⟨ey, hy⟩ := hy
  by_cases c : ¬ z0 < 0 ∧ z0 < nI 4
  · rw [if_pos c] at ex hx ey hy
    obtain ⟨k, hk, e, ec⟩ := inr c (by omega)
    rw [ec] at ex hx ey hy
    refine ⟨?_, ng, rr, c_0_, ?_⟩
    · rw [hx, hy]
      rcases h.2.2.2.2.2.1 k hk with w | ⟨w, -⟩
      · rw [if_pos w.1, if_pos w.2]
      · have l := lane_no w.2
        rw [w.1, if_neg l.1, if_neg l.2]
    · rw [ex, ey]
      exact U_lose k hk h
  · rw [if_neg c] at ex hx ey hy
    rw [ex, ey]; exact ⟨hx.trans hy.symm, ng, rr, c_0_, h⟩
theorem r_put {tk : Nat → Nat} {nt : Nat} {V M : Vt} {ng : Nat} {rr : Nat → Nat} {c_0_ : Nat} (z0 z1 z2 : Int32) {x y : Int32} {V2 M2 : Vt} (h : REL tk nt V M ng rr c_0_) (hx : (V2 = if ¬ z0 < 0 ∧ z0 < nI 4 then (if (up2 V 55 9 0) (34 + 2 * z0.toNatClampNeg) 0 = -1 then up2 (up2 V 55 9 0) 55 9 1 else (if 0 ≤ z1 ∧ z1 < (up2 V 55 9 0) (34 + 2 * z0.toNatClampNeg) 1 then (if 0 ≤ z1 ∧ z1 < (up2 V 55 9 0) (34 + 2 * z0.toNatClampNeg) 1 then up2 (up2 V 55 9 0) ((34 + 2 * z0.toNatClampNeg) + 1) z1.toNatClampNeg (cutI ((up2 V 55 9 0) (34 + 2 * z0.toNatClampNeg) 0) z2) else (up2 V 55 9 0)) else up2 (up2 V 55 9 0) 55 9 3)) else (up2 V 55 9 0)) ∧ x = if ¬ z0 < 0 ∧ z0 < nI 4 then (if (up2 V 55 9 0) (34 + 2 * z0.toNatClampNeg) 0 = -1 then -11 else (if 0 ≤ z1 ∧ z1 < (up2 V 55 9 0) (34 + 2 * z0.toNatClampNeg) 1 then 1 else -13)) else -1) (hy : (M2 = if ¬ z0 < 0 ∧ z0 < nI 4 then (if (up2 M 0 0 0) 1 z0.toNatClampNeg = -9 then up2 (up2 M 0 0 0) 0 0 1 else (if 0 ≤ z1 ∧ z1 < (up2 M 0 0 0) 2 z0.toNatClampNeg then up2 (up2 M 0 0 0) 3 (60 * z0.toNatClampNeg + z1.toNatClampNeg) (cutI ((up2 M 0 0 0) 1 z0.toNatClampNeg) z2) else up2 (up2 M 0 0 0) 0 0 3)) else (up2 M 0 0 0)) ∧ y = if ¬ z0 < 0 ∧ z0 < nI 4 then (if (up2 M 0 0 0) 1 z0.toNatClampNeg = -9 then -11 else (if 0 ≤ z1 ∧ z1 < (up2 M 0 0 0) 2 z0.toNatClampNeg then 1 else -13)) else -1) : x = y ∧ RLo tk nt V2 M2 := by
  have n_4_ := h.1.1.2.1
  have t5 := h.1.2.2.1
  obtain ⟨ex, hx⟩ := hx
  obtain ⟨ey, hy⟩ := hy
  have h_1_ := U_fault 0 h
  have n_0_ : up2 M 0 0 0 0 0 = 0 := up2_s ..
  generalize up2 V 55 9 0 = W1 at h_1_ ex hx
  generalize up2 M 0 0 0 = N1 at h_1_ n_0_ ey hy
  by_cases c : ¬ z0 < 0 ∧ z0 < nI 4
  · rw [if_pos c] at ex hx ey hy
    obtain ⟨k, hk, e, ec⟩ := inr c (by omega)
    rw [ec] at ex hx ey hy
    rcases h_1_.2.2.2.2.2.1 k hk with w | ⟨w, n, hn, e1, e2, -⟩
    · rw [if_pos w.1] at ex hx
      rw [if_pos w.2] at ey hy
      rw [ex, ey]; exact ⟨hx.trans hy.symm, ng, rr, c_0_, U_fault 1 h_1_⟩
    · have l := lane_no w.2
      rw [if_neg (by rw [w.1]; exact l.1)] at ex hx
      rw [if_neg l.2] at ey hy
      rw [e1] at ex hx
      rw [e2] at ey hy
      by_cases c_2_ : 0 ≤ z1 ∧ z1 < nI n
      · rw [if_pos c_2_] at ex hx ey hy
        rw [if_pos c_2_] at ex
        obtain ⟨i, hi, ei, ei2⟩ := in_nn c_2_ (by omega)
        rw [ei2] at ex ey
        rw [ex, ey, hx, hy]
        exact ⟨rfl, ng, rr, c_0_, U_put k n i z2 hk hi hn w.1 e2 h_1_ l.2⟩
      · rw [if_neg c_2_] at ex hx ey hy
        rw [ex, ey]; exact ⟨hx.trans hy.symm, ng, rr, c_0_, U_fault 3 h_1_⟩
  · rw [if_neg c] at ex hx ey hy
    rw [ex, ey]; exact ⟨hx.trans hy.symm, ng, rr, c_0_, h_1_⟩
theorem r_cell {tk : Nat → Nat} {nt : Nat} {V M : Vt} {ng : Nat} {rr : Nat → Nat} {c_0_ : Nat} (z0 z1 z2 : Int32) {x y : Int64} {V2 M2 : Vt} (h : REL tk nt V M ng rr c_0_) (hx : (V2 = if ¬ z0 < 0 ∧ z0 < nI 4 then (if 0 ≤ z2 ∧ z2 ≤ 2 then up2 (up2 V 55 9 0) 55 9 (clF ((up2 V 55 9 0) (34 + 2 * z0.toNatClampNeg) 0) z2 (decide (0 ≤ z1 ∧ z1 < (up2 V 55 9 0) (34 + 2 * z0.toNatClampNeg) 1))) else (up2 V 55 9 0)) else (up2 V 55 9 0)) ∧ x = if ¬ z0 < 0 ∧ z0 < nI 4 then (if 0 ≤ z2 ∧ z2 ≤ 2 then (if clF ((up2 V 55 9 0) (34 + 2 * z0.toNatClampNeg) 0) z2 (decide (0 ≤ z1 ∧ z1 < (up2 V 55 9 0) (34 + 2 * z0.toNatClampNeg) 1)) = 0 then ((up2 V 55 9 0) ((34 + 2 * z0.toNatClampNeg) + 1) z1.toNatClampNeg).toInt64 else (-9223372036854775808)) else (-9223372036854775808)) else (-9223372036854775808)) (hy : (M2 = if ¬ z0 < 0 ∧ z0 < nI 4 then (if 0 ≤ z2 ∧ z2 ≤ 2 then (if clM ((up2 M 0 0 0) 1 z0.toNatClampNeg) z2 (decide (0 ≤ z1 ∧ z1 < (up2 M 0 0 0) 2 z0.toNatClampNeg)) = 0 then (up2 M 0 0 0) else up2 (up2 M 0 0 0) 0 0 (clM ((up2 M 0 0 0) 1 z0.toNatClampNeg) z2 (decide (0 ≤ z1 ∧ z1 < (up2 M 0 0 0) 2 z0.toNatClampNeg)))) else (up2 M 0 0 0)) else (up2 M 0 0 0)) ∧ y = if ¬ z0 < 0 ∧ z0 < nI 4 then (if 0 ≤ z2 ∧ z2 ≤ 2 then (if clM ((up2 M 0 0 0) 1 z0.toNatClampNeg) z2 (decide (0 ≤ z1 ∧ z1 < (up2 M 0 0 0) 2 z0.toNatClampNeg)) = 0 then ((up2 M 0 0 0) 3 (60 * z0.toNatClampNeg + z1.toNatClampNeg)).toInt64 else (-9223372036854775808)) else (-9223372036854775808)) else (-9223372036854775808)) : x = y ∧ RLo tk nt V2 M2 := by
  have n_4_ := h.1.1.2.1
  have t5 := h.1.2.2.1
  obtain ⟨ex, hx⟩ := hx
  obtain ⟨ey, hy⟩ := hy
  have h_1_ := U_fault 0 h
  have n_0_ : up2 M 0 0 0 0 0 = 0 := up2_s ..
  generalize up2 V 55 9 0 = W1 at h_1_ ex hx
  generalize up2 M 0 0 0 = N1 at h_1_ n_0_ ey hy
  have nn : up2 N1 0 0 0 = N1 := by
    have q := up2_self N1 0 0
    rw [n_0_] at q
    exact q
  by_cases c : ¬ z0 < 0 ∧ z0 < nI 4
  · rw [if_pos c] at ex hx ey hy
    obtain ⟨k, hk, e, ec⟩ := inr c (by omega)
    rw [ec] at ex hx ey hy
    by_cases c_2_ : 0 ≤ z2 ∧ z2 ≤ 2
    · rw [if_pos c_2_] at ex hx ey hy
      rcases h_1_.2.2.2.2.2.1 k hk with w | ⟨w, n, hn, e1, e2, w5⟩
      · unfold clF at ex hx
        unfold clM at ey hy
        rw [if_pos w.1] at ex hx
        rw [if_pos w.2] at ey hy
        rw [if_neg (by decide)] at hx ey hy
        rw [ex, ey]; exact ⟨hx.trans hy.symm, ng, rr, c_0_, U_fault 1 h_1_⟩
      · have l := lane_no w.2
        rw [e1, w.1] at ex hx
        rw [e2] at ey hy
        have ce : clF (N1 1 k) z2 (decide (0 ≤ z1 ∧ z1 < nI n)) = clM (N1 1 k) z2 (decide (0 ≤ z1 ∧ z1 < nI n)) := by
          unfold clF clM
          rw [if_neg l.1, if_neg l.2]
        rw [ce] at ex hx
        by_cases c_3_ : clM (N1 1 k) z2 (decide (0 ≤ z1 ∧ z1 < nI n)) = 0
        · rw [if_pos c_3_] at hx ey hy
          rw [c_3_] at ex
          have c_4_ : 0 ≤ z1 ∧ z1 < nI n := by
            unfold clM at c_3_
            rw [if_neg l.2] at c_3_
            by_cases q : N1 1 k = z2
            · rw [if_pos q] at c_3_
              by_cases r : 0 ≤ z1 ∧ z1 < nI n
              · exact r
              · rw [if_neg (by simpa using r)] at c_3_
                exact absurd c_3_ (by decide)
            · rw [if_neg q] at c_3_
              exact absurd c_3_ (by decide)
          obtain ⟨i, hi, ei, ei2⟩ := in_nn c_4_ (by omega)
          rw [ei2, (w5 i hi).1] at hx
          rw [ei2] at hy
          rw [ex, ey]
          exact ⟨hx.trans hy.symm, ng, rr, c_0_, nn ▸ U_fault 0 h_1_⟩
        · rw [if_neg c_3_] at hx ey hy
          rw [ex, ey]; exact ⟨hx.trans hy.symm, ng, rr, c_0_, U_fault _ h_1_⟩
    · rw [if_neg c_2_] at ex hx ey hy
      rw [ex, ey]; exact ⟨hx.trans hy.symm, ng, rr, c_0_, h_1_⟩
  · rw [if_neg c] at ex hx ey hy
    rw [ex, ey]; exact ⟨hx.trans hy.symm, ng, rr, c_0_, h_1_⟩
theorem r_copy {tk : Nat → Nat} {nt : Nat} {V M : Vt} {ng : Nat} {rr : Nat → Nat} {c_0_ : Nat} (z0 z1 z2 z3 z4 : Int32) {x y : Int32} {V2 M2 : Vt} (h : REL tk nt V M ng rr c_0_) (hx : (V2 = if ¬ z0 < 0 ∧ z0 < nI 4 then (if ¬ z2 < 0 ∧ z2 < nI 4 then (if (up2 V 55 9 0) (34 + 2 * z0.toNatClampNeg) 0 = -1 then up2 (up2 V 55 9 0) 55 9 1 else (if (up2 V 55 9 0) (34 + 2 * z2.toNatClampNeg) 0 = -1 then up2 (up2 V 55 9 0) 55 9 1 else (if (up2 V 55 9 0) (34 + 2 * z0.toNatClampNeg) 0 = (up2 V 55 9 0) (34 + 2 * z2.toNatClampNeg) 0 then (if 0 ≤ z1 ∧ z1 ≤ (up2 V 55 9 0) (34 + 2 * z0.toNatClampNeg) 1 ∧ 0 ≤ z4 ∧ z4 ≤ (up2 V 55 9 0) (34 + 2 * z0.toNatClampNeg) 1 - z1 then (if 0 ≤ z3 ∧ z3 ≤ (up2 V 55 9 0) (34 + 2 * z2.toNatClampNeg) 1 ∧ 0 ≤ z4 ∧ z4 ≤ (up2 V 55 9 0) (34 + 2 * z2.toNatClampNeg) 1 - z3 then tkV (up2 V 55 9 0) ((34 + 2 * z2.toNatClampNeg) + 1) ((34 + 2 * z0.toNatClampNeg) + 1) ((up2 V 55 9 0) (34 + 2 * z2.toNatClampNeg) 0) z1.toNatClampNeg z3.toNatClampNeg 0 z4.toNatClampNeg else up2 (up2 V 55 9 0) 55 9 3) else up2 (up2 V 55 9 0) 55 9 3) else up2 (up2 V 55 9 0) 55 9 2))) else (up2 V 55 9 0)) else (up2 V 55 9 0)) ∧ x = if ¬ z0 < 0 ∧ z0 < nI 4 then (if ¬ z2 < 0 ∧ z2 < nI 4 then (if (up2 V 55 9 0) (34 + 2 * z0.toNatClampNeg) 0 = -1 then -11 else (if (up2 V 55 9 0) (34 + 2 * z2.toNatClampNeg) 0 = -1 then -11 else (if (up2 V 55 9 0) (34 + 2 * z0.toNatClampNeg) 0 = (up2 V 55 9 0) (34 + 2 * z2.toNatClampNeg) 0 then (if 0 ≤ z1 ∧ z1 ≤ (up2 V 55 9 0) (34 + 2 * z0.toNatClampNeg) 1 ∧ 0 ≤ z4 ∧ z4 ≤ (up2 V 55 9 0) (34 + 2 * z0.toNatClampNeg) 1 - z1 then (if 0 ≤ z3 ∧ z3 ≤ (up2 V 55 9 0) (34 + 2 * z2.toNatClampNeg) 1 ∧ 0 ≤ z4 ∧ z4 ≤ (up2 V 55 9 0) (34 + 2 * z2.toNatClampNeg) 1 - z3 then z4 else -13) else -13) else -12))) else -1) else -1) (hy : (M2 = if ¬ z0 < 0 ∧ z0 < nI 4 then (if ¬ z2 < 0 ∧ z2 < nI 4 then (if (up2 M 0 0 0) 1 z0.toNatClampNeg = -9 then up2 (up2 M 0 0 0) 0 0 1 else (if (up2 M 0 0 0) 1 z2.toNatClampNeg = -9 then up2 (up2 M 0 0 0) 0 0 1 else (if (up2 M 0 0 0) 1 z0.toNatClampNeg = (up2 M 0 0 0) 1 z2.toNatClampNeg then (if (0 ≤ z1 ∧ z1 ≤ (up2 M 0 0 0) 2 z0.toNatClampNeg ∧ 0 ≤ z4 ∧ z4 ≤ (up2 M 0 0 0) 2 z0.toNatClampNeg - z1) ∧ (0 ≤ z3 ∧ z3 ≤ (up2 M 0 0 0) 2 z2.toNatClampNeg ∧ 0 ≤ z4 ∧ z4 ≤ (up2 M 0 0 0) 2 z2.toNatClampNeg - z3) then cpM (up2 M 0 0 0) (60 * z0.toNatClampNeg + z1.toNatClampNeg) (60 * z2.toNatClampNeg + z3.toNatClampNeg) 0 z4.toNatClampNeg else up2 (up2 M 0 0 0) 0 0 3) else up2 (up2 M 0 0 0) 0 0 2))) else (up2 M 0 0 0)) else (up2 M 0 0 0)) ∧ y = if ¬ z0 < 0 ∧ z0 < nI 4 then (if ¬ z2 < 0 ∧ z2 < nI 4 then (if (up2 M 0 0 0) 1 z0.toNatClampNeg = -9 then -11 else (if (up2 M 0 0 0) 1 z2.toNatClampNeg = -9 then -11 else (if (up2 M 0 0 0) 1 z0.toNatClampNeg = (up2 M 0 0 0) 1 z2.toNatClampNeg then (if (0 ≤ z1 ∧ z1 ≤ (up2 M 0 0 0) 2 z0.toNatClampNeg ∧ 0 ≤ z4 ∧ z4 ≤ (up2 M 0 0 0) 2 z0.toNatClampNeg - z1) ∧ (0 ≤ z3 ∧ z3 ≤ (up2 M 0 0 0) 2 z2.toNatClampNeg ∧ 0 ≤ z4 ∧ z4 ≤ (up2 M 0 0 0) 2 z2.toNatClampNeg - z3) then z4 else -13) else -12))) else -1) else -1) : x = y ∧ RLo tk nt V2 M2 := by
  have n_4_ := h.1.1.2.1
  have t5 := h.1.2.2.1
  obtain ⟨ex, hx⟩ := hx
  obtain ⟨ey, hy⟩ := hy
  have h_1_ := U_fault 0 h
  have n_0_ : up2 M 0 0 0 0 0 = 0 := up2_s ..
  generalize up2 V 55 9 0 = W1 at h_1_ ex hx
  generalize up2 M 0 0 0 = N1 at h_1_ n_0_ ey hy
  by_cases c : ¬ z0 < 0 ∧ z0 < nI 4
  · rw [if_pos c] at ex hx ey hy
    by_cases d : ¬ z2 < 0 ∧ z2 < nI 4
    · rw [if_pos d] at ex hx ey hy
      obtain ⟨k, hk, e, ec⟩ := inr c (by omega)
      obtain ⟨k2, hk2, e2, ec2⟩ := inr d (by omega)
      rw [ec, ec2] at ex hx ey hy
      rcases h_1_.2.2.2.2.2.1 k hk with w | ⟨w, n, hn, a1, a2, -⟩
      · rw [if_pos w.1] at ex hx
        rw [if_pos w.2] at ey hy
        rw [ex, ey]; exact ⟨hx.trans hy.symm, ng, rr, c_0_, U_fault 1 h_1_⟩
      · have l := lane_no w.2
        rw [if_neg (by rw [w.1]; exact l.1)] at ex hx
        rw [if_neg l.2] at ey hy
        rcases h_1_.2.2.2.2.2.1 k2 hk2 with v | ⟨v, m, hm, b1, b2, -⟩
        · rw [if_pos v.1] at ex hx
          rw [if_pos v.2] at ey hy
          rw [ex, ey]; exact ⟨hx.trans hy.symm, ng, rr, c_0_, U_fault 1 h_1_⟩
        · have l2 := lane_no v.2
          rw [if_neg (by rw [v.1]; exact l2.1)] at ex hx
          rw [if_neg l2.2] at ey hy
          rw [w.1, a1, b1] at ex hx
          rw [a2, b2] at ey hy
          rw [v.1] at hx
          by_cases q : N1 1 k = N1 1 k2
          · rw [if_pos (by rw [v.1]; exact q)] at ex
            rw [if_pos q] at hx ey hy
            by_cases q2 : 0 ≤ z1 ∧ z1 ≤ nI n ∧ 0 ≤ z4 ∧ z4 ≤ nI n - z1
            · rw [if_pos q2] at ex hx
              by_cases q3 : 0 ≤ z3 ∧ z3 ≤ nI m ∧ 0 ≤ z4 ∧ z4 ≤ nI m - z3
              · rw [if_pos q3] at ex hx
                rw [if_pos ⟨q2, q3⟩] at ey hy
                obtain ⟨i8, n_8_, ei8, en8, hi8⟩ := re60 rfl hn q2
                obtain ⟨j_8_, n_9_, ej8, en9, hj8⟩ := re60 rfl hm q3
                have enn : n_8_ = n_9_ := nI_inj (by omega) (by omega) (en8.symm.trans en9)
                have t1 : z1.toNatClampNeg = i8 := by rw [ei8, nI_clamp (by omega)]
                have t3 : z3.toNatClampNeg = j_8_ := by rw [ej8, nI_clamp (by omega)]
                have t4 : z4.toNatClampNeg = n_8_ := by rw [en8, nI_clamp (by omega)]
                rw [t1, t3, t4] at ex ey
                rw [ex, ey, hx, hy]
                exact ⟨rfl, ng, rr, c_0_, U_copy k k2 n m i8 j_8_ n_8_ hk hk2 hn hm a2 b2 l.2 l2.2 q hi8 (by omega) h_1_⟩
              · rw [if_neg q3] at ex hx
                rw [if_neg (fun r => q3 r.2)] at ey hy
                rw [ex, ey]; exact ⟨hx.trans hy.symm, ng, rr, c_0_, U_fault 3 h_1_⟩
            · rw [if_neg q2] at ex hx
              rw [if_neg (fun r => q2 r.1)] at ey hy
              rw [ex, ey]; exact ⟨hx.trans hy.symm, ng, rr, c_0_, U_fault 3 h_1_⟩
          · rw [if_neg (by rw [v.1]; exact q)] at ex
            rw [if_neg q] at hx ey hy
            rw [ex, ey]; exact ⟨hx.trans hy.symm, ng, rr, c_0_, U_fault 2 h_1_⟩
    · rw [if_neg d] at ex hx ey hy
      rw [ex, ey]; exact ⟨hx.trans hy.symm, ng, rr, c_0_, h_1_⟩
  · rw [if_neg c] at ex hx ey hy
    rw [ex, ey]; exact ⟨hx.trans hy.symm, ng, rr, c_0_, h_1_⟩
