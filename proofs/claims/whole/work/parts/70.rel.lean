/-- the two tell the same, of some girls, rings, readings -/
def RLo (tk : Nat → Nat) (nt : Nat) (V M : Vt) : Prop := ∃ (ng : Nat) (rr : Nat → Nat) (c_0_ : Nat), REL tk nt V M ng rr c_0_
theorem inr {z : Int32} {n : Nat} (h : ¬ z < 0 ∧ z < nI n) (hn : n < 100) : ∃ j, j < n ∧ z = nI j ∧ z.toNatClampNeg = j := by
  rcases pk_ix z (n := n) (by omega) with w | w | ⟨j, w, e⟩
  · exact absurd w h.1
  · exact absurd h.2 (Int32.not_lt.mpr w)
  · exact ⟨j, w, e, by rw [e]; exact nI_clamp (by omega)⟩
theorem rl_rc {tk : Nat → Nat} {nt : Nat} {V M : Vt} {ng : Nat} {rr : Nat → Nat} {c_0_ : Nat} (h : REL tk nt V M ng rr c_0_) {t : Nat} (ht : t < nt) (a : Int32) : rch (kdI (tk t)) a = rchM (M 6 t) a := by
  rw [← (h.2.2.2.1 t ht).1]
  rcases (h.1.2.2.2.1 t ht).1 with e | e | e <;> rw [e] <;> rfl
theorem rl_rch {tk : Nat → Nat} {nt : Nat} {V M : Vt} {ng : Nat} {rr : Nat → Nat} {c_0_ : Nat} (h : REL tk nt V M ng rr c_0_) {t : Nat} (ht : t < nt) : rch (kdI (tk t)) (V (56 + t) 1) = rchM (M 6 t) (M 7 t) := by rw [rl_rc h ht, (h.2.2.2.1 t ht).2.1]
theorem rl_nr {tk : Nat → Nat} {nt : Nat} {V M : Vt} {ng : Nat} {rr : Nat → Nat} {c_0_ : Nat} (h : REL tk nt V M ng rr c_0_) {t g : Nat} (ht : t < nt) (hg : g < ng) : near (rch (kdI (tk t)) (V (56 + t) 1)) (V (0 + 2 + 3 * g) 0) (V (0 + 2 + 3 * g) 1) (V 0 0) = nrM M t g := by
  obtain ⟨c_1_, c_2_, -⟩ := h.2.2.1 g hg
  rw [rl_rch h ht, c_1_.1, c_2_.1, h.2.2.2.2.2.2.1.1.1]
  rfl
theorem rl_hol {tk : Nat → Nat} {nt : Nat} {V M : Vt} {ng : Nat} {rr : Nat → Nat} {c_0_ : Nat} (h : REL tk nt V M ng rr c_0_) {g : Nat} (hg : g < ng) : holI (V (0 + 2 + 3 * g + 1)) (V (0 + 2 + 3 * g + 2)) (rr g) = holI (mW M g) (mM M g) (rr g) ∧ holI (V (0 + 2 + 3 * g + 2)) (V (0 + 2 + 3 * g + 2)) (rr g) = holI (mM M g) (mM M g) (rr g) := by
  have c := (h.2.2.1 g hg).2.2
  have r8 := (h.1.1.2.2 g hg).2
  exact ⟨holI_cong (by omega) (fun q hq => (c q hq).1) (fun q hq => (c q hq).2.1), holI_cong (by omega) (fun q hq => (c q hq).2.1) (fun q hq => (c q hq).2.1)⟩
theorem rl_hd {tk : Nat → Nat} {nt : Nat} {V M : Vt} {ng : Nat} {rr : Nat → Nat} {c_0_ : Nat} (h : REL tk nt V M ng rr c_0_) {t g : Nat} (hg : g < ng) (z : Int32) : hdP V rr t g z ↔ hdM M rr t g z := by
  obtain ⟨c_1_, c_2_, c_3_⟩ := h.2.2.1 g hg
  unfold hdP hdM
  rw [c_1_.1, c_2_.1, h.2.2.2.2.2.2.1.1.1]
  by_cases r8 : rr g < 8
  · rw [holI_cong (f2 := upd (mW M g) (rr g) (nI t)) (g2 := upd (mM M g) (rr g) (near z (M 4 g) (M 5 g) (M 0 5))) (by omega) (fun q hq => ?_) (fun q hq => ?_)]
    · by_cases e : q = rr g
      · simp [upd, e]
      · simp only [upd, if_neg e]; exact (c_3_ q (by omega)).1
    · by_cases e : q = rr g
      · simp [upd, e]
      · simp only [upd, if_neg e]; exact (c_3_ q (by omega)).2.1
  · exact ⟨fun q => absurd q.1 r8, fun q => absurd q.1 r8⟩
theorem setI_cong {P Q : Nat → Prop} [DecidablePred P] [DecidablePred Q] : ∀ n, (∀ k, k < n → (P k ↔ Q k)) → setI P n = setI Q n
  | 0, _ => rfl
  | n + 1, h => by
    rw [setI, setI, setI_cong n (fun k hk => h k (by omega))]
    by_cases q : P n
    · rw [if_pos q, if_pos ((h n (by omega)).mp q)]
    · rw [if_neg q, if_neg (fun z => q ((h n (by omega)).mpr z))]
theorem cntP_cg {P Q : Nat → Prop} (n : Nat) (h : ∀ k, k < n → (P k ↔ Q k)) : cntP P n = cntP Q n := cntP_cong n h
theorem r_trace {tk : Nat → Nat} {nt : Nat} {V M : Vt} {ng : Nat} {rr : Nat → Nat} {c_0_ : Nat} {x y : Int32} {V2 M2 : Vt} (h : REL tk nt V M ng rr c_0_) (hx : V2 = V ∧ x = V 42 0) (hy : M2 = M ∧ y = M 0 1) : x = y ∧ RLo tk nt V2 M2 := by
  obtain ⟨ex, hx⟩ := hx
  obtain ⟨ey, hy⟩ := hy
  rw [ex, ey]
  refine ⟨?_, ng, rr, c_0_, h⟩
  rw [hx, hy]; exact h.2.2.2.2.2.2.1.2.1
theorem r_fault {tk : Nat → Nat} {nt : Nat} {V M : Vt} {ng : Nat} {rr : Nat → Nat} {c_0_ : Nat} {x y : Int32} {V2 M2 : Vt} (h : REL tk nt V M ng rr c_0_) (hx : V2 = V ∧ x = V 55 9) (hy : M2 = M ∧ y = M 0 0) : x = y ∧ RLo tk nt V2 M2 := by
  obtain ⟨ex, hx⟩ := hx
  obtain ⟨ey, hy⟩ := hy
  rw [ex, ey]
  refine ⟨?_, ng, rr, c_0_, h⟩
  rw [hx, hy]; exact h.2.2.2.2.2.2.1.2.2
theorem r_many {tk : Nat → Nat} {nt : Nat} {V M : Vt} {ng : Nat} {rr : Nat → Nat} {c_0_ : Nat} (z0 : Int32) {x y : Int32} {V2 M2 : Vt} (h : REL tk nt V M ng rr c_0_) (hx : V2 = V ∧ x = if z0 = 0 then V 0 1 else if z0 = 1 then V 55 8 else if z0 = 2 then V 0 0 else if z0 = 3 then nI (sumN rr ng) else if z0 = 4 then V 29 0 else -2) (hy : M2 = M ∧ y = if z0 = 0 then M 0 6 else if z0 = 1 then M 0 7 else if z0 = 2 then M 0 5 else if z0 = 3 then nI (sumN rr ng) else if z0 = 4 then M 0 34 else -2) : x = y ∧ RLo tk nt V2 M2 := by
  have n_4_ := h.1.1.2.1
  have t5 := h.1.2.2.1
  obtain ⟨ex, hx⟩ := hx
  obtain ⟨ey, hy⟩ := hy
  rw [ex, ey]
  refine ⟨?_, ng, rr, c_0_, h⟩
  rw [hx, hy, h.1.1.1, h.2.1.1, h.1.2.1, h.2.1.2.2.1, h.2.2.2.2.2.2.1.1.1, h.1.2.2.2.2.1, h.2.1.2.2.2.2.2.1]
theorem r_ofGirl {tk : Nat → Nat} {nt : Nat} {V M : Vt} {ng : Nat} {rr : Nat → Nat} {c_0_ : Nat} (z0 z1 : Int32) {x y : Int32} {V2 M2 : Vt} (h : REL tk nt V M ng rr c_0_) (hx : V2 = V ∧ x = if ¬ z0 < 0 ∧ z0 < nI ng then (if z1 = 0 then V (0 + 2 + 3 * z0.toNatClampNeg) 0 else if z1 = 1 then V (0 + 2 + 3 * z0.toNatClampNeg) 1 else if z1 = 2 then V (0 + 2 + 3 * z0.toNatClampNeg) 2 else if z1 = 3 then holI (V ((0 + 2 + 3 * z0.toNatClampNeg) + 1)) (V ((0 + 2 + 3 * z0.toNatClampNeg) + 2)) (rr z0.toNatClampNeg) else if z1 = 4 then holI (V ((0 + 2 + 3 * z0.toNatClampNeg) + 2)) (V ((0 + 2 + 3 * z0.toNatClampNeg) + 2)) (rr z0.toNatClampNeg) else if z1 = 5 then nI (cntI (fun q => V ((0 + 2 + 3 * z0.toNatClampNeg) + 2) q = 0) (rr z0.toNatClampNeg)) else -2) else -1) (hy : M2 = M ∧ y = if ¬ z0 < 0 ∧ z0 < nI ng then (if z1 = 0 then M 4 z0.toNatClampNeg else if z1 = 1 then M 5 z0.toNatClampNeg else if z1 = 2 then M 8 z0.toNatClampNeg else if z1 = 3 then holI (mW M z0.toNatClampNeg) (mM M z0.toNatClampNeg) (rr z0.toNatClampNeg) else if z1 = 4 then holI (mM M z0.toNatClampNeg) (mM M z0.toNatClampNeg) (rr z0.toNatClampNeg) else if z1 = 5 then nI (cntI (fun j => mM M z0.toNatClampNeg j = 0) (rr z0.toNatClampNeg)) else -2) else -1) : x = y ∧ RLo tk nt V2 M2 := by
  have n_4_ := h.1.1.2.1
  have t5 := h.1.2.2.1
  obtain ⟨ex, hx⟩ := hx
  obtain ⟨ey, hy⟩ := hy
  rw [ex, ey]
  refine ⟨?_, ng, rr, c_0_, h⟩
  rw [hx, hy]
  by_cases c : ¬ z0 < 0 ∧ z0 < nI ng
  · rw [if_pos c, if_pos c]
    obtain ⟨g, hg, e, ec⟩ := inr c (by omega)
    obtain ⟨c_1_, c_2_, c_3_⟩ := h.2.2.1 g hg
    rw [ec, c_1_.1, c_2_.1, (rl_hol h hg).1, (rl_hol h hg).2, (h.1.1.2.2 g hg).1, (h.2.1.2.2.2.2.1 g hg).1, cntI_cong (rr g) (P := fun q => V (0 + 2 + 3 * g + 2) q = 0) (Q := fun j => mM M g j = 0) (fun k hk => by rw [(c_3_ k hk).2.1])]
  · rw [if_neg c, if_neg c]
theorem r_ofThrower {tk : Nat → Nat} {nt : Nat} {V M : Vt} {ng : Nat} {rr : Nat → Nat} {c_0_ : Nat} (z0 z1 : Int32) {x y : Int32} {V2 M2 : Vt} (h : REL tk nt V M ng rr c_0_) (hx : V2 = V ∧ x = if ¬ z0 < 0 ∧ z0 < nI nt then (if z1 = 0 then kdI (tk z0.toNatClampNeg) else if z1 = 1 then V (56 + z0.toNatClampNeg) 1 else if z1 = 2 then rch (kdI (tk z0.toNatClampNeg)) (V (56 + z0.toNatClampNeg) 1) else if z1 = 3 then setI (fun g => hoC V 0 rr g = z0) ng else if z1 = 4 then nI (sumN (fun g => cntI (fun q => V (0 + 2 + 3 * g + 1) q = z0) (rr g)) ng) else -2) else -1) (hy : M2 = M ∧ y = if ¬ z0 < 0 ∧ z0 < nI nt then (if z1 = 0 then M 6 z0.toNatClampNeg else if z1 = 1 then M 7 z0.toNatClampNeg else if z1 = 2 then rchM (M 6 z0.toNatClampNeg) (M 7 z0.toNatClampNeg) else if z1 = 3 then setI (fun g => holI (mW M g) (mM M g) (rr g) = z0) ng else if z1 = 4 then nI (sumN (fun g => cntI (fun j => mW M g j = z0) (rr g)) ng) else -2) else -1) : x = y ∧ RLo tk nt V2 M2 := by
  have n_4_ := h.1.1.2.1
  have t5 := h.1.2.2.1
  obtain ⟨ex, hx⟩ := hx
  obtain ⟨ey, hy⟩ := hy
  rw [ex, ey]
  refine ⟨?_, ng, rr, c_0_, h⟩
  rw [hx, hy]
  by_cases c : ¬ z0 < 0 ∧ z0 < nI nt
  · rw [if_pos c, if_pos c]
    obtain ⟨t, ht, e, ec⟩ := inr c (by omega)
    obtain ⟨c_1_, c_2_, c_3_⟩ := h.2.2.2.1 t ht
    rw [ec, rl_rch h ht, c_1_, c_2_, setI_cong (P := fun g => hoC V 0 rr g = z0) (Q := fun g => holI (mW M g) (mM M g) (rr g) = z0) ng (fun k hk => by unfold hoC; rw [(rl_hol h hk).1]), sumN_cg (f := fun g => cntI (fun q => V (0 + 2 + 3 * g + 1) q = z0) (rr g)) (q := fun g => cntI (fun j => mW M g j = z0) (rr g)) ng (fun k hk => cntI_cong (rr k) (fun j hj => by rw [((h.2.2.1 k hk).2.2 j hj).1]))]
  · rw [if_neg c, if_neg c]
theorem r_measure {tk : Nat → Nat} {nt : Nat} {V M : Vt} {ng : Nat} {rr : Nat → Nat} {c_0_ : Nat} (z0 z1 : Int32) {x y : Int32} {V2 M2 : Vt} (h : REL tk nt V M ng rr c_0_) (hx : V2 = V ∧ x = if ¬ z0 < 0 ∧ z0 < nI nt then (if ¬ z1 < 0 ∧ z1 < nI ng then near (rch (kdI (tk z0.toNatClampNeg)) (V (56 + z0.toNatClampNeg) 1)) (V (0 + 2 + 3 * z1.toNatClampNeg) 0) (V (0 + 2 + 3 * z1.toNatClampNeg) 1) (V 0 0) else -1) else -1) (hy : M2 = M ∧ y = if ¬ z0 < 0 ∧ z0 < nI nt then (if ¬ z1 < 0 ∧ z1 < nI ng then nrM M z0.toNatClampNeg z1.toNatClampNeg else -1) else -1) : x = y ∧ RLo tk nt V2 M2 := by
  have n_4_ := h.1.1.2.1
  have t5 := h.1.2.2.1
  obtain ⟨ex, hx⟩ := hx
  obtain ⟨ey, hy⟩ := hy
  rw [ex, ey]
  refine ⟨?_, ng, rr, c_0_, h⟩
  rw [hx, hy]
  by_cases c : ¬ z0 < 0 ∧ z0 < nI nt
  · rw [if_pos c, if_pos c]
    by_cases c_2_ : ¬ z1 < 0 ∧ z1 < nI ng
    · rw [if_pos c_2_, if_pos c_2_]
      obtain ⟨t, ht, e, ec⟩ := inr c (by omega)
      obtain ⟨g, hg, e2, ec2⟩ := inr c_2_ (by omega)
      rw [ec, ec2, rl_nr h ht hg]
    · rw [if_neg c_2_, if_neg c_2_]
  · rw [if_neg c, if_neg c]
theorem r_even {tk : Nat → Nat} {nt : Nat} {V M : Vt} {ng : Nat} {rr : Nat → Nat} {c_0_ : Nat} (z0 z1 z2 : Int32) {x y : Int32} {V2 M2 : Vt} (h : REL tk nt V M ng rr c_0_) (hx : V2 = V ∧ x = if ¬ z0 < 0 ∧ z0 < nI nt then (if ¬ z1 < 0 ∧ z1 < nI nt then (if z0 = z1 then -1 else (if ¬ z2 < 0 ∧ z2 < nI ng then evI (rch (kdI (tk z0.toNatClampNeg)) (V (56 + z0.toNatClampNeg) 1)) (rch (kdI (tk z1.toNatClampNeg)) (V (56 + z1.toNatClampNeg) 1)) (V (0 + 2 + 3 * z2.toNatClampNeg) 1) (V 0 0) (V (0 + 2 + 3 * z2.toNatClampNeg) 0) 9 else -1)) else -1) else -1) (hy : M2 = M ∧ y = if ¬ z0 < 0 ∧ z0 < nI nt then (if ¬ z1 < 0 ∧ z1 < nI nt then (if z0 = z1 then -1 else (if ¬ z2 < 0 ∧ z2 < nI ng then evI (rchM (M 6 z0.toNatClampNeg) (M 7 z0.toNatClampNeg)) (rchM (M 6 z1.toNatClampNeg) (M 7 z1.toNatClampNeg)) (M 5 z2.toNatClampNeg) (M 0 5) (M 4 z2.toNatClampNeg) 9 else -1)) else -1) else -1) : x = y ∧ RLo tk nt V2 M2 := by
  have n_4_ := h.1.1.2.1
  have t5 := h.1.2.2.1
  obtain ⟨ex, hx⟩ := hx
  obtain ⟨ey, hy⟩ := hy
  rw [ex, ey]
  refine ⟨?_, ng, rr, c_0_, h⟩
  rw [hx, hy]
  by_cases c : ¬ z0 < 0 ∧ z0 < nI nt
  · rw [if_pos c, if_pos c]
    by_cases c_2_ : ¬ z1 < 0 ∧ z1 < nI nt
    · rw [if_pos c_2_, if_pos c_2_]
      by_cases c_3_ : z0 = z1
      · rw [if_pos c_3_, if_pos c_3_]
      · rw [if_neg c_3_, if_neg c_3_]
        by_cases c_4_ : ¬ z2 < 0 ∧ z2 < nI ng
        · rw [if_pos c_4_, if_pos c_4_]
          obtain ⟨t, ht, e, ec⟩ := inr c (by omega)
          obtain ⟨u, hu, e2, ec2⟩ := inr c_2_ (by omega)
          obtain ⟨g, hg, e3, ec3⟩ := inr c_4_ (by omega)
          obtain ⟨d1, d2, -⟩ := h.2.2.1 g hg
          rw [ec, ec2, ec3, rl_rch h ht, rl_rch h hu, d1.1, d2.1, h.2.2.2.2.2.2.1.1.1]
        · rw [if_neg c_4_, if_neg c_4_]
    · rw [if_neg c_2_, if_neg c_2_]
  · rw [if_neg c, if_neg c]
theorem r_freeze {tk : Nat → Nat} {nt : Nat} {V M : Vt} {ng : Nat} {rr : Nat → Nat} {c_0_ : Nat} (z0 : Int32) {x y : Int32} {V2 M2 : Vt} (h : REL tk nt V M ng rr c_0_) (hx : (V2 = if (0 ≤ z0 ∧ z0 ≤ 3) ∧ ¬ nt = 0 then up2 V 0 0 z0 else V) ∧ x = if 0 ≤ z0 ∧ z0 ≤ 3 then (if nt = 0 then -3 else V 0 0) else -2) (hy : (M2 = if (0 ≤ z0 ∧ z0 ≤ 3) ∧ ¬ ng = 0 then up2 M 0 5 z0 else M) ∧ y = if 0 ≤ z0 ∧ z0 ≤ 3 then (if ng = 0 then -3 else M 0 5) else -2) : x = y ∧ RLo tk nt V2 M2 := by
  have n_4_ := h.1.1.2.1
  have t5 := h.1.2.2.1
  obtain ⟨ex, hx⟩ := hx
  obtain ⟨ey, hy⟩ := hy
  have i := h.2.2.2.2.2.2.2
  by_cases c : 0 ≤ z0 ∧ z0 ≤ 3
  · rw [if_pos c] at hx hy
    by_cases n : nt = 0
    · have n_2_ := i.mp n
      rw [if_pos n] at hx
      rw [if_pos n_2_] at hy
      rw [if_neg (fun q => q.2 n)] at ex
      rw [if_neg (fun q => q.2 n_2_)] at ey
      rw [ex, ey]; exact ⟨hx.trans hy.symm, ng, rr, c_0_, h⟩
    · have n_2_ : ¬ ng = 0 := fun q => n (i.mpr q)
      rw [if_neg n] at hx
      rw [if_neg n_2_] at hy
      rw [if_pos ⟨c, n⟩] at ex
      rw [if_pos ⟨c, n_2_⟩] at ey
      rw [ex, ey, hx, hy]
      exact ⟨h.2.2.2.2.2.2.1.1.1, ng, rr, c_0_, U_frost z0 c h⟩
  · rw [if_neg c] at hx hy
    rw [if_neg (fun q => c q.1)] at ex ey
    rw [ex, ey]; exact ⟨hx.trans hy.symm, ng, rr, c_0_, h⟩
theorem r_lean {tk : Nat → Nat} {nt : Nat} {V M : Vt} {ng : Nat} {rr : Nat → Nat} {c_0_ : Nat} (z0 z1 : Int32) {x y : Int32} {V2 M2 : Vt} (h : REL tk nt V M ng rr c_0_) (hx : (V2 = if ¬ z0 < 0 ∧ z0 < nI ng then (if 0 ≤ z1 ∧ z1 ≤ 9 then up2 V (0 + 2 + 3 * z0.toNatClampNeg) 1 z1 else V) else V) ∧ x = if ¬ z0 < 0 ∧ z0 < nI ng then (if 0 ≤ z1 ∧ z1 ≤ 9 then V (0 + 2 + 3 * z0.toNatClampNeg) 1 else -2) else -1) (hy : (M2 = if ¬ z0 < 0 ∧ z0 < nI ng then (if 0 ≤ z1 ∧ z1 ≤ 9 then up2 M 5 z0.toNatClampNeg z1 else M) else M) ∧ y = if ¬ z0 < 0 ∧ z0 < nI ng then (if 0 ≤ z1 ∧ z1 ≤ 9 then M 5 z0.toNatClampNeg else -2) else -1) : x = y ∧ RLo tk nt V2 M2 := by
  have n_4_ := h.1.1.2.1
  have t5 := h.1.2.2.1
  obtain ⟨ex, hx⟩ := hx
  obtain ⟨ey, hy⟩ := hy
  by_cases c : ¬ z0 < 0 ∧ z0 < nI ng
  · rw [if_pos c] at ex hx ey hy
    by_cases c_2_ : 0 ≤ z1 ∧ z1 ≤ 9
    · rw [if_pos c_2_] at ex hx ey hy
      obtain ⟨g, hg, e, ec⟩ := inr c (by omega)
      rw [ec] at ex hx ey hy
      rw [ex, ey, hx, hy]
      exact ⟨(h.2.2.1 g hg).2.1.1, ng, rr, c_0_, U_lean g z1 hg c_2_ h⟩
    · rw [if_neg c_2_] at ex hx ey hy
      rw [ex, ey]; exact ⟨hx.trans hy.symm, ng, rr, c_0_, h⟩
  · rw [if_neg c] at ex hx ey hy
    rw [ex, ey]; exact ⟨hx.trans hy.symm, ng, rr, c_0_, h⟩
theorem r_place {tk : Nat → Nat} {nt : Nat} {V M : Vt} {ng : Nat} {rr : Nat → Nat} {c_0_ : Nat} (z0 z1 : Int32) {x y : Int32} {V2 M2 : Vt} (h : REL tk nt V M ng rr c_0_) (hx : (V2 = if ¬ z0 < 0 ∧ z0 < nI ng then (if 1 ≤ z1 ∧ z1 ≤ 9 then up2 V (0 + 2 + 3 * z0.toNatClampNeg) 0 z1 else V) else V) ∧ x = if ¬ z0 < 0 ∧ z0 < nI ng then (if 1 ≤ z1 ∧ z1 ≤ 9 then V (0 + 2 + 3 * z0.toNatClampNeg) 0 else -2) else -1) (hy : (M2 = if ¬ z0 < 0 ∧ z0 < nI ng then (if 1 ≤ z1 ∧ z1 ≤ 9 then up2 M 4 z0.toNatClampNeg z1 else M) else M) ∧ y = if ¬ z0 < 0 ∧ z0 < nI ng then (if 1 ≤ z1 ∧ z1 ≤ 9 then M 4 z0.toNatClampNeg else -2) else -1) : x = y ∧ RLo tk nt V2 M2 := by
  have n_4_ := h.1.1.2.1
  have t5 := h.1.2.2.1
  obtain ⟨ex, hx⟩ := hx
  obtain ⟨ey, hy⟩ := hy
  by_cases c : ¬ z0 < 0 ∧ z0 < nI ng
  · rw [if_pos c] at ex hx ey hy
    by_cases c_2_ : 1 ≤ z1 ∧ z1 ≤ 9
    · rw [if_pos c_2_] at ex hx ey hy
      obtain ⟨g, hg, e, ec⟩ := inr c (by omega)
      rw [ec] at ex hx ey hy
      rw [ex, ey, hx, hy]
      exact ⟨(h.2.2.1 g hg).1.1, ng, rr, c_0_, U_yard g z1 hg c_2_ h⟩
    · rw [if_neg c_2_] at ex hx ey hy
      rw [ex, ey]; exact ⟨hx.trans hy.symm, ng, rr, c_0_, h⟩
  · rw [if_neg c] at ex hx ey hy
    rw [ex, ey]; exact ⟨hx.trans hy.symm, ng, rr, c_0_, h⟩
theorem r_train {tk : Nat → Nat} {nt : Nat} {V M : Vt} {ng : Nat} {rr : Nat → Nat} {c_0_ : Nat} (z0 z1 : Int32) {x y : Int32} {V2 M2 : Vt} (h : REL tk nt V M ng rr c_0_) (hx : (V2 = if ¬ z0 < 0 ∧ z0 < nI nt then (if 1 ≤ z1 ∧ z1 ≤ 9 then up2 V (56 + z0.toNatClampNeg) 1 z1 else V) else V) ∧ x = if ¬ z0 < 0 ∧ z0 < nI nt then (if 1 ≤ z1 ∧ z1 ≤ 9 then V (56 + z0.toNatClampNeg) 1 else -2) else -1) (hy : (M2 = if ¬ z0 < 0 ∧ z0 < nI nt then (if 1 ≤ z1 ∧ z1 ≤ 9 then up2 M 7 z0.toNatClampNeg z1 else M) else M) ∧ y = if ¬ z0 < 0 ∧ z0 < nI nt then (if 1 ≤ z1 ∧ z1 ≤ 9 then M 7 z0.toNatClampNeg else -2) else -1) : x = y ∧ RLo tk nt V2 M2 := by
  have n_4_ := h.1.1.2.1
  have t5 := h.1.2.2.1
  obtain ⟨ex, hx⟩ := hx
  obtain ⟨ey, hy⟩ := hy
  by_cases c : ¬ z0 < 0 ∧ z0 < nI nt
  · rw [if_pos c] at ex hx ey hy
    by_cases c_2_ : 1 ≤ z1 ∧ z1 ≤ 9
    · rw [if_pos c_2_] at ex hx ey hy
      obtain ⟨t, ht, e, ec⟩ := inr c (by omega)
      rw [ec] at ex hx ey hy
      rw [ex, ey, hx, hy]
      exact ⟨(h.2.2.2.1 t ht).2.1, ng, rr, c_0_, U_arm t z1 c_2_ h⟩
    · rw [if_neg c_2_] at ex hx ey hy
      rw [ex, ey]; exact ⟨hx.trans hy.symm, ng, rr, c_0_, h⟩
  · rw [if_neg c] at ex hx ey hy
    rw [ex, ey]; exact ⟨hx.trans hy.symm, ng, rr, c_0_, h⟩
theorem r_hurl {tk : Nat → Nat} {nt : Nat} {V M : Vt} {ng : Nat} {rr : Nat → Nat} {c_0_ : Nat} (z0 z1 : Int32) {x y : Int32} {V2 M2 : Vt} (h : REL tk nt V M ng rr c_0_) (hx : (V2 = if ¬ z0 < 0 ∧ z0 < nI nt then (if ¬ z1 < 0 ∧ z1 < nI ng then (if (rr z1.toNatClampNeg) < 8 then up2 (up2 (up2 V ((0 + 2 + 3 * z1.toNatClampNeg) + 1) (rr z1.toNatClampNeg) z0) ((0 + 2 + 3 * z1.toNatClampNeg) + 2) (rr z1.toNatClampNeg) (near (rch (kdI (tk z0.toNatClampNeg)) (V (56 + z0.toNatClampNeg) 1)) (V (0 + 2 + 3 * z1.toNatClampNeg) 0) (V (0 + 2 + 3 * z1.toNatClampNeg) 1) (V 0 0))) (0 + 2 + 3 * z1.toNatClampNeg) 2 (nI ((rr z1.toNatClampNeg) + 1)) else V) else V) else V) ∧ x = if ¬ z0 < 0 ∧ z0 < nI nt then (if ¬ z1 < 0 ∧ z1 < nI ng then (if (rr z1.toNatClampNeg) < 8 then near (rch (kdI (tk z0.toNatClampNeg)) (V (56 + z0.toNatClampNeg) 1)) (V (0 + 2 + 3 * z1.toNatClampNeg) 0) (V (0 + 2 + 3 * z1.toNatClampNeg) 1) (V 0 0) else -4) else -1) else -1) (hy : (M2 = if ¬ z0 < 0 ∧ z0 < nI nt then (if ¬ z1 < 0 ∧ z1 < nI ng then (if rr z1.toNatClampNeg < 8 then up2 (up2 (up2 M 9 (8 * z1.toNatClampNeg + rr z1.toNatClampNeg) z0) 10 (8 * z1.toNatClampNeg + rr z1.toNatClampNeg) (nrM M z0.toNatClampNeg z1.toNatClampNeg)) 8 z1.toNatClampNeg (nI (rr z1.toNatClampNeg + 1)) else M) else M) else M) ∧ y = if ¬ z0 < 0 ∧ z0 < nI nt then (if ¬ z1 < 0 ∧ z1 < nI ng then (if rr z1.toNatClampNeg < 8 then nrM M z0.toNatClampNeg z1.toNatClampNeg else -4) else -1) else -1) : x = y ∧ RLo tk nt V2 M2 := by
  have n_4_ := h.1.1.2.1
  have t5 := h.1.2.2.1
  obtain ⟨ex, hx⟩ := hx
  obtain ⟨ey, hy⟩ := hy
  by_cases c : ¬ z0 < 0 ∧ z0 < nI nt
  · rw [if_pos c] at ex hx ey hy
    by_cases c_2_ : ¬ z1 < 0 ∧ z1 < nI ng
    · rw [if_pos c_2_] at ex hx ey hy
      obtain ⟨t, ht, e, ec⟩ := inr c (by omega)
      obtain ⟨g, hg, e2, ec2⟩ := inr c_2_ (by omega)
      rw [ec, ec2] at ex hx ey hy
      by_cases c_3_ : rr g < 8
      · rw [if_pos c_3_] at ex hx ey hy
        rw [rl_nr h ht hg] at ex hx
        rw [ex, ey, hx, hy]
        exact ⟨rfl, ng, _, c_0_, U_lay g z0 _ hg c_3_ (by rw [e]; exact m9_nI (by omega)) h⟩
      · rw [if_neg c_3_] at ex hx ey hy
        rw [ex, ey]; exact ⟨hx.trans hy.symm, ng, rr, c_0_, h⟩
    · rw [if_neg c_2_] at ex hx ey hy
      rw [ex, ey]; exact ⟨hx.trans hy.symm, ng, rr, c_0_, h⟩
  · rw [if_neg c] at ex hx ey hy
    rw [ex, ey]; exact ⟨hx.trans hy.symm, ng, rr, c_0_, h⟩
theorem r_lift {tk : Nat → Nat} {nt : Nat} {V M : Vt} {ng : Nat} {rr : Nat → Nat} {c_0_ : Nat} (z0 : Int32) {x y : Int32} {V2 M2 : Vt} (h : REL tk nt V M ng rr c_0_) (hx : (V2 = if ¬ z0 < 0 ∧ z0 < nI ng then (if (rr z0.toNatClampNeg) = 0 then V else up2 V (0 + 2 + 3 * z0.toNatClampNeg) 2 (nI ((rr z0.toNatClampNeg) - 1))) else V) ∧ x = if ¬ z0 < 0 ∧ z0 < nI ng then (if (rr z0.toNatClampNeg) = 0 then -3 else V ((0 + 2 + 3 * z0.toNatClampNeg) + 1) ((rr z0.toNatClampNeg) - 1)) else -1) (hy : (M2 = if ¬ z0 < 0 ∧ z0 < nI ng then (if rr z0.toNatClampNeg = 0 then M else up2 M 8 z0.toNatClampNeg (nI (rr z0.toNatClampNeg - 1))) else M) ∧ y = if ¬ z0 < 0 ∧ z0 < nI ng then (if rr z0.toNatClampNeg = 0 then -3 else M 9 (8 * z0.toNatClampNeg + (rr z0.toNatClampNeg - 1))) else -1) : x = y ∧ RLo tk nt V2 M2 := by
  have n_4_ := h.1.1.2.1
  have t5 := h.1.2.2.1
  obtain ⟨ex, hx⟩ := hx
  obtain ⟨ey, hy⟩ := hy
  by_cases c : ¬ z0 < 0 ∧ z0 < nI ng
  · rw [if_pos c] at ex hx ey hy
    obtain ⟨g, hg, e, ec⟩ := inr c (by omega)
    rw [ec] at ex hx ey hy
    by_cases c_2_ : rr g = 0
    · rw [if_pos c_2_] at ex hx ey hy
      rw [ex, ey]; exact ⟨hx.trans hy.symm, ng, rr, c_0_, h⟩
    · rw [if_neg c_2_] at ex hx ey hy
      rw [ex, ey, hx, hy]
      exact ⟨((h.2.2.1 g hg).2.2 (rr g - 1) (by omega)).1, ng, _, c_0_, U_rings g (rr g - 1) hg (by omega) h⟩
  · rw [if_neg c] at ex hx ey hy
    rw [ex, ey]; exact ⟨hx.trans hy.symm, ng, rr, c_0_, h⟩
theorem r_clear {tk : Nat → Nat} {nt : Nat} {V M : Vt} {ng : Nat} {rr : Nat → Nat} {c_0_ : Nat} (z0 : Int32) {x y : Int32} {V2 M2 : Vt} (h : REL tk nt V M ng rr c_0_) (hx : (V2 = if ¬ z0 < 0 ∧ z0 < nI ng then up2 V (0 + 2 + 3 * z0.toNatClampNeg) 2 0 else V) ∧ x = if ¬ z0 < 0 ∧ z0 < nI ng then V (0 + 2 + 3 * z0.toNatClampNeg) 2 else -1) (hy : (M2 = if ¬ z0 < 0 ∧ z0 < nI ng then up2 M 8 z0.toNatClampNeg 0 else M) ∧ y = if ¬ z0 < 0 ∧ z0 < nI ng then M 8 z0.toNatClampNeg else -1) : x = y ∧ RLo tk nt V2 M2 := by
  have n_4_ := h.1.1.2.1
  have t5 := h.1.2.2.1
  obtain ⟨ex, hx⟩ := hx
  obtain ⟨ey, hy⟩ := hy
  by_cases c : ¬ z0 < 0 ∧ z0 < nI ng
  · rw [if_pos c] at ex hx ey hy
    obtain ⟨g, hg, e, ec⟩ := inr c (by omega)
    rw [ec] at ex hx ey hy
    rw [ex, ey, hx, hy]
    exact ⟨(h.1.1.2.2 g hg).1.trans (h.2.1.2.2.2.2.1 g hg).1.symm, ng, _, c_0_, U_rings g 0 hg (by omega) h⟩
  · rw [if_neg c] at ex hx ey hy
    rw [ex, ey]; exact ⟨hx.trans hy.symm, ng, rr, c_0_, h⟩
theorem r_reading {tk : Nat → Nat} {nt : Nat} {V M : Vt} {ng : Nat} {rr : Nat → Nat} {c_0_ : Nat} (z0 z1 z2 : Int32) {x y : Int32} {V2 M2 : Vt} (h : REL tk nt V M ng rr c_0_) (hx : (V2 = if ¬ z0 < 0 ∧ z0 < nI nt then (if ¬ z1 < 0 ∧ z1 < nI ng then (if 0 ≤ z2 ∧ z2 ≤ 20 then (if c_0_ < 8 then up2 (up2 (up2 (up2 V 30 c_0_ z0) 31 c_0_ z1) 32 c_0_ z2) 29 0 (nI (c_0_ + 1)) else V) else V) else V) else V) ∧ x = if ¬ z0 < 0 ∧ z0 < nI nt then (if ¬ z1 < 0 ∧ z1 < nI ng then (if 0 ≤ z2 ∧ z2 ≤ 20 then (if c_0_ < 8 then nI c_0_ else -4) else -2) else -1) else -1) (hy : (M2 = if ¬ z0 < 0 ∧ z0 < nI nt then (if ¬ z1 < 0 ∧ z1 < nI ng then (if 0 ≤ z2 ∧ z2 ≤ 20 then (if c_0_ < 8 then up2 (up2 (up2 (up2 M 21 c_0_ z0) 22 c_0_ z1) 23 c_0_ z2) 0 34 (nI (c_0_ + 1)) else M) else M) else M) else M) ∧ y = if ¬ z0 < 0 ∧ z0 < nI nt then (if ¬ z1 < 0 ∧ z1 < nI ng then (if 0 ≤ z2 ∧ z2 ≤ 20 then (if c_0_ < 8 then nI c_0_ else -4) else -2) else -1) else -1) : x = y ∧ RLo tk nt V2 M2 := by
  have n_4_ := h.1.1.2.1
  have t5 := h.1.2.2.1
  obtain ⟨ex, hx⟩ := hx
  obtain ⟨ey, hy⟩ := hy
  by_cases c : ¬ z0 < 0 ∧ z0 < nI nt
  · rw [if_pos c] at ex hx ey hy
    by_cases c_2_ : ¬ z1 < 0 ∧ z1 < nI ng
    · rw [if_pos c_2_] at ex hx ey hy
      by_cases c_3_ : 0 ≤ z2 ∧ z2 ≤ 20
      · rw [if_pos c_3_] at ex hx ey hy
        by_cases c_4_ : c_0_ < 8
        · rw [if_pos c_4_] at ex hx ey hy
          obtain ⟨t, ht, e, ec⟩ := inr c (by omega)
          obtain ⟨g, hg, e2, ec2⟩ := inr c_2_ (by omega)
          rw [e, e2] at ex ey
          rw [ex, ey, hx, hy]
          exact ⟨rfl, ng, rr, _, U_read t g z2 ht hg c_4_ h⟩
        · rw [if_neg c_4_] at ex hx ey hy
          rw [ex, ey]; exact ⟨hx.trans hy.symm, ng, rr, c_0_, h⟩
      · rw [if_neg c_3_] at ex hx ey hy
        rw [ex, ey]; exact ⟨hx.trans hy.symm, ng, rr, c_0_, h⟩
    · rw [if_neg c_2_] at ex hx ey hy
      rw [ex, ey]; exact ⟨hx.trans hy.symm, ng, rr, c_0_, h⟩
  · rw [if_neg c] at ex hx ey hy
    rw [ex, ey]; exact ⟨hx.trans hy.symm, ng, rr, c_0_, h⟩
theorem r_back {tk : Nat → Nat} {nt : Nat} {V M : Vt} {ng : Nat} {rr : Nat → Nat} {c_0_ : Nat} (z0 : Int32) {x y : Int32} {V2 M2 : Vt} (h : REL tk nt V M ng rr c_0_) (hx : (V2 = if 0 ≤ z0 ∧ z0 ≤ nI c_0_ then up2 V 29 0 (nI (c_0_ - z0.toNatClampNeg)) else V) ∧ x = if 0 ≤ z0 ∧ z0 ≤ nI c_0_ then nI (c_0_ - z0.toNatClampNeg) else -2) (hy : (M2 = if 0 ≤ z0 ∧ z0 ≤ nI c_0_ then up2 M 0 34 (nI (c_0_ - z0.toNatClampNeg)) else M) ∧ y = if 0 ≤ z0 ∧ z0 ≤ nI c_0_ then nI (c_0_ - z0.toNatClampNeg) else -2) : x = y ∧ RLo tk nt V2 M2 := by
  have n_4_ := h.1.1.2.1
  have t5 := h.1.2.2.1
  obtain ⟨ex, hx⟩ := hx
  obtain ⟨ey, hy⟩ := hy
  by_cases c : 0 ≤ z0 ∧ z0 ≤ nI c_0_
  · rw [if_pos c] at ex hx ey hy
    rw [ex, ey, hx, hy]
    exact ⟨rfl, ng, rr, _, U_back _ (Nat.sub_le _ _) h⟩
  · rw [if_neg c] at ex hx ey hy
    rw [ex, ey]; exact ⟨hx.trans hy.symm, ng, rr, c_0_, h⟩
theorem r_wins {tk : Nat → Nat} {nt : Nat} {V M : Vt} {ng : Nat} {rr : Nat → Nat} {c_0_ : Nat} (z0 : Int32) {x y : Int32} {V2 M2 : Vt} (h : REL tk nt V M ng rr c_0_) (hx : gbE ng rr V V2 ∧ x = if ¬ z0 < 0 ∧ z0 < nI nt then setP (fun g => hdP V rr z0.toNatClampNeg g (rch (kdI (tk z0.toNatClampNeg)) (V (56 + z0.toNatClampNeg) 1))) ng else -1) (hy : scE ng rr M M2 ∧ y = if ¬ z0 < 0 ∧ z0 < nI nt then setP (fun g => hdM M rr z0.toNatClampNeg g (rchM (M 6 z0.toNatClampNeg) (M 7 z0.toNatClampNeg))) ng else -1) : x = y ∧ RLo tk nt V2 M2 := by
  have n_4_ := h.1.1.2.1
  have t5 := h.1.2.2.1
  obtain ⟨ex, hx⟩ := hx
  obtain ⟨ey, hy⟩ := hy
  refine ⟨?_, ng, rr, c_0_, REL_M (REL_X h (scX.gb ex)) ey⟩
  rw [hx, hy]
  by_cases c : ¬ z0 < 0 ∧ z0 < nI nt
  · rw [if_pos c, if_pos c]
    obtain ⟨t, ht, e, ec⟩ := inr c (by omega)
    rw [ec, rl_rch h ht]
    exact setP_cong ng (fun k hk => rl_hd h hk _)
  · rw [if_neg c, if_neg c]
theorem r_odds {tk : Nat → Nat} {nt : Nat} {V M : Vt} {ng : Nat} {rr : Nat → Nat} {c_0_ : Nat} (z0 z1 z2 : Int32) {x y : Int64} {V2 M2 : Vt} (h : REL tk nt V M ng rr c_0_) (hx : gbE ng rr V V2 ∧ x = if ¬ z0 < 0 ∧ z0 < nI nt then (if ¬ z1 < 0 ∧ z1 < nI ng then (if 0 ≤ z2 ∧ z2 ≤ 1 then odX (cntP (fun s_8_ => hdP V rr z0.toNatClampNeg z1.toNatClampNeg (rch (kdI (tk z0.toNatClampNeg)) (V (56 + z0.toNatClampNeg) 1) + (nI s_8_ - 1))) 3) z2 else (-9223372036854775808)) else (-9223372036854775808)) else (-9223372036854775808)) (hy : scE ng rr M M2 ∧ y = if ¬ z0 < 0 ∧ z0 < nI nt then (if ¬ z1 < 0 ∧ z1 < nI ng then (if 0 ≤ z2 ∧ z2 ≤ 1 then odX (cntP (fun s_8_ => hdM M rr z0.toNatClampNeg z1.toNatClampNeg (rchM (M 6 z0.toNatClampNeg) (M 7 z0.toNatClampNeg) + (nI s_8_ - 1))) 3) z2 else (-9223372036854775808)) else (-9223372036854775808)) else (-9223372036854775808)) : x = y ∧ RLo tk nt V2 M2 := by
  have n_4_ := h.1.1.2.1
  have t5 := h.1.2.2.1
  obtain ⟨ex, hx⟩ := hx
  obtain ⟨ey, hy⟩ := hy
  refine ⟨?_, ng, rr, c_0_, REL_M (REL_X h (scX.gb ex)) ey⟩
  rw [hx, hy]
  by_cases c : ¬ z0 < 0 ∧ z0 < nI nt
  · rw [if_pos c, if_pos c]
    by_cases c_2_ : ¬ z1 < 0 ∧ z1 < nI ng
    · rw [if_pos c_2_, if_pos c_2_]
      obtain ⟨t, ht, e, ec⟩ := inr c (by omega)
      obtain ⟨g, hg, e2, ec2⟩ := inr c_2_ (by omega)
      rw [ec, ec2, rl_rch h ht, cntP_cg (Q := fun s => hdM M rr t g (rchM (M 6 t) (M 7 t) + (nI s - 1))) 3 (fun k hk => rl_hd h hg _)]
    · rw [if_neg c_2_, if_neg c_2_]
  · rw [if_neg c, if_neg c]
