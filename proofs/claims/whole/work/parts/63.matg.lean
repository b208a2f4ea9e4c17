/-- thrower t's choice, and whom he gets -/
def mgc (U : Vt) (nt ng : Nat) (ws : Nat → Nat) (t : Nat) : Int32 := fbI U nt ng t (giL U nt ng ws t).2 (ws t)
def mgf (U : Vt) (nt ng : Nat) (ws : Nat → Nat) (t : Nat) : Nat := if mgc U nt ng ws t = -9 then ng else (mgc U nt ng ws t).toNatClampNeg
theorem gi_lt2 {U : Vt} {nt ng : Nat} {ws : Nat → Nat} : ∀ t, (giL U nt ng ws t).2 < 2 ^ ng
  | 0 => Nat.pow_pos (by decide)
  | t + 1 => by
    rw [giL]
    dsimp only
    have ih := gi_lt2 (U := U) (nt := nt) (ng := ng) (ws := ws) t
    rcases fbI_rng (giL U nt ng ws t).1 nt ng t (giL U nt ng ws t).2 (ws t) with h | ⟨q, hq, h⟩
    · rw [if_pos h]; exact ih
    · by_cases z : nI q = -9
      · rw [h, if_pos z]; exact ih
      · rw [h, if_neg z]
        refine Nat.or_lt_two_pow ih (Nat.pow_lt_pow_right (by decide) (Nat.lt_of_le_of_lt ?_ hq))
        unfold nI
        have h_9_ := Int32.toNatClampNeg_lt (Int32.ofNat q)
        by_cases w : q < 2 ^ 31
        · have := nI_clamp w
          unfold nI at this
          omega
        · omega
theorem gi_c {U : Vt} {nt ng t : Nat} {ws : Nat → Nat} (g4 : ng ≤ 4) : fbI (giL U nt ng ws t).1 nt ng t (giL U nt ng ws t).2 (ws t) = mgc U nt ng ws t :=
  fbI_cg (giL_o (by decide) t) (fun k _ => by rw [giL_o (by decide) t]) (giL_lt g4 t) g4
theorem gi_2 {U : Vt} {nt ng t : Nat} {ws : Nat → Nat} (g4 : ng ≤ 4) : (giL U nt ng ws (t + 1)).2 = if mgc U nt ng ws t = -9 then (giL U nt ng ws t).2 else (giL U nt ng ws t).2 ||| 2 ^ (mgc U nt ng ws t).toNatClampNeg := by
  rw [giL, gi_c g4]
theorem gi_51 {U : Vt} {nt ng : Nat} {ws : Nat → Nat} (g4 : ng ≤ 4) : ∀ n t, t < n → (giL U nt ng ws n).1 51 t = mgc U nt ng ws t
  | 0, _, h => absurd h (by omega)
  | n + 1, t, h => by
    rw [giL, gi_c g4]
    dsimp only
    by_cases e : t = n
    · rw [e, up2_s]
    · rw [up2_i _ _ e]
      exact gi_51 g4 n t (by omega)
theorem mwt_le {nn : Nat → Nat → Nat} {ws : Nat → Nat} {ng nt : Nat} {q : Nat → Nat} : ∀ m, m ≤ nt → ∀ k, mvl (fun t g => (ws t).testBit g = true) ng nt q m k → mwt nn ng nt q m ≤ mwv nn ws ng nt m k
  | 0, _, _, _ => Nat.le_refl 0
  | m + 1, hm, k, h => by
    rw [mwt]
    by_cases c : q (nt - 1 - m) < ng
    · obtain ⟨a, b, d⟩ := h.1 c
      have ih := mwt_le (nn := nn) m (by omega) _ d
      rw [if_pos c, mwv]
      have z := mxL_f (fun g => if (ws (nt - 1 - m)).testBit g = true ∧ k.testBit g = false then 1000 - nn (nt - 1 - m) g + mwv nn ws ng nt m (k ||| 2 ^ g) else 0) (mwv nn ws ng nt m k) ng (q (nt - 1 - m)) c
      rw [if_pos ⟨a, b⟩] at z
      omega
    · have ih := mwt_le (nn := nn) m (by omega) _ (h.2 c)
      rw [if_neg c, mwv]
      have z := mxL_a (fun g => if (ws (nt - 1 - m)).testBit g = true ∧ k.testBit g = false then 1000 - nn (nt - 1 - m) g + mwv nn ws ng nt m (k ||| 2 ^ g) else 0) (mwv nn ws ng nt m k) ng
      omega
theorem mg_opt {U : Vt} {nn : Nat → Nat → Nat} {ws : Nat → Nat} {ng nt : Nat} (g4 : ng ≤ 4) (t5 : nt ≤ 5) (hn : ∀ t g, t < nt → g < ng → U 49 (t * 4 + g) = nI (nn t g) ∧ nn t g ≤ 20) (hT : ∀ j k, j < nt → k < 2 ^ ng → U 53 ((nt - 1 - j) * 16 + k) = nI (mwv nn ws ng nt (j + 1) k)) :
    ∀ m, m ≤ nt → mvl (fun t g => (ws t).testBit g = true) ng nt (mgf U nt ng ws) m (giL U nt ng ws (nt - m)).2 ∧ mwt nn ng nt (mgf U nt ng ws) m = mwv nn ws ng nt m (giL U nt ng ws (nt - m)).2 ∧ ∀ q, mvl (fun t g => (ws t).testBit g = true) ng nt q m (giL U nt ng ws (nt - m)).2 → mwt nn ng nt q m = mwv nn ws ng nt m (giL U nt ng ws (nt - m)).2 → ¬ mlx nt q (mgf U nt ng ws) m
  | 0, _ => ⟨trivial, rfl, fun _ _ _ h => h⟩
  | m + 1, hm => by
    obtain ⟨i1, i2, i3⟩ := mg_opt g4 t5 hn hT m (by omega)
    have k2 := gi_lt2 (U := U) (nt := nt) (ng := ng) (ws := ws) (nt - 1 - m)
    have c := (mrow_ch (V := U) (nn := nn) (ws := ws) g4 (m := m) (by omega) t5 hn (fun j k hj hk => hT j k (by omega) hk) k2).1
    have e0 : nt - (m + 1) = nt - 1 - m := by omega
    have e1 : nt - m = nt - 1 - m + 1 := by omega
    have cv := mCh_v c
    rw [e0]
    rw [e1, gi_2 g4] at i1 i2 i3
    have ec : fbI U nt ng (nt - 1 - m) (giL U nt ng ws (nt - 1 - m)).2 (ws (nt - 1 - m)) = mgc U nt ng ws (nt - 1 - m) := rfl
    rw [ec] at c cv
    rcases c with ⟨a, b⟩ | ⟨g0, a, b, d, d2, d3, d4⟩
    · have fv : mgf U nt ng ws (nt - 1 - m) = ng := by unfold mgf; rw [if_pos a]
      have cw : mwv nn ws ng nt (m + 1) (giL U nt ng ws (nt - 1 - m)).2 = mwv nn ws ng nt m (giL U nt ng ws (nt - 1 - m)).2 := by
        rcases cv with z | ⟨g, hg, z, -⟩
        · exact z.2
        · exact absurd (z.symm.trans a) (m9_nI (by omega))
      rw [if_pos a] at i1 i2 i3
      rw [cw]
      refine ⟨⟨fun z => absurd z (by rw [fv]; exact Nat.lt_irrefl ng), fun _ => i1⟩, ?_, fun q vq eq lq => ?_⟩
      · rw [mwt, fv, if_neg (Nat.lt_irrefl ng), i2]; omega
      · rw [mwt] at eq
        by_cases y : q (nt - 1 - m) < ng
        · obtain ⟨y1, y2, y3⟩ := vq.1 y
          have w1 := mwt_le (nn := nn) m (by omega) _ y3
          have w2 := b _ y ⟨y1, y2⟩
          dsimp only at w2
          rw [if_pos y] at eq
          omega
        · rw [if_neg y, Nat.zero_add] at eq
          rcases lq with l | ⟨l1, l2⟩
          · rw [fv] at l; exact y l
          · exact i3 q (vq.2 y) eq l2
    · have hc9 : ¬ mgc U nt ng ws (nt - 1 - m) = -9 := by rw [d]; exact m9_nI (by omega)
      have fv : mgf U nt ng ws (nt - 1 - m) = g0 := by unfold mgf; rw [if_neg hc9, d, nI_clamp (by omega)]
      have cw : mwv nn ws ng nt (m + 1) (giL U nt ng ws (nt - 1 - m)).2 = 1000 - nn (nt - 1 - m) g0 + mwv nn ws ng nt m ((giL U nt ng ws (nt - 1 - m)).2 ||| 2 ^ g0) := by
        rcases cv with z | ⟨g, hg, z, z2⟩
        · exact absurd z.1 hc9
        · have eg : g = g0 := nI_inj (by omega) (by omega) (z.symm.trans d)
          rw [eg] at z2; exact z2
      rw [if_neg hc9, d, nI_clamp (by omega)] at i1 i2 i3
      rw [cw]
      refine ⟨⟨fun z => ?_, fun z => absurd a (by rw [fv] at z; exact z)⟩, ?_, fun q vq eq lq => ?_⟩
      · rw [fv]; exact ⟨b.1, b.2, i1⟩
      · rw [mwt, fv, if_pos a, i2]
      · rw [mwt] at eq
        by_cases y : q (nt - 1 - m) < ng
        · obtain ⟨y1, y2, y3⟩ := vq.1 y
          have w1 := mwt_le (nn := nn) m (by omega) _ y3
          rw [if_pos y] at eq
          rcases lq with l | ⟨l1, l2⟩
          · rw [fv] at l
            have w2 := d3 _ l ⟨y1, y2⟩
            dsimp only at w2
            omega
          · rw [fv] at l1
            rw [l1] at y3 eq
            exact i3 q y3 (by omega) l2
        · rcases lq with l | ⟨l1, l2⟩
          · rw [fv] at l; omega
          · rw [fv] at l1; omega
/-- the system's row is the match -/
theorem mg_bs {U : Vt} {nn : Nat → Nat → Nat} {ws : Nat → Nat} {ng nt : Nat} (g4 : ng ≤ 4) (t5 : nt ≤ 5) (hn : ∀ t g, t < nt → g < ng → U 49 (t * 4 + g) = nI (nn t g) ∧ nn t g ≤ 20) : mBs (fun t g => (ws t).testBit g = true) nn ng nt (mgf (ouL U nt ng ws nt) nt ng ws) := by
  have o := mg_opt (U := ouL U nt ng ws nt) (nn := nn) (ws := ws) g4 t5 (fun t g ht hg => by rw [ouL_o (by decide)]; exact hn t g ht hg) (fun j k hj hk => ouL_T g4 t5 hn nt (Nat.le_refl nt) j k hj hk) nt (Nat.le_refl nt)
  rw [Nat.sub_self] at o
  refine ⟨fun t _ => ?_, o.1, fun q hq vq => ⟨by rw [o.2.1]; exact mwt_le nt (Nat.le_refl nt) _ vq, fun e => o.2.2 q vq (e.trans o.2.1)⟩⟩
  unfold mgf
  split
  · exact Nat.le_refl ng
  · rename_i z
    rcases fbI_rng (ouL U nt ng ws nt) nt ng t (giL (ouL U nt ng ws nt) nt ng ws t).2 (ws t) with y | ⟨g, hg, y⟩
    · exact absurd y z
    · have y2 : mgc (ouL U nt ng ws nt) nt ng ws t = nI g := y
      rw [y2, nI_clamp (by omega)]
      omega
/-- what is asked of a match -/
def mAn (nn : Nat → Nat → Nat) (ng nt : Nat) (f : Nat → Nat) (z : Int32) : Int32 := if z = -2 then nI (cntI (fun t => f t < ng) nt) else if z = -1 then nI (sumN (fun t => if f t < ng then nn t (f t) else 0) nt) else if ¬ z < 0 ∧ z < nI nt then (if f z.toNatClampNeg < ng then nI (f z.toNatClampNeg) else -9) else -9
theorem sumN_cg {f q : Nat → Nat} : ∀ n, (∀ t, t < n → f t = q t) → sumN f n = sumN q n
  | 0, _ => rfl
  | n + 1, h => by rw [sumN, sumN, sumN_cg n (fun t ht => h t (by omega)), h n (by omega)]
theorem mAn_cg {nn nn2 : Nat → Nat → Nat} {ng nt : Nat} {f q : Nat → Nat} {z : Int32} (h_5_ : nt ≤ 5) (hn : ∀ t g, t < nt → g < ng → nn t g = nn2 t g) (h : ∀ t, t < nt → f t = q t) : mAn nn ng nt f z = mAn nn2 ng nt q z := by
  unfold mAn
  have a : cntI (fun t => f t < ng) nt = cntI (fun t => q t < ng) nt := cntI_cong _ (fun t ht => by rw [h t ht])
  have b : sumN (fun t => if f t < ng then nn t (f t) else 0) nt = sumN (fun t => if q t < ng then nn2 t (q t) else 0) nt := sumN_cg nt (fun t ht => by
    rw [h t ht]
    split
    · rw [hn t _ ht (by assumption)]
    · rfl)
  rw [a, b]
  by_cases c : ¬ z < 0 ∧ z < nI nt
  · have e : z.toNatClampNeg < nt := by
      rcases pk_ix z (n := nt) (by omega) with w | w | ⟨j, w, e⟩
      · exact absurd w c.1
      · exact absurd c.2 (Int32.not_lt.mpr w)
      · rw [e, nI_clamp (by omega)]; exact w
    rw [if_pos c, if_pos c, h _ e]
  · rw [if_neg c, if_neg c]
theorem smI_n {f : Nat → Int32} {q : Nat → Nat} : ∀ n, (∀ t, t < n → f t = nI (q t)) → smI f n = nI (sumN q n)
  | 0, _ => rfl
  | n + 1, h => by rw [smI, sumN, smI_n n (fun t ht => h t (by omega)), h n (by omega), nI_add]
theorem maX_an {U : Vt} {nn : Nat → Nat → Nat} {ws : Nat → Nat} {ng nt : Nat} {z : Int32} (g4 : ng ≤ 4) (t5 : nt ≤ 5) (hz : -2 ≤ z ∧ z ≤ 4) (hn : ∀ t g, t < nt → g < ng → U 49 (t * 4 + g) = nI (nn t g) ∧ nn t g ≤ 20) : maX (maV U nt ng ws) nt z = mAn nn ng nt (mgf (ouL U nt ng ws nt) nt ng ws) z := by
  have e51 : ∀ t, t < nt → maV U nt ng ws 51 t = mgc (ouL U nt ng ws nt) nt ng ws t := fun t ht => by unfold maV; exact gi_51 g4 nt t ht
  have e49 : maV U nt ng ws 49 = U 49 := by unfold maV; rw [giL_o (by decide), ouL_o (by decide)]
  have cs : ∀ t, t < nt → (mgc (ouL U nt ng ws nt) nt ng ws t = -9 ∧ ¬ mgf (ouL U nt ng ws nt) nt ng ws t < ng) ∨ (mgf (ouL U nt ng ws nt) nt ng ws t < ng ∧ mgc (ouL U nt ng ws nt) nt ng ws t = nI (mgf (ouL U nt ng ws nt) nt ng ws t)) := by
    intro t ht
    by_cases e : mgc (ouL U nt ng ws nt) nt ng ws t = -9
    · exact Or.inl ⟨e, by unfold mgf; rw [if_pos e]; exact Nat.lt_irrefl ng⟩
    · rcases fbI_rng (ouL U nt ng ws nt) nt ng t (giL (ouL U nt ng ws nt) nt ng ws t).2 (ws t) with y | ⟨g, hg, y⟩
      · exact absurd y e
      · have y2 : mgc (ouL U nt ng ws nt) nt ng ws t = nI g := y
        refine Or.inr ?_
        unfold mgf
        rw [if_neg e, y2, nI_clamp (by omega)]
        exact ⟨hg, rfl⟩
  unfold maX mAn
  by_cases z2 : z = -2
  · rw [if_pos z2, if_pos z2]
    congr 1
    refine cntI_cong _ (fun t ht => ?_)
    rw [e51 t ht]
    rcases cs t ht with ⟨a, b⟩ | ⟨a, b⟩
    · rw [a]; exact ⟨fun w => absurd rfl w, fun w => absurd w b⟩
    · rw [b]; exact ⟨fun _ => a, fun _ => m9_nI (by omega)⟩
  · rw [if_neg z2, if_neg z2]
    by_cases z1 : z = -1
    · rw [if_pos z1, if_pos z1]
      refine smI_n nt (fun t ht => ?_)
      rw [e51 t ht, e49]
      rcases cs t ht with ⟨a, b⟩ | ⟨a, b⟩
      · rw [if_pos a, if_neg b]; rfl
      · rw [b, if_neg (m9_nI (by omega)), nI_clamp (by omega), if_pos a]
        exact (hn t _ ht a).1
    · rw [if_neg z1, if_neg z1]
      unfold atR
      by_cases w : ¬ z < 0 ∧ z < nI nt
      · rw [if_pos w, if_pos w]
        have e : z.toNatClampNeg < nt := by
          rcases pk_ix z (n := nt) (by omega) with u | u | ⟨j, u, e⟩
          · exact absurd u w.1
          · exact absurd w.2 (Int32.not_lt.mpr u)
          · rw [e, nI_clamp (by omega)]; exact u
        rw [e51 _ e]
        rcases cs _ e with ⟨a, b⟩ | ⟨a, b⟩
        · rw [if_neg b, a]
        · rw [if_pos a, b]
      · rw [if_neg w, if_neg w]
