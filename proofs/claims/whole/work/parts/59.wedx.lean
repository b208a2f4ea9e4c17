def wPh (n : Nat → Nat → Int32) (nt ng : Nat) : Nat → Vt → (Nat → Nat) → Prop := fun s_9_ V rf =>
  (∀ t g, t < nt → g < ng → V 49 (t * 4 + g) = n t g) ∧ wIn n nt ng (V 51) (fun t g => (rf t).testBit g = true) ∧ s_9_ = sumN (fun t => cntI (fun g => (rf t).testBit g = true) ng + (if V 51 t = -9 then 0 else 1)) nt
theorem wPh_kp {n : Nat → Nat → Int32} {nt ng : Nat} (g4 : ng ≤ 4) : wKp nt ng (wPh n nt ng) := by
  intro s_9_ V V2 rf t g h hrf ht hg m9 hd ha
  obtain ⟨hn, hI, hs⟩ := h
  have hd2 : deG (n t) (rf t) ng = nI g := by
    rw [← hd, deI_G]
    exact (deG_cg ng (by omega) (fun q hq => (hn t q ht hq).symm)).1
  obtain ⟨nR, rc⟩ := deG_ask g4 hg hd2
  have nR2 : ¬ (rf t).testBit g = true := by rw [nR]; decide
  have e9 : ∀ q, nI q = -9 → ¬ q < 4 := fun q e z => m9_nI (by omega) e
  rcases ha with ⟨no, rfl⟩ | ⟨rv, hrv, erv, pr, rfl⟩ | ⟨rv, hrv, erv, pr, rfl⟩
  · refine ⟨rf, fun q hq => by rw [up2_k _ _ (by decide)]; exact hrf q hq, fun a b ha hb => by rw [up2_k _ _ (by decide)]; exact hn a b ha hb, wIn_a hI ht hg g4 m9 nR2 rc no (fun q hq => ?_) (fun _ _ _ _ => Iff.rfl), ?_⟩
    · by_cases e : q = t
      · rw [e, up2_s, if_pos rfl]
      · rw [up2_i _ _ e, if_neg e]
    · have k := sumN_up (f := fun t => cntI (fun g => (rf t).testBit g = true) ng + (if V 51 t = -9 then 0 else 1)) (f2 := fun q => cntI (fun g => (rf q).testBit g = true) ng + (if up2 V 51 t (nI g) 51 q = -9 then 0 else 1)) (t := t) (by rw [up2_s, if_pos m9, if_neg (fun e => e9 _ e (by omega))]) nt (fun q hq e => by rw [up2_i _ _ e])
      rw [if_pos ht] at k
      exact (congrArg (· + 1) hs).trans k.symm
  · have ne : rv ≠ t := fun c => by rw [c, m9] at erv; exact m9_nI (by omega) erv.symm
    have nRv : (rf rv).testBit g = false := by
      have z := (hI.2.1 rv g hrv hg erv).1
      cases y : (rf rv).testBit g with
      | false => rfl
      | true => exact absurd y z
    refine ⟨uN rf rv (rf rv ||| 2 ^ g), fun q hq => ?_, fun a b ha hb => by rw [up2_k _ _ (by decide), up2_k _ _ (by decide), up2_k _ _ (by decide)]; exact hn a b ha hb, wIn_b hI ht hg g4 m9 nR2 rc hrv erv ?_ (fun q hq => ?_) (fun a b ha hb => ?_), ?_⟩
    · rw [up2_k _ _ (by decide)]
      by_cases e : q = rv
      · rw [e, up2_s, uN_s]; exact ⟨rfl, or16 (hrf rv hrv).2 (by omega)⟩
      · rw [up2_i _ _ e, uN_o _ _ e, up2_k _ _ (by decide)]; exact hrf q hq
    · unfold raI at pr
      rw [hn t g ht hg, hn rv g hrv hg] at pr
      exact pr
    · by_cases e : q = t
      · rw [e, up2_s, if_pos rfl]
      · rw [up2_i _ _ e, up2_k _ _ (by decide), if_neg e]
        by_cases d : q = rv
        · rw [d, up2_s, if_pos rfl]
        · rw [up2_i _ _ d, if_neg d]
    · by_cases e : a = rv
      · rw [e, uN_s]; exact tb_or.trans ⟨fun z => z.imp id (fun y => ⟨rfl, y⟩), fun z => z.imp id (fun y => y.2)⟩
      · rw [uN_o _ _ e]; exact ⟨Or.inl, fun z => z.resolve_right (fun y => e y.1)⟩
    · have k := sumN_up (f := fun t => cntI (fun g => (rf t).testBit g = true) ng + (if V 51 t = -9 then 0 else 1)) (f2 := fun q => cntI (fun b => (uN rf rv (rf rv ||| 2 ^ g) q).testBit b = true) ng + (if up2 (up2 (up2 V 51 rv (-9)) 52 rv (nI (rf rv ||| 2 ^ g))) 51 t (nI g) 51 q = -9 then 0 else 1)) (t := t) (by rw [up2_s, if_pos m9, if_neg (fun e => e9 _ e (by omega)), uN_o _ _ ne.symm]) nt (fun q hq e => by
        rw [up2_i _ _ e, up2_k _ _ (by decide)]
        by_cases d : q = rv
        · rw [d, uN_s, up2_s, if_pos rfl, cnt_or nRv, if_pos hg, erv, if_neg (fun e => e9 _ e (by omega))]
        · rw [uN_o _ _ d, up2_i _ _ d])
      rw [if_pos ht] at k
      exact (congrArg (· + 1) hs).trans k.symm
  · refine ⟨uN rf t (rf t ||| 2 ^ g), fun q hq => ?_, fun a b ha hb => by rw [up2_k _ _ (by decide)]; exact hn a b ha hb, wIn_c hI ht hg g4 m9 rc hrv erv ?_ (fun q hq => by rw [up2_k _ _ (by decide)]) (fun a b ha hb => ?_), ?_⟩
    · by_cases e : q = t
      · rw [e, up2_s, uN_s]; exact ⟨rfl, or16 (hrf t ht).2 (by omega)⟩
      · rw [up2_i _ _ e, uN_o _ _ e]; exact hrf q hq
    · unfold raI at pr
      rw [hn t g ht hg, hn rv g hrv hg] at pr
      exact pr
    · by_cases e : a = t
      · rw [e, uN_s]; exact tb_or.trans ⟨fun z => z.imp id (fun y => ⟨rfl, y⟩), fun z => z.imp id (fun y => y.2)⟩
      · rw [uN_o _ _ e]; exact ⟨Or.inl, fun z => z.resolve_right (fun y => e y.1)⟩
    · have k := sumN_up (f := fun t => cntI (fun g => (rf t).testBit g = true) ng + (if V 51 t = -9 then 0 else 1)) (f2 := fun q => cntI (fun b => (uN rf t (rf t ||| 2 ^ g) q).testBit b = true) ng + (if up2 V 52 t (nI (rf t ||| 2 ^ g)) 51 q = -9 then 0 else 1)) (t := t) (by rw [uN_s, up2_k _ _ (by decide), if_pos m9, cnt_or nR, if_pos hg]) nt (fun q hq e => by
        rw [uN_o _ _ e, up2_k _ _ (by decide)])
      rw [if_pos ht] at k
      exact (congrArg (· + 1) hs).trans k.symm
/-- .. at the end -/
theorem wPh_end {n : Nat → Nat → Int32} {nt ng j n_8_ : Nat} {V : Vt} {rf : Nat → Nat} (g4 : ng ≤ 4) (t5 : nt ≤ 5) (h : wPh n nt ng n_8_ V rf) (he : n_8_ = 24 ∨ ∀ q, q < nt → V 51 q = -9 → deI V q (rf q) ng = -9) : wRes n nt ng j (V 51 j) := by
  obtain ⟨hn, hI, hs⟩ := h
  refine ⟨V 51, _, hI, fun t ht e g hg => ?_, rfl⟩
  have hb : n_8_ ≤ nt * ng := by
    rw [hs]
    refine sumN_bd nt (fun q hq => ?_)
    rcases hI.1 q hq with e | ⟨k, hk, e⟩
    · rw [if_pos e]; exact cntI_le _ ng
    · rw [if_neg (by rw [e]; exact m9_nI (by omega))]
      exact cnt_miss (P := fun g => (rf q).testBit g = true) (hI.2.1 q k hq hk e).1 ng hk
  have hb2 : nt * ng ≤ 5 * 4 := Nat.mul_le_mul t5 g4
  have he := he.resolve_left (by omega) t ht e
  rw [deI_G, (deG_cg ng (by omega) (fun q hq => hn t q ht hq)).1] at he
  exact deG_none g4 he g hg
theorem wPh_0 {n : Nat → Nat → Int32} {nt ng : Nat} {U : Vt} (g4 : ng ≤ 4) (h_49_ : ∀ t g, t < nt → g < ng → U 49 (t * 4 + g) = n t g) (h_51_ : ∀ t, t < nt → U 51 t = -9) : wPh n nt ng 0 U (fun _ => 0) := by
  refine ⟨h_49_, wIn_0 h_51_ (fun t g _ _ => by rw [Nat.zero_testBit]; decide) g4, ?_⟩
  have e : ∀ m, m ≤ nt → sumN (fun t => cntI (fun g => (0 : Nat).testBit g = true) ng + (if U 51 t = -9 then 0 else 1)) m = 0 := by
    intro m
    induction m with
    | zero => intro _; rfl
    | succ m ih =>
      intro hm
      have z : ∀ k, cntI (fun g => (0 : Nat).testBit g = true) k = 0 := by
        intro k
        induction k with
        | zero => rfl
        | succ k ik => rw [cntI, ik, if_neg (by rw [Nat.zero_testBit]; decide)]
      rw [sumN, ih (by omega), z, if_pos (h_51_ m (by omega))]
  exact (e nt (Nat.le_refl nt)).symm
