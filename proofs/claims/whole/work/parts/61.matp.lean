/-! MATCHES: f t is the girl of thrower t (ng: none); the last m throwers are nt - m .. nt - 1 -/
def mwt (nn : Nat → Nat → Nat) (ng nt : Nat) (f : Nat → Nat) : Nat → Nat
  | 0 => 0
  | m + 1 => (if f (nt - 1 - m) < ng then 1000 - nn (nt - 1 - m) (f (nt - 1 - m)) else 0) + mwt nn ng nt f m
/-- each girl of the last m throwers is won by her thrower, and none is taken (k: those that are) -/
def mvl (P : Nat → Nat → Prop) (ng nt : Nat) (f : Nat → Nat) : Nat → Nat → Prop
  | 0, _ => True
  | m + 1, k => (f (nt - 1 - m) < ng → P (nt - 1 - m) (f (nt - 1 - m)) ∧ k.testBit (f (nt - 1 - m)) = false ∧ mvl P ng nt f m (k ||| 2 ^ f (nt - 1 - m))) ∧ (¬ f (nt - 1 - m) < ng → mvl P ng nt f m k)
def mlx (nt : Nat) (f q : Nat → Nat) : Nat → Prop
  | 0 => False
  | m + 1 => f (nt - 1 - m) < q (nt - 1 - m) ∨ (f (nt - 1 - m) = q (nt - 1 - m) ∧ mlx nt f q m)
/-- f is the match -/
def mBs (P : Nat → Nat → Prop) (nn : Nat → Nat → Nat) (ng nt : Nat) (f : Nat → Nat) : Prop :=
  (∀ t, t < nt → f t ≤ ng) ∧ mvl P ng nt f nt 0 ∧ ∀ q : Nat → Nat, (∀ t, t < nt → q t ≤ ng) → mvl P ng nt q nt 0 → mwt nn ng nt q nt ≤ mwt nn ng nt f nt ∧ (mwt nn ng nt q nt = mwt nn ng nt f nt → ¬ mlx nt q f nt)
theorem mlx_eq {nt : Nat} {f q : Nat → Nat} : ∀ m, m ≤ nt → ¬ mlx nt f q m → ¬ mlx nt q f m → ∀ t, nt - m ≤ t → t < nt → f t = q t
  | 0, _, _, _, t, a, b => absurd a (by omega)
  | m + 1, hm, h_1_, h_2_, t, a, b => by
    have e : f (nt - 1 - m) = q (nt - 1 - m) := by
      rcases Nat.lt_trichotomy (f (nt - 1 - m)) (q (nt - 1 - m)) with c | c | c
      · exact absurd (Or.inl c) h_1_
      · exact c
      · exact absurd (Or.inl c) h_2_
    by_cases c : t = nt - 1 - m
    · rw [c]; exact e
    · exact mlx_eq m (by omega) (fun z => h_1_ (Or.inr ⟨e, z⟩)) (fun z => h_2_ (Or.inr ⟨e.symm, z⟩)) t (by omega) b
theorem mBs_one {P : Nat → Nat → Prop} {nn : Nat → Nat → Nat} {ng nt : Nat} {f q : Nat → Nat} (h_1_ : mBs P nn ng nt f) (h_2_ : mBs P nn ng nt q) : ∀ t, t < nt → f t = q t := by
  have a := h_1_.2.2 q h_2_.1 h_2_.2.1
  have b := h_2_.2.2 f h_1_.1 h_1_.2.1
  have e : mwt nn ng nt q nt = mwt nn ng nt f nt := Nat.le_antisymm a.1 b.1
  exact fun t ht => mlx_eq nt (Nat.le_refl nt) (b.2 e.symm) (a.2 e) t (by omega) ht
theorem mwt_cg {nn : Nat → Nat → Nat} {ng nt : Nat} {f q : Nat → Nat} (h : ∀ t, t < nt → f t = q t) : ∀ m, m ≤ nt → mwt nn ng nt f m = mwt nn ng nt q m
  | 0, _ => rfl
  | m + 1, hm => by rw [mwt, mwt, mwt_cg h m (by omega), h (nt - 1 - m) (by omega)]
theorem mvl_cg {P : Nat → Nat → Prop} {ng nt : Nat} {f q : Nat → Nat} (h : ∀ t, t < nt → f t = q t) : ∀ m, m ≤ nt → ∀ k, (mvl P ng nt f m k ↔ mvl P ng nt q m k)
  | 0, _, _ => Iff.rfl
  | m + 1, hm, k => by
    have ih := mvl_cg (P := P) (ng := ng) h m (by omega)
    rw [mvl, mvl, h (nt - 1 - m) (by omega), ih, ih]
theorem mvl_P {P P2 : Nat → Nat → Prop} {ng nt : Nat} {f : Nat → Nat} (h : ∀ t g, t < nt → g < ng → (P t g ↔ P2 t g)) : ∀ m, m ≤ nt → ∀ k, (mvl P ng nt f m k ↔ mvl P2 ng nt f m k)
  | 0, _, _ => Iff.rfl
  | m + 1, hm, k => by
    have ih := mvl_P (f := f) h m (by omega)
    rw [mvl, mvl, ih, ih]
    constructor
    · exact fun z => ⟨fun c => ⟨(h _ _ (by omega) c).mp (z.1 c).1, (z.1 c).2⟩, z.2⟩
    · exact fun z => ⟨fun c => ⟨(h _ _ (by omega) c).mpr (z.1 c).1, (z.1 c).2⟩, z.2⟩
theorem mwt_n {nn nn2 : Nat → Nat → Nat} {ng nt : Nat} {f : Nat → Nat} (h : ∀ t g, t < nt → g < ng → nn t g = nn2 t g) : ∀ m, m ≤ nt → mwt nn ng nt f m = mwt nn2 ng nt f m
  | 0, _ => rfl
  | m + 1, hm => by
    rw [mwt, mwt, mwt_n h m (by omega)]
    split
    · rw [h _ _ (by omega) (by assumption)]
    · rfl
theorem mBs_cg {P P2 : Nat → Nat → Prop} {nn nn2 : Nat → Nat → Nat} {ng nt : Nat} {f : Nat → Nat} (hP : ∀ t g, t < nt → g < ng → (P t g ↔ P2 t g)) (hn : ∀ t g, t < nt → g < ng → nn t g = nn2 t g) (h : mBs P nn ng nt f) : mBs P2 nn2 ng nt f := by
  refine ⟨h.1, (mvl_P hP nt (Nat.le_refl nt) 0).mp h.2.1, fun q h_1_ h_2_ => ?_⟩
  have z := h.2.2 q h_1_ ((mvl_P hP nt (Nat.le_refl nt) 0).mpr h_2_)
  rw [mwt_n hn nt (Nat.le_refl nt), mwt_n hn nt (Nat.le_refl nt)] at z
  exact z
/-! rows as numbers -/
def mnm (b nt : Nat) (f : Nat → Nat) : Nat → Nat
  | 0 => 0
  | m + 1 => f (nt - 1 - m) * b ^ m + mnm b nt f m
def mdg (b nt N t : Nat) : Nat := N / b ^ (nt - 1 - t) % b
theorem mnm_lt {b nt : Nat} {f : Nat → Nat} (h : ∀ t, t < nt → f t < b) : ∀ m, m ≤ nt → mnm b nt f m < b ^ m
  | 0, _ => by show 0 < b ^ 0; exact Nat.one_pos
  | m + 1, hm => by
    have a := mnm_lt h m (by omega)
    have c := h (nt - 1 - m) (by omega)
    have e : (f (nt - 1 - m) + 1) * b ^ m ≤ b * b ^ m := Nat.mul_le_mul_right _ c
    rw [mnm, Nat.pow_succ, Nat.mul_comm (b ^ m) b]
    rw [Nat.add_mul, Nat.one_mul] at e
    omega
theorem mnm_dg {b nt : Nat} {f : Nat → Nat} (h : ∀ t, t < nt → f t < b) {m : Nat} (hm : m < nt) : ∀ k, m < k → k ≤ nt → mnm b nt f k / b ^ m % b = f (nt - 1 - m)
  | 0, a, _ => absurd a (by omega)
  | k + 1, a, c => by
    have hb : 0 < b := by have := h (nt - 1 - m) (by omega); omega
    have hp : 0 < b ^ m := Nat.pow_pos hb
    rw [mnm]
    by_cases e : k = m
    · subst e
      rw [Nat.mul_comm, Nat.mul_add_div hp, Nat.div_eq_of_lt (mnm_lt h k (by omega)), Nat.add_zero, Nat.mod_eq_of_lt (h _ (by omega))]
    · have ih := mnm_dg h hm k (by omega) (by omega)
      have e2 : f (nt - 1 - k) * b ^ k = b ^ m * (b * (f (nt - 1 - k) * b ^ (k - m - 1))) := by
        have e3 : b ^ k = b ^ m * (b * b ^ (k - m - 1)) := by
          rw [← Nat.pow_succ', ← Nat.pow_add]
          congr 1
          omega
        rw [e3]
        rw [Nat.mul_left_comm, Nat.mul_left_comm (f (nt - 1 - k)) b]
      rw [e2, Nat.mul_add_div hp, Nat.mul_add_mod, ih]
theorem mdg_nm {b nt N : Nat} : ∀ m, m ≤ nt → mnm b nt (mdg b nt N) m = N % b ^ m
  | 0, _ => by rw [mnm, Nat.pow_zero, Nat.mod_one]
  | m + 1, hm => by
    rw [mnm, mdg_nm m (by omega), Nat.mod_pow_succ, Nat.add_comm]
    unfold mdg
    rw [show nt - 1 - (nt - 1 - m) = m by omega, Nat.mul_comm]
theorem mlx_nm {b nt : Nat} {f q : Nat → Nat} (hf : ∀ t, t < nt → f t < b) : ∀ m, m ≤ nt → mlx nt f q m → mnm b nt f m < mnm b nt q m
  | 0, _, h => h.elim
  | m + 1, hm, h => by
    rw [mnm, mnm]
    have a := mnm_lt hf m (by omega)
    rcases h with h | ⟨h, k⟩
    · have e : (f (nt - 1 - m) + 1) * b ^ m ≤ q (nt - 1 - m) * b ^ m := Nat.mul_le_mul_right _ h
      rw [Nat.add_mul, Nat.one_mul] at e
      omega
    · have ih := mlx_nm hf m (by omega) k
      rw [h]
      omega
/-- the best of the rows 0 .. N - 1, the first of several -/
def mTr (P : Nat → Nat → Prop) (nn : Nat → Nat → Nat) (ng nt N B : Nat) : Prop :=
  B < N ∧ mvl P ng nt (mdg (ng + 1) nt B) nt 0 ∧ ∀ M, M < N → mvl P ng nt (mdg (ng + 1) nt M) nt 0 → mwt nn ng nt (mdg (ng + 1) nt M) nt ≤ mwt nn ng nt (mdg (ng + 1) nt B) nt ∧ (M < B → mwt nn ng nt (mdg (ng + 1) nt M) nt < mwt nn ng nt (mdg (ng + 1) nt B) nt)
theorem mTr_no {P : Nat → Nat → Prop} {nn : Nat → Nat → Nat} {ng nt N B : Nat} (h : mTr P nn ng nt N B) (hn : mvl P ng nt (mdg (ng + 1) nt N) nt 0 → mwt nn ng nt (mdg (ng + 1) nt N) nt ≤ mwt nn ng nt (mdg (ng + 1) nt B) nt) : mTr P nn ng nt (N + 1) B := by
  refine ⟨by have := h.1; omega, h.2.1, fun M hM v => ?_⟩
  by_cases e : M = N
  · subst e
    exact ⟨hn v, fun z => absurd z (by have := h.1; omega)⟩
  · exact h.2.2 M (by omega) v
theorem mTr_up {P : Nat → Nat → Prop} {nn : Nat → Nat → Nat} {ng nt N B : Nat} (h : mTr P nn ng nt N B) (hv : mvl P ng nt (mdg (ng + 1) nt N) nt 0) (hn : mwt nn ng nt (mdg (ng + 1) nt B) nt < mwt nn ng nt (mdg (ng + 1) nt N) nt) : mTr P nn ng nt (N + 1) N := by
  refine ⟨by omega, hv, fun M hM v => ?_⟩
  by_cases e : M = N
  · subst e
    exact ⟨Nat.le_refl _, fun z => absurd z (by omega)⟩
  · have z := (h.2.2 M (by omega) v).1
    exact ⟨by omega, fun _ => by omega⟩
theorem mTr_0 {P : Nat → Nat → Prop} {nn : Nat → Nat → Nat} {ng nt N : Nat} (h : ∀ M, M < N → ¬ mvl P ng nt (mdg (ng + 1) nt M) nt 0) (hv : mvl P ng nt (mdg (ng + 1) nt N) nt 0) : mTr P nn ng nt (N + 1) N := by
  refine ⟨by omega, hv, fun M hM v => ?_⟩
  by_cases e : M = N
  · subst e
    exact ⟨Nat.le_refl _, fun z => absurd z (by omega)⟩
  · exact absurd v (h M (by omega))
theorem mvl_none {P : Nat → Nat → Prop} {ng nt : Nat} {f : Nat → Nat} (h : ∀ t, t < nt → ¬ f t < ng) : ∀ m, m ≤ nt → ∀ k, mvl P ng nt f m k
  | 0, _, _ => trivial
  | m + 1, hm, k => ⟨fun c => absurd c (h _ (by omega)), fun _ => mvl_none h m (by omega) k⟩
theorem mdg_of {b nt : Nat} {f : Nat → Nat} (h : ∀ t, t < nt → f t < b) : ∀ t, t < nt → mdg b nt (mnm b nt f nt) t = f t := by
  intro t ht
  unfold mdg
  have z := mnm_dg h (m := nt - 1 - t) (by omega) nt (by omega) (Nat.le_refl nt)
  rw [z]
  congr 1
  omega
theorem mTr_bs {P : Nat → Nat → Prop} {nn : Nat → Nat → Nat} {ng nt B : Nat} (h : mTr P nn ng nt ((ng + 1) ^ nt) B) : mBs P nn ng nt (mdg (ng + 1) nt B) := by
  refine ⟨fun t _ => Nat.le_of_lt_succ (Nat.mod_lt _ (by omega)), h.2.1, fun q hq vq => ?_⟩
  have hq1 : ∀ t, t < nt → q t < ng + 1 := fun t ht => Nat.lt_succ_of_le (hq t ht)
  have hM := mnm_lt hq1 nt (Nat.le_refl nt)
  have ed := mdg_of hq1
  have z := h.2.2 _ hM ((mvl_cg ed nt (Nat.le_refl nt) 0).mpr vq)
  rw [mwt_cg ed nt (Nat.le_refl nt)] at z
  refine ⟨z.1, fun e l => ?_⟩
  have l2 := mlx_nm hq1 nt (Nat.le_refl nt) l
  rw [mdg_nm nt (Nat.le_refl nt), Nat.mod_eq_of_lt h.1] at l2
  have := z.2 l2
  omega
theorem mTr_ex {P : Nat → Nat → Prop} {ng nt : Nat} (h : ∀ M, M < (ng + 1) ^ nt → ¬ mvl P ng nt (mdg (ng + 1) nt M) nt 0) : False := by
  have hq : ∀ t, t < nt → (fun _ => ng) t < ng + 1 := fun _ _ => Nat.lt_succ_self ng
  refine h _ (mnm_lt (f := fun _ => ng) hq nt (Nat.le_refl nt)) (mvl_none (fun t ht => ?_) nt (Nat.le_refl nt) 0)
  rw [mdg_of hq t ht]
  exact Nat.lt_irrefl ng
/-- worth, by how many and measures together -/
theorem mwt_sum {nn : Nat → Nat → Nat} {ng nt : Nat} {f : Nat → Nat} : ∀ m, m ≤ nt → sumN (fun t => if f t < ng then 1000 - nn t (f t) else 0) (nt - m) + mwt nn ng nt f m = sumN (fun t => if f t < ng then 1000 - nn t (f t) else 0) nt
  | 0, _ => by rw [mwt, Nat.sub_zero, Nat.add_zero]
  | m + 1, hm => by
    have ih := mwt_sum (nn := nn) (ng := ng) (nt := nt) (f := f) m (by omega)
    rw [show nt - m = nt - 1 - m + 1 by omega, sumN] at ih
    rw [mwt, show nt - (m + 1) = nt - 1 - m by omega, ← Nat.add_assoc]
    exact ih
theorem mwt_ms {nn : Nat → Nat → Nat} {ng nt : Nat} {f : Nat → Nat} (hb : ∀ t g, t < nt → g < ng → nn t g ≤ 20) : mwt nn ng nt f nt + sumN (fun t => if f t < ng then nn t (f t) else 0) nt = 1000 * cntI (fun t => f t < ng) nt ∧ sumN (fun t => if f t < ng then nn t (f t) else 0) nt ≤ nt * 20 := by
  have a := mwt_sum (nn := nn) (ng := ng) (nt := nt) (f := f) nt (Nat.le_refl nt)
  rw [Nat.sub_self, sumN, Nat.zero_add] at a
  rw [a]
  constructor
  · have k : ∀ m, m ≤ nt → sumN (fun t => if f t < ng then 1000 - nn t (f t) else 0) m + sumN (fun t => if f t < ng then nn t (f t) else 0) m = 1000 * cntI (fun t => f t < ng) m := by
      intro m
      induction m with
      | zero => intro _; rfl
      | succ m ih =>
        intro hm
        have ih := ih (by omega)
        rw [sumN, sumN, cntI]
        by_cases c : f m < ng
        · rw [if_pos c, if_pos c, if_pos c]
          have := hb m (f m) (by omega) c
          omega
        · rw [if_neg c, if_neg c, if_neg c]
          omega
    exact k nt (Nat.le_refl nt)
  · refine sumN_bd nt (fun q hq => ?_)
    split
    · exact hb q _ hq (by assumption)
    · omega
