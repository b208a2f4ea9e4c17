abbrev mfr (w k g : Nat) : Prop := w.testBit g = true ∧ k.testBit g = false
/-- the choice of one thrower: none (worth vn), or the first girl of the best -/
def mCh (w k : Nat) (val : Nat → Nat) (vn gn : Nat) (z : Int32) : Prop := (z = -9 ∧ ∀ q, q < gn → mfr w k q → val q < vn) ∨ ∃ g0, g0 < gn ∧ mfr w k g0 ∧ z = nI g0 ∧ vn ≤ val g0 ∧ (∀ q, q < g0 → mfr w k q → val q < val g0) ∧ ∀ q, q < gn → mfr w k q → val q ≤ val g0
theorem m1_lt {v : Nat} (hv : v < 100000) : (-1 : Int32) < nI v := by
  rw [Int32.lt_iff_toInt_lt, nI_toInt (by omega), show (-1 : Int32).toInt = -1 by decide]
  omega
theorem m1_nlt {v : Nat} (hv : v < 100000) : ¬ nI v < (-1 : Int32) := by
  rw [Int32.lt_iff_toInt_lt, nI_toInt (by omega), show (-1 : Int32).toInt = -1 by decide]
  omega
theorem fbL_ch {V : Vt} {tn t k9 w gn : Nat} {val : Nat → Nat} (hv : ∀ g, g < gn → mfr w k9 g → wWI V tn t k9 (nI g) = nI (val g) ∧ val g < 100000) : ∀ g, g ≤ gn → (fbL V tn t k9 w g = (-9, -1) ∧ ∀ q, q < g → ¬ mfr w k9 q) ∨ ∃ g0, g0 < g ∧ mfr w k9 g0 ∧ fbL V tn t k9 w g = (nI g0, nI (val g0)) ∧ (∀ q, q < g0 → mfr w k9 q → val q < val g0) ∧ ∀ q, q < g → mfr w k9 q → val q ≤ val g0
  | 0, _ => Or.inl ⟨rfl, fun q h => absurd h (by omega)⟩
  | g + 1, hg => by
    have hy : mfr w k9 g → fbR V tn t k9 w g = nI (val g) := fun z => by unfold fbR; rw [if_pos z]; exact (hv g (by omega) z).1
    have hn : ¬ mfr w k9 g → fbR V tn t k9 w g = -1 := fun z => by unfold fbR; rw [if_neg z]
    rcases fbL_ch hv g (by omega) with ⟨a, b⟩ | ⟨g0, a, b, c, d, e⟩
    · by_cases z : mfr w k9 g
      · rw [fbL_y (by rw [a, hy z]; exact m1_lt (hv g (by omega) z).2), hy z]
        exact Or.inr ⟨g, by omega, z, rfl, fun q hq y => absurd y (b q hq), fun q hq y => by
          by_cases e : q = g
          · rw [e]; exact Nat.le_refl _
          · exact absurd y (b q (by omega))⟩
      · rw [fbL_n (by rw [a, hn z]; decide)]
        exact Or.inl ⟨a, fun q hq => by
          by_cases e : q = g
          · rw [e]; exact z
          · exact b q (by omega)⟩
    · have hv0 := (hv g0 (by omega) b).2
      by_cases z : mfr w k9 g
      · have hvg := (hv g (by omega) z).2
        by_cases y : val g0 < val g
        · rw [fbL_y (by rw [c, hy z]; exact nI_lt y (by omega)), hy z]
          exact Or.inr ⟨g, by omega, z, rfl, fun q hq r => Nat.lt_of_le_of_lt (e q hq r) y, fun q hq r => by
            by_cases x : q = g
            · rw [x]; exact Nat.le_refl _
            · exact Nat.le_of_lt (Nat.lt_of_le_of_lt (e q (by omega) r) y)⟩
        · rw [fbL_n (by rw [c, hy z]; exact fun x => y ((nI_ltI (by omega) (by omega)).mp x))]
          exact Or.inr ⟨g0, by omega, b, c, d, fun q hq r => by
            by_cases x : q = g
            · rw [x]; omega
            · exact e q (by omega) r⟩
      · rw [fbL_n (by rw [c, hn z]; exact m1_nlt hv0)]
        exact Or.inr ⟨g0, by omega, b, c, d, fun q hq r => by
          by_cases x : q = g
          · rw [x] at r; exact absurd r z
          · exact e q (by omega) r⟩
theorem fbI_ch {V : Vt} {tn gn t k9 w vn : Nat} {val : Nat → Nat} (hv : ∀ g, g < gn → mfr w k9 g → wWI V tn t k9 (nI g) = nI (val g) ∧ val g < 100000) (hN : wWI V tn t k9 (-9) = nI vn) (hb : vn < 100000) : mCh w k9 val vn gn (fbI V tn gn t k9 w) := by
  unfold fbI
  rw [hN]
  rcases fbL_ch hv gn (Nat.le_refl gn) with ⟨a, b⟩ | ⟨g0, a, b, c, d, e⟩
  · rw [a, if_pos (m1_lt hb)]
    exact Or.inl ⟨rfl, fun q hq y => absurd y (b q hq)⟩
  · have hv0 := (hv g0 (by omega) b).2
    rw [c]
    by_cases y : val g0 < vn
    · rw [if_pos (nI_lt y (by omega))]
      exact Or.inl ⟨rfl, fun q hq r => Nat.lt_of_le_of_lt (e q hq r) y⟩
    · rw [if_neg (fun x => y ((nI_ltI (by omega) (by omega)).mp x))]
      exact Or.inr ⟨g0, a, b, rfl, by omega, d, e⟩
/-- the best worth that the last m throwers reach, the girls in k taken -/
def mxL (f : Nat → Nat) (a : Nat) : Nat → Nat
  | 0 => a
  | g + 1 => if mxL f a g < f g then f g else mxL f a g
theorem mxL_a (f : Nat → Nat) (a : Nat) : ∀ n, a ≤ mxL f a n
  | 0 => Nat.le_refl a
  | n + 1 => by
    have := mxL_a f a n
    rw [mxL]
    split <;> omega
theorem mxL_f (f : Nat → Nat) (a : Nat) : ∀ n g, g < n → f g ≤ mxL f a n
  | 0, _, h => absurd h (by omega)
  | n + 1, g, h => by
    rw [mxL]
    by_cases e : g = n
    · subst e
      split <;> omega
    · have := mxL_f f a n g (by omega)
      split <;> omega
theorem mxL_u {f : Nat → Nat} {a b : Nat} : ∀ n, a ≤ b → (∀ g, g < n → f g ≤ b) → mxL f a n ≤ b
  | 0, h, _ => h
  | n + 1, h, k => by
    have := mxL_u n h (fun g hg => k g (by omega))
    have := k n (by omega)
    rw [mxL]
    split <;> omega
def mwv (nn : Nat → Nat → Nat) (ws : Nat → Nat) (ng nt : Nat) : Nat → Nat → Nat
  | 0, _ => 0
  | m + 1, k => mxL (fun g => if (ws (nt - 1 - m)).testBit g = true ∧ k.testBit g = false then 1000 - nn (nt - 1 - m) g + mwv nn ws ng nt m (k ||| 2 ^ g) else 0) (mwv nn ws ng nt m k) ng
theorem mwv_b {nn : Nat → Nat → Nat} {ws : Nat → Nat} {ng nt : Nat} : ∀ m k, mwv nn ws ng nt m k ≤ 1000 * m
  | 0, _ => Nat.le_refl 0
  | m + 1, k => by
    rw [mwv]
    refine mxL_u ng (by have := mwv_b (nn := nn) (ws := ws) (ng := ng) (nt := nt) m k; omega) (fun g _ => ?_)
    have := mwv_b (nn := nn) (ws := ws) (ng := ng) (nt := nt) m (k ||| 2 ^ g)
    split <;> omega
/-- the value of a choice -/
theorem mCh_v {nn : Nat → Nat → Nat} {ws : Nat → Nat} {ng nt m k : Nat} {z : Int32} (h : mCh (ws (nt - 1 - m)) k (fun g => 1000 - nn (nt - 1 - m) g + mwv nn ws ng nt m (k ||| 2 ^ g)) (mwv nn ws ng nt m k) ng z) : (z = -9 ∧ mwv nn ws ng nt (m + 1) k = mwv nn ws ng nt m k) ∨ ∃ g0, g0 < ng ∧ z = nI g0 ∧ mwv nn ws ng nt (m + 1) k = 1000 - nn (nt - 1 - m) g0 + mwv nn ws ng nt m (k ||| 2 ^ g0) := by
  rcases h with ⟨a, b⟩ | ⟨g0, a, b, c, d, e, f⟩
  · refine Or.inl ⟨a, ?_⟩
    rw [mwv]
    refine Nat.le_antisymm (mxL_u ng (Nat.le_refl _) (fun g hg => ?_)) (mxL_a _ _ ng)
    split
    · rename_i y
      exact Nat.le_of_lt (b g hg y)
    · omega
  · refine Or.inr ⟨g0, a, c, ?_⟩
    rw [mwv]
    refine Nat.le_antisymm (mxL_u ng d (fun g hg => ?_)) ?_
    · split
      · rename_i y
        exact f g hg y
      · omega
    · have z2 := mxL_f (fun g => if (ws (nt - 1 - m)).testBit g = true ∧ k.testBit g = false then 1000 - nn (nt - 1 - m) g + mwv nn ws ng nt m (k ||| 2 ^ g) else 0) (mwv nn ws ng nt m k) ng g0 a
      rw [if_pos b] at z2
      exact z2
/-! the table -/
theorem wWI_cg {V V2 : Vt} {tn t k9 : Nat} {g : Int32} (h_49_ : V2 49 = V 49) (h_53_ : ∀ k, k < 16 → V2 53 ((t + 1) * 16 + k) = V 53 ((t + 1) * 16 + k)) (hk : k9 < 16) (hg : g = -9 ∨ ∃ q, q < 4 ∧ g = nI q) : wWI V2 tn t k9 g = wWI V tn t k9 g := by
  unfold wWI
  rcases hg with e | ⟨q, hq, e⟩
  · rw [if_pos e, if_pos e, h_53_ k9 hk]
  · subst e
    rw [if_neg (m9_nI (by omega)), if_neg (m9_nI (by omega)), nI_clamp (by omega), h_49_, h_53_ _ (or16 hk hq)]
theorem fbL_cg {V V2 : Vt} {tn t k9 w : Nat} (h_49_ : V2 49 = V 49) (h_53_ : ∀ k, k < 16 → V2 53 ((t + 1) * 16 + k) = V 53 ((t + 1) * 16 + k)) (hk : k9 < 16) : ∀ g, g ≤ 4 → fbL V2 tn t k9 w g = fbL V tn t k9 w g
  | 0, _ => rfl
  | g + 1, hg => by
    have e : fbR V2 tn t k9 w g = fbR V tn t k9 w g := by
      unfold fbR
      rw [wWI_cg h_49_ h_53_ hk (Or.inr ⟨g, by omega, rfl⟩)]
    rw [fbL, fbL, e, fbL_cg h_49_ h_53_ hk g (by omega)]
theorem fbI_cg {V V2 : Vt} {tn gn t k9 w : Nat} (h_49_ : V2 49 = V 49) (h_53_ : ∀ k, k < 16 → V2 53 ((t + 1) * 16 + k) = V 53 ((t + 1) * 16 + k)) (hk : k9 < 16) (hg : gn ≤ 4) : fbI V2 tn gn t k9 w = fbI V tn gn t k9 w := by
  unfold fbI
  rw [wWI_cg h_49_ h_53_ hk (Or.inl rfl), fbL_cg h_49_ h_53_ hk gn hg]
theorem inL_v {V : Vt} {tn gn t w : Nat} (g4 : gn ≤ 4) : ∀ k, k ≤ 16 → (∀ x, ¬ (t * 16 ≤ x ∧ x < t * 16 + k) → inL V tn gn t w k 53 x = V 53 x) ∧ ∀ q, q < k → inL V tn gn t w k 53 (t * 16 + q) = wWI V tn t q (fbI V tn gn t q w)
  | 0, _ => ⟨fun _ _ => rfl, fun q h => absurd h (by omega)⟩
  | k + 1, hk => by
    obtain ⟨a, b⟩ := inL_v (V := V) (tn := tn) (t := t) (w := w) g4 k (by omega)
    have h_49_ : inL V tn gn t w k 49 = V 49 := inL_o (by decide) k
    have h_53_ : ∀ j, j < 16 → inL V tn gn t w k 53 ((t + 1) * 16 + j) = V 53 ((t + 1) * 16 + j) := fun j hj => a _ (by omega)
    have ev : wWI (inL V tn gn t w k) tn t k (fbI (inL V tn gn t w k) tn gn t k w) = wWI V tn t k (fbI V tn gn t k w) := by
      rw [fbI_cg h_49_ h_53_ (by omega) g4]
      refine wWI_cg h_49_ h_53_ (by omega) ?_
      rcases fbI_rng V tn gn t k w with z | ⟨q, hq, z⟩
      · exact Or.inl z
      · exact Or.inr ⟨q, by omega, z⟩
    rw [inL, ev]
    refine ⟨fun x hx => ?_, fun q hq => ?_⟩
    · rw [up2_i _ _ (by omega)]
      exact a x (by omega)
    · by_cases e : q = k
      · rw [e, up2_s]
      · rw [up2_i _ _ (by omega)]
        exact b q (by omega)
theorem or_lt2 {k g n : Nat} (hk : k < 2 ^ n) (hg : g < n) : k ||| 2 ^ g < 2 ^ n := Nat.or_lt_two_pow hk (Nat.pow_lt_pow_right (by decide) hg)
/-- one thrower's row of the table, out of the next one's -/
theorem mrow_ch {V : Vt} {nn : Nat → Nat → Nat} {ws : Nat → Nat} {ng nt m k : Nat} (g4 : ng ≤ 4) (hm : m < nt) (t5 : nt ≤ 5) (hn : ∀ t g, t < nt → g < ng → V 49 (t * 4 + g) = nI (nn t g) ∧ nn t g ≤ 20) (hT : ∀ j k, j < m → k < 2 ^ ng → V 53 ((nt - 1 - j) * 16 + k) = nI (mwv nn ws ng nt (j + 1) k)) (hk : k < 2 ^ ng) :
    mCh (ws (nt - 1 - m)) k (fun g => 1000 - nn (nt - 1 - m) g + mwv nn ws ng nt m (k ||| 2 ^ g)) (mwv nn ws ng nt m k) ng (fbI V nt ng (nt - 1 - m) k (ws (nt - 1 - m))) ∧ wWI V nt (nt - 1 - m) k (fbI V nt ng (nt - 1 - m) k (ws (nt - 1 - m))) = nI (mwv nn ws ng nt (m + 1) k) := by
  have nx : ∀ k, k < 2 ^ ng → (if nt - 1 - m + 1 < nt then V 53 ((nt - 1 - m + 1) * 16 + k) else 0) = nI (mwv nn ws ng nt m k) := by
    intro k hk
    cases m with
    | zero => rw [if_neg (by omega)]; rfl
    | succ m =>
      rw [if_pos (by omega), show nt - 1 - (m + 1) + 1 = nt - 1 - m by omega]
      exact hT m k (by omega) hk
  have hN : wWI V nt (nt - 1 - m) k (-9) = nI (mwv nn ws ng nt m k) := by
    unfold wWI
    rw [if_pos rfl]
    exact nx k hk
  have hG : ∀ g, g < ng → wWI V nt (nt - 1 - m) k (nI g) = nI (1000 - nn (nt - 1 - m) g + mwv nn ws ng nt m (k ||| 2 ^ g)) := by
    intro g hg
    have z := hn (nt - 1 - m) g (by omega) hg
    unfold wWI
    rw [if_neg (m9_nI (by omega)), nI_clamp (by omega), nx _ (or_lt2 hk hg), z.1, show (1000 : Int32) = nI 1000 from rfl, pk_sub (by omega), nI_add]
  have bd : ∀ k, mwv nn ws ng nt m k ≤ 5000 := fun k => Nat.le_trans (mwv_b m k) (by omega)
  have c := fbI_ch (V := V) (tn := nt) (gn := ng) (t := nt - 1 - m) (k9 := k) (w := ws (nt - 1 - m)) (vn := mwv nn ws ng nt m k) (val := fun g => 1000 - nn (nt - 1 - m) g + mwv nn ws ng nt m (k ||| 2 ^ g)) (fun g hg _ => ⟨hG g hg, by have := bd (k ||| 2 ^ g); omega⟩) hN (by have := bd k; omega)
  refine ⟨c, ?_⟩
  rcases mCh_v c with ⟨a, b⟩ | ⟨g0, a, b, d⟩
  · rw [a, b]; exact hN
  · rw [b, d]; exact hG g0 a
theorem ouL_T {V : Vt} {nn : Nat → Nat → Nat} {ws : Nat → Nat} {ng nt : Nat} (g4 : ng ≤ 4) (t5 : nt ≤ 5) (hn : ∀ t g, t < nt → g < ng → V 49 (t * 4 + g) = nI (nn t g) ∧ nn t g ≤ 20) : ∀ m, m ≤ nt → ∀ j k, j < m → k < 2 ^ ng → ouL V nt ng ws m 53 ((nt - 1 - j) * 16 + k) = nI (mwv nn ws ng nt (j + 1) k)
  | 0, _, _, _, h, _ => absurd h (by omega)
  | m + 1, hm, j, k, hj, hk => by
    have ih := ouL_T (ws := ws) g4 t5 hn m (by omega)
    have p := p16 g4
    obtain ⟨a, b⟩ := inL_v (V := ouL V nt ng ws m) (tn := nt) (t := nt - 1 - m) (w := ws (nt - 1 - m)) g4 (2 ^ ng) p.1
    rw [ouL]
    by_cases e : j = m
    · subst e
      rw [b k hk]
      exact (mrow_ch g4 (by omega) t5 (fun t g ht hg => by rw [ouL_o (by decide)]; exact hn t g ht hg) ih hk).2
    · rw [a _ (by omega)]
      exact ih j k (by omega) hk
