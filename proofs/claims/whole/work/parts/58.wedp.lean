/-! WEDDINGS: n t g is how near thrower t comes to girl g -/
def wpT (n : Nat → Nat → Int32) (t g q : Nat) : Prop := n t g < n t q ∨ (n t g = n t q ∧ g < q)
def wpG (n : Nat → Nat → Int32) (g t u : Nat) : Prop := n t g < n u g ∨ (n t g = n u g ∧ t < u)
/-- all girls whom t would rather than g have refused him -/
def wRc (n : Nat → Nat → Int32) (ng : Nat) (R : Nat → Nat → Prop) (t g : Nat) : Prop := ∀ q, q < ng → wpT n t q g → R t q
/-- refusals that ask for no more -/
def wCl (n : Nat → Nat → Int32) (nt ng : Nat) (S : Nat → Nat → Prop) : Prop := ∀ t u g, t < nt → u < nt → g < ng → wRc n ng S t g → wRc n ng S u g → wpG n g u t → S t g
def wIn (n : Nat → Nat → Int32) (nt ng : Nat) (mu : Nat → Int32) (R : Nat → Nat → Prop) : Prop :=
  (∀ t, t < nt → mu t = -9 ∨ ∃ g, g < ng ∧ mu t = nI g) ∧
  (∀ t g, t < nt → g < ng → mu t = nI g → ¬ R t g ∧ wRc n ng R t g) ∧
  (∀ t g, t < nt → g < ng → R t g → ∃ u, u < nt ∧ mu u = nI g ∧ wpG n g u t) ∧
  (∀ S, wCl n nt ng S → ∀ t g, t < nt → g < ng → R t g → S t g) ∧
  (∀ t u g, t < nt → u < nt → g < ng → mu t = nI g → mu u = nI g → t = u)
def wFi (nt ng : Nat) (mu : Nat → Int32) (R : Nat → Nat → Prop) : Prop := ∀ t, t < nt → mu t = -9 → ∀ g, g < ng → R t g
/-- x is what thrower j has at the wedding's end -/
def wRes (n : Nat → Nat → Int32) (nt ng j : Nat) (x : Int32) : Prop := ∃ (mu : Nat → Int32) (R : Nat → Nat → Prop), wIn n nt ng mu R ∧ wFi nt ng mu R ∧ x = mu j
theorem wpT_ir {n : Nat → Nat → Int32} {t g : Nat} (h : wpT n t g g) : False := by
  rcases h with h | h
  · exact absurd h Int32.lt_irrefl
  · omega
theorem wpT_as {n : Nat → Nat → Int32} {t g q : Nat} (h : wpT n t g q) (h_2_ : wpT n t q g) : False := by
  rcases h with h | ⟨h, k⟩ <;> rcases h_2_ with h_2_ | ⟨h_2_, k2⟩
  · exact absurd (Int32.lt_trans h h_2_) Int32.lt_irrefl
  · rw [h_2_] at h; exact absurd h Int32.lt_irrefl
  · rw [h] at h_2_; exact absurd h_2_ Int32.lt_irrefl
  · omega
theorem wpT_to {n : Nat → Nat → Int32} {t g q : Nat} (h : g ≠ q) : wpT n t g q ∨ wpT n t q g := by
  by_cases a : n t g < n t q
  · exact Or.inl (Or.inl a)
  · by_cases b : n t q < n t g
    · exact Or.inr (Or.inl b)
    · have e : n t g = n t q := Int32.le_antisymm (Int32.not_lt.mp b) (Int32.not_lt.mp a)
      rcases Nat.lt_or_gt_of_ne h with k | k
      · exact Or.inl (Or.inr ⟨e, k⟩)
      · exact Or.inr (Or.inr ⟨e.symm, k⟩)
theorem wpG_ir {n : Nat → Nat → Int32} {t g : Nat} (h : wpG n g t t) : False := by
  rcases h with h | h
  · exact absurd h Int32.lt_irrefl
  · omega
theorem wpG_as {n : Nat → Nat → Int32} {t g u : Nat} (h : wpG n g t u) (h_2_ : wpG n g u t) : False := by
  rcases h with h | ⟨h, k⟩ <;> rcases h_2_ with h_2_ | ⟨h_2_, k2⟩
  · exact absurd (Int32.lt_trans h h_2_) Int32.lt_irrefl
  · rw [h_2_] at h; exact absurd h Int32.lt_irrefl
  · rw [h] at h_2_; exact absurd h_2_ Int32.lt_irrefl
  · omega
theorem wpG_to {n : Nat → Nat → Int32} {t g u : Nat} (h : t ≠ u) : wpG n g t u ∨ wpG n g u t := by
  by_cases a : n t g < n u g
  · exact Or.inl (Or.inl a)
  · by_cases b : n u g < n t g
    · exact Or.inr (Or.inl b)
    · have e : n t g = n u g := Int32.le_antisymm (Int32.not_lt.mp b) (Int32.not_lt.mp a)
      rcases Nat.lt_or_gt_of_ne h with k | k
      · exact Or.inl (Or.inr ⟨e, k⟩)
      · exact Or.inr (Or.inr ⟨e.symm, k⟩)
theorem wpG_tr {n : Nat → Nat → Int32} {t g u v : Nat} (h : wpG n g t u) (h_2_ : wpG n g u v) : wpG n g t v := by
  rcases h with h | ⟨h, k⟩ <;> rcases h_2_ with h_2_ | ⟨h_2_, k2⟩
  · exact Or.inl (Int32.lt_trans h h_2_)
  · exact Or.inl (h_2_ ▸ h)
  · exact Or.inl (h ▸ h_2_)
  · exact Or.inr ⟨h.trans h_2_, by omega⟩
/-- the refusals at the end ask for no more -/
theorem wIn_cl {n : Nat → Nat → Int32} {nt ng : Nat} {mu : Nat → Int32} {R : Nat → Nat → Prop} (h : wIn n nt ng mu R) (hf : wFi nt ng mu R) : wCl n nt ng R := by
  obtain ⟨i1, i2, i3, i4, i5⟩ := h
  have key : ∀ t g, t < nt → g < ng → wRc n ng R t g → ¬ R t g → mu t = nI g := by
    intro t g ht hg hr hn
    rcases i1 t ht with e | ⟨q, hq, e⟩
    · exact absurd (hf t ht e g hg) hn
    · obtain ⟨a, b⟩ := i2 t q ht hq e
      by_cases eq : q = g
      · rw [e, eq]
      · rcases wpT_to (n := n) (t := t) eq with k | k
        · exact absurd (hr q hq k) a
        · exact absurd (b g hg k) hn
  intro t u g ht hu hg rt ru p
  refine Classical.byContradiction fun hn => ?_
  have mt := key t g ht hg rt hn
  by_cases hu2 : R u g
  · obtain ⟨w, hw, mw, pw⟩ := i3 u g hu hg hu2
    have ew := i5 t w g ht hw hg mt mw
    subst ew
    exact wpG_as p pw
  · have mu2 := key u g hu hg ru hu2
    have ew := i5 t u g ht hu hg mt mu2
    subst ew
    exact wpG_ir p
theorem wpT_cg {n n_2_ : Nat → Nat → Int32} {nt ng t g q : Nat} (hn : ∀ t g, t < nt → g < ng → n t g = n_2_ t g) (ht : t < nt) (hg : g < ng) (hq : q < ng) : wpT n t g q ↔ wpT n_2_ t g q := by
  unfold wpT
  rw [hn t g ht hg, hn t q ht hq]
theorem wRc_cg {n n_2_ : Nat → Nat → Int32} {nt ng t g : Nat} {R : Nat → Nat → Prop} (hn : ∀ t g, t < nt → g < ng → n t g = n_2_ t g) (ht : t < nt) (hg : g < ng) (h : wRc n ng R t g) : wRc n_2_ ng R t g := fun q hq p => h q hq ((wpT_cg hn ht hq hg).mpr p)
theorem wCl_cg {n n_2_ : Nat → Nat → Int32} {nt ng : Nat} {R : Nat → Nat → Prop} (hn : ∀ t g, t < nt → g < ng → n t g = n_2_ t g) (h : wCl n nt ng R) : wCl n_2_ nt ng R := by
  have hn2 : ∀ t g, t < nt → g < ng → n_2_ t g = n t g := fun t g a b => (hn t g a b).symm
  intro t u g ht hu hg a b p
  refine h t u g ht hu hg (wRc_cg hn2 ht hg a) (wRc_cg hn2 hu hg b) ?_
  unfold wpG at p ⊢
  rw [hn t g ht hg, hn u g hu hg]
  exact p
theorem wRes_one {n n_2_ : Nat → Nat → Int32} {nt ng j : Nat} {x y : Int32} (hn : ∀ t g, t < nt → g < ng → n t g = n_2_ t g) (hj : j < nt) (h : wRes n nt ng j x) (h_2_ : wRes n_2_ nt ng j y) : x = y := by
  obtain ⟨mu, R, hI, hF, rfl⟩ := h
  obtain ⟨mu2, R2, hI2, hF2, rfl⟩ := h_2_
  have hn2 : ∀ t g, t < nt → g < ng → n_2_ t g = n t g := fun t g a b => (hn t g a b).symm
  have s_1_ : ∀ t g, t < nt → g < ng → R t g → R2 t g := hI.2.2.2.1 R2 (wCl_cg hn2 (wIn_cl hI2 hF2))
  have s_2_ : ∀ t g, t < nt → g < ng → R2 t g → R t g := hI2.2.2.2.1 R (wCl_cg hn (wIn_cl hI hF))
  rcases hI.1 j hj with e | ⟨g, hg, e⟩
  · rcases hI2.1 j hj with e2 | ⟨g2, hg2, e2⟩
    · rw [e, e2]
    · exact absurd (s_1_ j g2 hj hg2 (hF j hj e g2 hg2)) (hI2.2.1 j g2 hj hg2 e2).1
  · rcases hI2.1 j hj with e2 | ⟨g2, hg2, e2⟩
    · exact absurd (s_2_ j g hj hg (hF2 j hj e2 g hg)) (hI.2.1 j g hj hg e).1
    · obtain ⟨a, b⟩ := hI.2.1 j g hj hg e
      obtain ⟨a2, b2⟩ := hI2.2.1 j g2 hj hg2 e2
      by_cases eq : g = g2
      · rw [e, e2, eq]
      · rcases wpT_to (n := n) (t := j) eq with k | k
        · exact absurd (s_2_ j g hj hg (b2 g hg ((wpT_cg hn hj hg hg2).mp k))) a
        · exact absurd (s_1_ j g2 hj hg2 (b g2 hg2 k)) a2
theorem wRc_mono {n : Nat → Nat → Int32} {ng t g : Nat} {R S : Nat → Nat → Prop} (h : wRc n ng R t g) (hs : ∀ q, q < ng → R t q → S t q) : wRc n ng S t g := fun q hq p => hs q hq (h q hq p)
/-- the beginning -/
theorem wIn_0 {n : Nat → Nat → Int32} {nt ng : Nat} {mu : Nat → Int32} {R : Nat → Nat → Prop} (hm : ∀ t, t < nt → mu t = -9) (hR : ∀ t g, t < nt → g < ng → ¬ R t g) (g4 : ng ≤ 4) : wIn n nt ng mu R :=
  ⟨fun t ht => Or.inl (hm t ht), fun t g ht hg e => absurd (e.symm.trans (hm t ht)) (m9_nI (by omega)), fun t g ht hg h => absurd h (hR t g ht hg), fun S _ t g ht hg h => absurd h (hR t g ht hg), fun t u g ht hu hg e _ => absurd (e.symm.trans (hm t ht)) (m9_nI (by omega))⟩
/-- a girl whom nobody has is asked -/
theorem wIn_a {n : Nat → Nat → Int32} {nt ng t g : Nat} {mu mu2 : Nat → Int32} {R R2 : Nat → Nat → Prop} (h : wIn n nt ng mu R) (ht : t < nt) (hg : g < ng) (g4 : ng ≤ 4) (m9 : mu t = -9) (nR : ¬ R t g) (rc : wRc n ng R t g) (no : ∀ q, q < nt → ¬ mu q = nI g) (hm : ∀ q, q < nt → mu2 q = if q = t then nI g else mu q) (hR : ∀ a b, a < nt → b < ng → (R2 a b ↔ R a b)) : wIn n nt ng mu2 R2 := by
  obtain ⟨i1, i2, i3, i4, i5⟩ := h
  have e1 : mu2 t = nI g := by rw [hm t ht, if_pos rfl]
  have e2 : ∀ q, q < nt → q ≠ t → mu2 q = mu q := fun q a b => by rw [hm q a, if_neg b]
  refine ⟨fun q hq => ?_, fun q k hq hk e => ?_, fun q k hq hk r => ?_, fun S hS q k hq hk r => i4 S hS q k hq hk ((hR q k hq hk).mp r), fun q u k hq hu hk eq eu => ?_⟩
  · by_cases c : q = t
    · rw [c, e1]; exact Or.inr ⟨g, hg, rfl⟩
    · rw [e2 q hq c]; exact i1 q hq
  · by_cases c : q = t
    · subst c
      have ek : k = g := nI_inj (by omega) (by omega) (e.symm.trans e1)
      subst ek
      exact ⟨fun r => nR ((hR q k hq hk).mp r), wRc_mono rc (fun z hz r => (hR q z hq hz).mpr r)⟩
    · rw [e2 q hq c] at e
      obtain ⟨a, b⟩ := i2 q k hq hk e
      exact ⟨fun r => a ((hR q k hq hk).mp r), wRc_mono b (fun z hz r => (hR q z hq hz).mpr r)⟩
  · obtain ⟨u, hu, eu, pu⟩ := i3 q k hq hk ((hR q k hq hk).mp r)
    have c : u ≠ t := fun c => by rw [c, m9] at eu; exact m9_nI (by omega) eu.symm
    exact ⟨u, hu, by rw [e2 u hu c]; exact eu, pu⟩
  · by_cases c : q = t
    · subst c
      have ek : k = g := nI_inj (by omega) (by omega) (eq.symm.trans e1)
      by_cases d : u = q
      · exact d.symm
      · rw [e2 u hu d, ek] at eu
        exact absurd eu (no u hu)
    · by_cases d : u = t
      · subst d
        have ek : k = g := nI_inj (by omega) (by omega) (eu.symm.trans e1)
        rw [e2 q hq c, ek] at eq
        exact absurd eq (no q hq)
      · rw [e2 q hq c] at eq
        rw [e2 u hu d] at eu
        exact i5 q u k hq hu hk eq eu
/-- she leaves rv for t -/
theorem wIn_b {n : Nat → Nat → Int32} {nt ng t g rv : Nat} {mu mu2 : Nat → Int32} {R R2 : Nat → Nat → Prop} (h : wIn n nt ng mu R) (ht : t < nt) (hg : g < ng) (g4 : ng ≤ 4) (m9 : mu t = -9) (nR : ¬ R t g) (rc : wRc n ng R t g) (hrv : rv < nt) (erv : mu rv = nI g) (p : wpG n g t rv) (hm : ∀ q, q < nt → mu2 q = if q = t then nI g else if q = rv then -9 else mu q) (hR : ∀ a b, a < nt → b < ng → (R2 a b ↔ (R a b ∨ (a = rv ∧ b = g)))) : wIn n nt ng mu2 R2 := by
  obtain ⟨i1, i2, i3, i4, i5⟩ := h
  have ne : rv ≠ t := fun c => by rw [c, m9] at erv; exact m9_nI (by omega) erv.symm
  have e1 : mu2 t = nI g := by rw [hm t ht, if_pos rfl]
  have e0 : mu2 rv = -9 := by rw [hm rv hrv, if_neg ne, if_pos rfl]
  have e2 : ∀ q, q < nt → q ≠ t → q ≠ rv → mu2 q = mu q := fun q a b c => by rw [hm q a, if_neg b, if_neg c]
  have up : ∀ q z, q < nt → z < ng → R q z → R2 q z := fun q z a b r => (hR q z a b).mpr (Or.inl r)
  refine ⟨fun q hq => ?_, fun q k hq hk e => ?_, fun q k hq hk r => ?_, fun S hS q k hq hk r => ?_, fun q u k hq hu hk eq eu => ?_⟩
  · by_cases c : q = t
    · rw [c, e1]; exact Or.inr ⟨g, hg, rfl⟩
    · by_cases d : q = rv
      · rw [d, e0]; exact Or.inl rfl
      · rw [e2 q hq c d]; exact i1 q hq
  · by_cases c : q = t
    · subst c
      have ek : k = g := nI_inj (by omega) (by omega) (e.symm.trans e1)
      subst ek
      exact ⟨fun r => ((hR q k hq hk).mp r).elim nR (fun z => ne z.1.symm), wRc_mono rc (fun z hz r => up q z hq hz r)⟩
    · by_cases d : q = rv
      · rw [d, e0] at e; exact absurd e.symm (m9_nI (by omega))
      · rw [e2 q hq c d] at e
        obtain ⟨a, b⟩ := i2 q k hq hk e
        exact ⟨fun r => ((hR q k hq hk).mp r).elim a (fun z => d z.1), wRc_mono b (fun z hz r => up q z hq hz r)⟩
  · rcases (hR q k hq hk).mp r with r | ⟨rfl, rfl⟩
    · obtain ⟨u, hu, eu, pu⟩ := i3 q k hq hk r
      by_cases d : u = rv
      · subst d
        have ek : k = g := nI_inj (by omega) (by omega) (eu.symm.trans erv)
        subst ek
        exact ⟨t, ht, e1, wpG_tr p pu⟩
      · have c : u ≠ t := fun c => by rw [c, m9] at eu; exact m9_nI (by omega) eu.symm
        exact ⟨u, hu, by rw [e2 u hu c d]; exact eu, pu⟩
    · exact ⟨t, ht, e1, p⟩
  · rcases (hR q k hq hk).mp r with r | ⟨rfl, rfl⟩
    · exact i4 S hS q k hq hk r
    · exact hS q t k hq ht hk (wRc_mono (i2 q k hq hk erv).2 (fun z hz r => i4 S hS q z hq hz r)) (wRc_mono rc (fun z hz r => i4 S hS t z ht hz r)) p
  · have nn : ∀ w, w < nt → mu2 w = nI k → w ≠ rv := fun w _ ew d => by rw [d, e0] at ew; exact m9_nI (by omega) ew.symm
    have d1 := nn q hq eq
    have d2 := nn u hu eu
    by_cases c : q = t
    · subst c
      have ek : k = g := nI_inj (by omega) (by omega) (eq.symm.trans e1)
      by_cases d : u = q
      · exact d.symm
      · rw [e2 u hu d d2, ek] at eu
        exact absurd (i5 u rv g hu hrv hg eu erv) d2
    · by_cases d : u = t
      · subst d
        have ek : k = g := nI_inj (by omega) (by omega) (eu.symm.trans e1)
        rw [e2 q hq c d1, ek] at eq
        exact absurd (i5 q rv g hq hrv hg eq erv) d1
      · rw [e2 q hq c d1] at eq
        rw [e2 u hu d d2] at eu
        exact i5 q u k hq hu hk eq eu
/-- she refuses t -/
theorem wIn_c {n : Nat → Nat → Int32} {nt ng t g rv : Nat} {mu mu2 : Nat → Int32} {R R2 : Nat → Nat → Prop} (h : wIn n nt ng mu R) (ht : t < nt) (hg : g < ng) (g4 : ng ≤ 4) (m9 : mu t = -9) (rc : wRc n ng R t g) (hrv : rv < nt) (erv : mu rv = nI g) (p : ¬ wpG n g t rv) (hm : ∀ q, q < nt → mu2 q = mu q) (hR : ∀ a b, a < nt → b < ng → (R2 a b ↔ (R a b ∨ (a = t ∧ b = g)))) : wIn n nt ng mu2 R2 := by
  obtain ⟨i1, i2, i3, i4, i5⟩ := h
  have ne : t ≠ rv := fun c => by rw [← c, m9] at erv; exact m9_nI (by omega) erv.symm
  have p2 := (wpG_to (n := n) (g := g) ne).resolve_left p
  have up : ∀ q z, q < nt → z < ng → R q z → R2 q z := fun q z a b r => (hR q z a b).mpr (Or.inl r)
  refine ⟨fun q hq => by rw [hm q hq]; exact i1 q hq, fun q k hq hk e => ?_, fun q k hq hk r => ?_, fun S hS q k hq hk r => ?_, fun q u k hq hu hk eq eu => ?_⟩
  · rw [hm q hq] at e
    obtain ⟨a, b⟩ := i2 q k hq hk e
    exact ⟨fun r => ((hR q k hq hk).mp r).elim a (fun z => by rw [z.1, m9] at e; exact m9_nI (by omega) e.symm), wRc_mono b (fun z hz r => up q z hq hz r)⟩
  · rcases (hR q k hq hk).mp r with r | ⟨rfl, rfl⟩
    · obtain ⟨u, hu, eu, pu⟩ := i3 q k hq hk r
      exact ⟨u, hu, by rw [hm u hu]; exact eu, pu⟩
    · exact ⟨rv, hrv, by rw [hm rv hrv]; exact erv, p2⟩
  · rcases (hR q k hq hk).mp r with r | ⟨rfl, rfl⟩
    · exact i4 S hS q k hq hk r
    · exact hS q rv k hq hrv hk (wRc_mono rc (fun z hz r => i4 S hS q z hq hz r)) (wRc_mono (i2 rv k hrv hk erv).2 (fun z hz r => i4 S hS rv z hrv hz r)) p2
  · rw [hm q hq] at eq
    rw [hm u hu] at eu
    exact i5 q u k hq hu hk eq eu
/-- whom one would rather of those that aren't in rf, the first g -/
def deG (f : Nat → Int32) (rf : Nat) : Nat → Int32
  | 0 => -9
  | g + 1 => if rf.testBit g = false ∧ (deG f rf g = -9 ∨ f g < f (deG f rf g).toNatClampNeg) then nI g else deG f rf g
theorem deI_G (V : Vt) (t rf : Nat) : ∀ g, deI V t rf g = deG (fun q => V 49 (t * 4 + q)) rf g
  | 0 => rfl
  | g + 1 => by rw [deI, deG, deI_G V t rf g]
theorem deG_cg {f f2 : Nat → Int32} {rf : Nat} : ∀ g, g < 100 → (∀ q, q < g → f q = f2 q) → deG f rf g = deG f2 rf g ∧ (deG f2 rf g = -9 ∨ ∃ q, q < g ∧ deG f2 rf g = nI q)
  | 0, _, _ => ⟨rfl, Or.inl rfl⟩
  | g + 1, hg, h => by
    obtain ⟨a, b⟩ := deG_cg g (by omega) (fun q hq => h q (by omega))
    rw [deG, deG, a, h g (by omega)]
    have e : f (deG f2 rf g).toNatClampNeg = f2 (deG f2 rf g).toNatClampNeg ∨ deG f2 rf g = -9 := by
      rcases b with b | ⟨q, hq, b⟩
      · exact Or.inr b
      · rw [b, nI_clamp (by omega)]; exact Or.inl (h q (by omega))
    have e3 : (deG f2 rf g = -9 ∨ f2 g < f (deG f2 rf g).toNatClampNeg) ↔ (deG f2 rf g = -9 ∨ f2 g < f2 (deG f2 rf g).toNatClampNeg) := by
      rcases e with e | e
      · rw [e]
      · exact ⟨fun _ => Or.inl e, fun _ => Or.inl e⟩
    simp only [e3]
    refine ⟨trivial, ?_⟩
    split
    · exact Or.inr ⟨g, by omega, rfl⟩
    · rcases b with b | ⟨q, hq, b⟩
      · exact Or.inl b
      · exact Or.inr ⟨q, by omega, b⟩
theorem deG_sp {n : Nat → Nat → Int32} {t rf : Nat} : ∀ k, k < 100 → (deG (n t) rf k = -9 ∧ ∀ q, q < k → rf.testBit q = true) ∨ ∃ g, g < k ∧ deG (n t) rf k = nI g ∧ rf.testBit g = false ∧ ∀ q, q < k → rf.testBit q = false → q = g ∨ wpT n t g q
  | 0, _ => Or.inl ⟨rfl, fun q h => absurd h (by omega)⟩
  | k + 1, hk => by
    rw [deG]
    rcases deG_sp (n := n) (t := t) (rf := rf) k (by omega) with ⟨a, b⟩ | ⟨g, hg, a, b, c⟩
    · by_cases r : rf.testBit k = false
      · rw [if_pos ⟨r, Or.inl a⟩]
        refine Or.inr ⟨k, by omega, rfl, r, fun q hq z => ?_⟩
        by_cases e : q = k
        · exact Or.inl e
        · rw [b q (by omega)] at z; cases z
      · rw [if_neg (fun z => r z.1)]
        refine Or.inl ⟨a, fun q hq => ?_⟩
        by_cases e : q = k
        · rw [e]; exact Bool.not_eq_false _ ▸ r
        · exact b q (by omega)
    · by_cases r : rf.testBit k = false ∧ (deG (n t) rf k = -9 ∨ n t k < n t (deG (n t) rf k).toNatClampNeg)
      · rw [if_pos r]
        obtain ⟨r1, r2⟩ := r
        rw [a, nI_clamp (by omega)] at r2
        have r2 := r2.resolve_left (m9_nI (by omega))
        refine Or.inr ⟨k, by omega, rfl, r1, fun q hq z => ?_⟩
        by_cases e : q = k
        · exact Or.inl e
        · refine Or.inr (Or.inl ?_)
          rcases c q (by omega) z with c | c | c
          · rw [c]; exact r2
          · exact Int32.lt_trans r2 c
          · rw [← c.1]; exact r2
      · rw [if_neg r]
        refine Or.inr ⟨g, by omega, a, b, fun q hq z => ?_⟩
        by_cases e : q = k
        · subst e
          have r2 : ¬ n t q < n t g := fun w => r ⟨z, Or.inr (by rw [a, nI_clamp (by omega)]; exact w)⟩
          by_cases w : n t g = n t q
          · exact Or.inr (Or.inr ⟨w, hg⟩)
          · exact Or.inr (Or.inl (by
              rcases Int32.lt_or_le (n t g) (n t q) with v | v
              · exact v
              · exact absurd (Int32.le_antisymm (Int32.not_lt.mp r2) v) w))
        · exact c q (by omega) z
/-- the girl whom he asks -/
theorem deG_ask {n : Nat → Nat → Int32} {t rf ng g : Nat} (h_4_ : ng ≤ 4) (hg : g < ng) (e : deG (n t) rf ng = nI g) : rf.testBit g = false ∧ ∀ q, q < ng → wpT n t q g → rf.testBit q = true := by
  rcases deG_sp (n := n) (t := t) (rf := rf) ng (by omega) with ⟨a, b⟩ | ⟨k, hk, a, b, c⟩
  · rw [a] at e; exact absurd e.symm (m9_nI (by omega))
  · have ek : k = g := nI_inj (by omega) (by omega) (a.symm.trans e)
    subst ek
    refine ⟨b, fun q hq p => ?_⟩
    cases z : rf.testBit q with
    | true => rfl
    | false =>
      rcases c q hq z with e2 | e2
      · subst e2; exact (wpT_ir p).elim
      · exact (wpT_as p e2).elim
theorem deG_none {n : Nat → Nat → Int32} {t rf ng : Nat} (h_4_ : ng ≤ 4) (e : deG (n t) rf ng = -9) : ∀ q, q < ng → rf.testBit q = true := by
  rcases deG_sp (n := n) (t := t) (rf := rf) ng (by omega) with ⟨a, b⟩ | ⟨k, hk, a, b, c⟩
  · exact b
  · rw [a] at e; exact absurd e (m9_nI (by omega))
theorem tb_or {r g q : Nat} : (r ||| 2 ^ g).testBit q = true ↔ (r.testBit q = true ∨ q = g) := by
  rw [Nat.testBit_or, Nat.testBit_two_pow, Bool.or_eq_true, decide_eq_true_eq]
  exact ⟨fun h => h.imp id Eq.symm, fun h => h.imp id Eq.symm⟩
theorem cnt_or {r g : Nat} (hb : r.testBit g = false) : ∀ n, cntI (fun q => (r ||| 2 ^ g).testBit q = true) n = cntI (fun q => r.testBit q = true) n + (if g < n then 1 else 0)
  | 0 => rfl
  | n + 1 => by
    rw [cntI, cntI, cnt_or hb n]
    by_cases e : n = g
    · subst e
      rw [if_pos (tb_or.mpr (Or.inr rfl)), if_neg (Nat.lt_irrefl n), if_neg (show ¬ r.testBit n = true by rw [hb]; decide), if_pos (Nat.lt_succ_self n)]
    · have e2 : ((r ||| 2 ^ g).testBit n = true) ↔ (r.testBit n = true) := tb_or.trans ⟨fun h => h.resolve_right e, Or.inl⟩
      simp only [e2]
      have e3 : (g < n + 1) ↔ (g < n) := by omega
      simp only [e3]
      omega
theorem cnt_miss {P : Nat → Prop} [DecidablePred P] {g : Nat} (hb : ¬ P g) : ∀ n, g < n → cntI P n + 1 ≤ n
  | 0, h => absurd h (by omega)
  | n + 1, h => by
    rw [cntI]
    by_cases e : g = n
    · subst e
      rw [if_neg hb]
      have := cntI_le P g
      omega
    · have := cnt_miss hb n (by omega)
      split <;> omega
theorem sumN_up {f f2 : Nat → Nat} {t : Nat} (h_1_ : f2 t = f t + 1) : ∀ n, (∀ q, q < n → q ≠ t → f2 q = f q) → sumN f2 n = sumN f n + (if t < n then 1 else 0)
  | 0, _ => rfl
  | n + 1, h => by
    rw [sumN, sumN, sumN_up h_1_ n (fun q hq => h q (by omega))]
    by_cases e : n = t
    · subst e
      rw [h_1_, if_neg (Nat.lt_irrefl n), if_pos (Nat.lt_succ_self n)]
      omega
    · rw [h n (by omega) e]
      have e3 : (t < n + 1) ↔ (t < n) := by omega
      simp only [e3]
      omega
theorem sumN_bd {f : Nat → Nat} {b : Nat} : ∀ n, (∀ q, q < n → f q ≤ b) → sumN f n ≤ n * b
  | 0, _ => by simp [sumN]
  | n + 1, h => by
    rw [sumN, Nat.succ_mul]
    have a := sumN_bd n (fun q hq => h q (by omega))
    have c := h n (by omega)
    omega
