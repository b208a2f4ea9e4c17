theorem auN_cg {a : Au} {c d : Nat → Int32} : ∀ n, (∀ j, j < n → c j = d j) → auN a c n = auN a d n
  | 0, _ => rfl
  | n + 1, h => by rw [auN, auN, auN_cg n (fun j hj => h j (by omega)), h n (by omega)]
theorem auN_none {a : Au} {c : Nat → Int32} {p : Nat} (h : auN a c p = none) : ∀ m, p ≤ m → auN a c m = none
  | 0, hm => by rw [show p = 0 by omega] at h; exact h
  | m + 1, hm => by
    by_cases e : p = m + 1
    · rw [← e]; exact h
    · rw [auN, auN_none h m (by omega)]; rfl
/-- a text that isn't a dale: where it goes wrong -/
def auF (a : Au) (c : Nat → Int32) (n p : Nat) : Prop := ∃ b, p ≤ n ∧ auN a c p = some b ∧ (p = n → ¬ b.1 = 7) ∧ (p < n → auS b (c p) = none)
theorem auF_dead {a : Au} {c : Nat → Int32} {n p : Nat} (h : auF a c n p) (hp : p < n) : ∀ m, p < m → auN a c m = none := by
  obtain ⟨b, -, h_2_, -, h_4_⟩ := h
  exact fun m hm => auN_none (p := p + 1) (by rw [auN_s h_2_]; exact h_4_ hp) m hm
theorem auF_one {a : Au} {c : Nat → Int32} {n p q : Nat} (h : auF a c n p) (k : auF a c n q) : p = q := by
  rcases Nat.lt_trichotomy p q with w | w | w
  · obtain ⟨b, b1, b2, -⟩ := id k
    have := auF_dead h (by omega) q w
    rw [b2] at this; cases this
  · exact w
  · obtain ⟨b, b1, b2, -⟩ := id h
    have := auF_dead k (by omega) p w
    rw [b2] at this; cases this
theorem auF_not {a b : Au} {c : Nat → Int32} {n p : Nat} (h : auF a c n p) (k : auN a c n = some b) (k7 : b.1 = 7) : False := by
  obtain ⟨b2, h_1_, h_2_, h_3_, h_4_⟩ := id h
  by_cases e : p = n
  · rw [e] at h_2_
    rw [h_2_] at k
    cases k
    exact h_3_ e k7
  · have := auF_dead h (by omega) n (by omega)
    rw [k] at this; cases this
/-- what a text read so far holds -/
def auG (a : Au) : Prop := (2 ≤ a.1 → 0 ≤ a.2.1 ∧ a.2.1 ≤ 3) ∧ (∀ i, i < a.2.2.1 → (1 ≤ a.2.2.2.2.1 i ∧ a.2.2.2.2.1 i ≤ 9) ∧ 0 ≤ a.2.2.2.2.2.1 i ∧ a.2.2.2.2.2.1 i ≤ 9) ∧ (a.1 = 4 → 1 ≤ a.2.2.2.2.1 a.2.2.1 ∧ a.2.2.2.2.1 a.2.2.1 ≤ 9) ∧ (∀ i, i < a.2.2.2.1 → (0 ≤ a.2.2.2.2.2.2.1 i ∧ a.2.2.2.2.2.2.1 i ≤ 2) ∧ 1 ≤ a.2.2.2.2.2.2.2 i ∧ a.2.2.2.2.2.2.2 i ≤ 9) ∧ (a.1 = 6 → 0 ≤ a.2.2.2.2.2.2.1 a.2.2.2.1 ∧ a.2.2.2.2.2.2.1 a.2.2.2.1 ≤ 2) ∧ (5 ≤ a.1 → 0 < a.2.2.1) ∧ (a.1 = 7 → 0 < a.2.2.2.1)
theorem upd_lt {f : Nat → Int32} {k i : Nat} {x : Int32} (h : i < k) : upd f k x i = f i := pk_un (by omega)
theorem auG_s {a b : Au} {z : Int32} (h : auG a) (e : auS a z = some b) : auG b := by
  obtain ⟨aw, fr, g, t, ys, lz, ks, ar⟩ := a
  obtain ⟨h_1_, h_2_, h_3_, h_4_, h_5_, h_6_, h_7_⟩ := h
  dsimp only at h_1_ h_2_ h_3_ h_4_ h_5_ h_6_ h_7_
  unfold auS at e
  dsimp only at e
  split at e
  · split at e
    · cases e
      exact ⟨fun q => absurd q (show ¬ 2 ≤ 1 by decide), h_2_, fun q => absurd q (show ¬ (1 : Nat) = 4 by decide), h_4_, fun q => absurd q (show ¬ (1 : Nat) = 6 by decide), fun q => absurd q (show ¬ 5 ≤ 1 by decide), fun q => absurd q (show ¬ (1 : Nat) = 7 by decide)⟩
    · cases e
  · split at e
    · split at e
      · rename_i w
        cases e
        exact ⟨fun _ => w, h_2_, fun q => absurd q (show ¬ (2 : Nat) = 4 by decide), h_4_, fun q => absurd q (show ¬ (2 : Nat) = 6 by decide), fun q => absurd q (show ¬ 5 ≤ 2 by decide), fun q => absurd q (show ¬ (2 : Nat) = 7 by decide)⟩
      · cases e
    · split at e
      · rename_i a2
        split at e
        · split at e
          · cases e
            exact ⟨fun _ => h_1_ (by omega), h_2_, fun q => absurd q (show ¬ (3 : Nat) = 4 by decide), h_4_, fun q => absurd q (show ¬ (3 : Nat) = 6 by decide), fun q => absurd q (show ¬ 5 ≤ 3 by decide), fun q => absurd q (show ¬ (3 : Nat) = 7 by decide)⟩
          · cases e
        · split at e
          · rename_i w
            cases e
            exact ⟨fun _ => h_1_ (by omega), h_2_, fun q => absurd q (show ¬ (5 : Nat) = 4 by decide), h_4_, fun q => absurd q (show ¬ (5 : Nat) = 6 by decide), fun _ => w.2, fun q => absurd q (show ¬ (5 : Nat) = 7 by decide)⟩
          · cases e
      · split at e
        · rename_i a3
          split at e
          · rename_i w
            cases e
            refine ⟨fun _ => h_1_ (by omega), fun i hi => ?_, fun _ => ?_, h_4_, fun q => absurd q (show ¬ (4 : Nat) = 6 by decide), fun q => absurd q (show ¬ 5 ≤ 4 by decide), fun q => absurd q (show ¬ (4 : Nat) = 7 by decide)⟩
            · dsimp only at hi ⊢
              rw [upd_lt hi]; exact h_2_ i hi
            · dsimp only
              rw [pk_us]; exact w
          · cases e
        · split at e
          · rename_i a4
            split at e
            · rename_i w
              cases e
              refine ⟨fun _ => h_1_ (by omega), fun i hi => ?_, fun q => absurd q (show ¬ (2 : Nat) = 4 by decide), h_4_, fun q => absurd q (show ¬ (2 : Nat) = 6 by decide), fun q => absurd q (show ¬ 5 ≤ 2 by decide), fun q => absurd q (show ¬ (2 : Nat) = 7 by decide)⟩
              dsimp only at hi ⊢
              by_cases k : i = g
              · rw [k, pk_us]; exact ⟨h_3_ a4, w⟩
              · rw [pk_un k]; exact h_2_ i (by omega)
            · cases e
          · split at e
            · rename_i a5
              split at e
              · rename_i w
                cases e
                refine ⟨fun _ => h_1_ (by omega), h_2_, fun q => absurd q (show ¬ (6 : Nat) = 4 by decide), fun i hi => ?_, fun _ => ?_, fun _ => h_6_ (by omega), fun q => absurd q (show ¬ (6 : Nat) = 7 by decide)⟩
                · dsimp only at hi ⊢
                  rw [upd_lt hi]; exact h_4_ i hi
                · dsimp only
                  rw [pk_us]; exact w
              · cases e
            · split at e
              · rename_i a6
                split at e
                · rename_i w
                  cases e
                  refine ⟨fun _ => h_1_ (by omega), h_2_, fun q => absurd q (show ¬ (7 : Nat) = 4 by decide), fun i hi => ?_, fun q => absurd q (show ¬ (7 : Nat) = 6 by decide), fun _ => h_6_ (by omega), fun _ => Nat.succ_pos t⟩
                  dsimp only at hi ⊢
                  by_cases k : i = t
                  · rw [k, pk_us]; exact ⟨h_5_ a6, w⟩
                  · rw [pk_un k]; exact h_4_ i (by omega)
                · cases e
              · split at e
                · cases e
                  exact ⟨fun _ => h_1_ (by omega), h_2_, fun q => absurd q (show ¬ (5 : Nat) = 4 by decide), h_4_, fun q => absurd q (show ¬ (5 : Nat) = 6 by decide), fun _ => h_6_ (by omega), fun q => absurd q (show ¬ (5 : Nat) = 7 by decide)⟩
                · cases e
theorem auG_N {a : Au} {c : Nat → Int32} (h : auG a) : ∀ n b, auN a c n = some b → auG b
  | 0, b, e => by cases e; exact h
  | n + 1, b, e => by
    cases k : auN a c n with
    | none => rw [auN, k] at e; cases e
    | some d => rw [auN_s k] at e; exact auG_s (auG_N h n d k) e
theorem auG_0 (fr : Int32) (ys lz ks ar : Nat → Int32) : auG (0, fr, 0, 0, ys, lz, ks, ar) := ⟨fun q => absurd q (show ¬ 2 ≤ 0 by decide), fun i hi => absurd hi (Nat.not_lt_zero i), fun q => absurd q (show ¬ (0 : Nat) = 4 by decide), fun i hi => absurd hi (Nat.not_lt_zero i), fun q => absurd q (show ¬ (0 : Nat) = 6 by decide), fun q => absurd q (show ¬ 5 ≤ 0 by decide), fun q => absurd q (show ¬ (0 : Nat) = 7 by decide)⟩
theorem stL_at {V : Vt} {tg i : Nat} : ∀ m, m ≤ 4 → i < m → stL V 0 tg m (0 + 2 + 3 * i) 0 = V 44 i ∧ stL V 0 tg m (0 + 2 + 3 * i) 1 = V 45 i ∧ stL V 0 tg m (0 + 2 + 3 * i) 2 = 0
  | 0, _, h => absurd h (by omega)
  | m + 1, hm, h => by
    rw [stL]
    by_cases e : i = m
    · rw [e]
      refine ⟨?_, ?_, ?_⟩
      · rw [up2_ne (by omega), up2_ne (by omega), up2_s]
      · rw [up2_ne (by omega), up2_s]
      · rw [up2_s]
    · have ih := stL_at (V := V) (tg := tg) m (by omega) (show i < m by omega)
      rw [up2_k _ _ (by omega), up2_k _ _ (by omega), up2_k _ _ (by omega)]
      exact ih
theorem stL_00 {V : Vt} {tg : Nat} : ∀ m, stL V 0 tg m 0 0 = V 43 1
  | 0 => by rw [stL, up2_ne (by omega), up2_s]
  | m + 1 => by rw [stL, up2_k _ _ (by omega), up2_k _ _ (by omega), up2_k _ _ (by omega), stL_00 m]
theorem kd_knd {z : Int32} (h : 0 ≤ z ∧ z ≤ 2) : kdI (knd z) = z ∧ isT (knd z) := by
  rcases z012 h with e | e | e <;> rw [e]
  · exact ⟨rfl, Or.inl rfl⟩
  · exact ⟨rfl, Or.inr (Or.inl rfl)⟩
  · exact ⟨rfl, Or.inr (Or.inr rfl)⟩
/-- a new dale stands -/
theorem U_dale {tk : Nat → Nat} {nt ng : Nat} {rr : Nat → Nat} {c_0_ : Nat} {W N U X M2 : Vt} {b : Au} (h : REL tk nt W N ng rr c_0_) (hO : auOk b) (h_7_ : b.1 = 7) (hG : auG b) (hf : frT W U) (hR : auR U b) (hd : frD N X) (hr : rmR X b) (ht : tdP X M2 b.2.2.1 b.2.2.2.1) : REL (fun t => knd (b.2.2.2.2.2.2.1 t)) b.2.2.2.1 (mkV (stL U 0 b.2.2.1 b.2.2.1) b.2.2.2.2.2.2.2 b.2.2.2.1) M2 b.2.2.1 (fun _ => 0) 0 := by
  obtain ⟨aw, fr, g, t, ys, lz, ks, ar⟩ := b
  obtain ⟨o1, g4, t5, -⟩ := hO
  obtain ⟨q1, q2, -, q4, -, q6, q7⟩ := hG
  obtain ⟨r1, r2, r3, r4, r5, r6, r7, r8⟩ := hR
  obtain ⟨x_1_, x_2_, x_3_, x_4_, x_5_⟩ := hr
  obtain ⟨⟨t1, t2, t3, t4, t6⟩, t7, t8⟩ := ht
  dsimp only at *
  subst h_7_
  have lo : ∀ k, k < 56 → mkV (stL U 0 g g) ar t k = up2 (up2 (stL U 0 g g) 55 8 (nI t)) 29 0 0 k := fun k hk => by unfold mkV; rw [if_pos hk]
  have li : ∀ k, k < t → mkV (stL U 0 g g) ar t (56 + k) = nwR ar k := fun k hk => by unfold mkV; rw [if_neg (by omega), if_pos (by omega), show 56 + k - 56 = k by omega]
  have lr : ∀ k, (14 ≤ k ∧ k < 43) ∨ (47 < k ∧ k < 55) → k ≠ 29 → mkV (stL U 0 g g) ar t k = W k := fun k hk h_29_ => by rw [lo k (by omega), up2_k _ _ h_29_, up2_k _ _ (by omega), stL_o (Or.inl rfl) (by omega) g g4]; exact hf k (by omega)
  have lg : ∀ k, k < 14 → mkV (stL U 0 g g) ar t k = stL U 0 g g k := fun k hk => by rw [lo k (by omega), up2_k _ _ (by omega), up2_k _ _ (by omega)]
  have mr : ∀ a, (1 ≤ a ∧ a ≤ 3) → M2 a = N a := fun a ha => funext fun j => by rw [t6 a j (by omega) (by omega)]; exact hd a j (by omega) (by omega) (by omega)
  have m0 : ∀ j, j ≤ 1 → M2 0 j = N 0 j := fun j hj => by rw [t6 0 j (by omega) (by omega)]; exact hd 0 j (by omega) (by omega) (by omega)
  refine ⟨⟨⟨?_, g4, fun j hj => ?_⟩, ?_, t5, fun k hk => ?_, ?_, by omega, fun r hr => absurd hr (by omega), fun k hk => ?_⟩, ⟨t4.trans x_1_, g4, t7, t5, fun q hq => ⟨(t1 q hq).2.2, Nat.zero_le 8⟩, t8, by omega, fun r hr => absurd hr (by omega), fun k hk => by rw [mr 2 (by omega)]; exact h.2.1.2.2.2.2.2.2.2.2 k hk⟩, fun q hq => ?_, fun q hq => ?_, fun r hr => absurd hr (by omega), cS_M (fun x p1 p2 => mr x ⟨p1, p2⟩) (cS_V (fun x p1 p2 => lr x (by omega) (by omega)) h.2.2.2.2.2.1), ⟨⟨?_, ?_⟩, ?_, ?_⟩, ⟨fun q => absurd (q7 rfl) (by omega), fun q => absurd (q6 (by decide)) (by omega)⟩⟩
  · rw [lg 0 (by omega)]; exact stL_c g
  · rw [lg _ (by omega)]; exact ⟨(stL_at g g4 hj).2.2, Nat.zero_le 8⟩
  · rw [lo 55 (by omega), up2_ne (by omega), up2_s]
  · rw [li k hk]; exact ⟨(kd_knd (q4 k hk).1).2, rfl⟩
  · rw [lo 29 (by omega), up2_s]; rfl
  · rw [lr _ (by omega) (by omega)]; exact h.1.2.2.2.2.2.2.2 k hk
  · rw [lg _ (by omega), (stL_at g g4 hq).1, (stL_at g g4 hq).2.1, r5, r6, (t1 q hq).1, (t1 q hq).2.1, (x_4_ q hq).1, (x_4_ q hq).2]
    exact ⟨⟨rfl, (q2 q hq).1⟩, ⟨rfl, (q2 q hq).2⟩, fun j hj => absurd hj (Nat.not_lt_zero j)⟩
  · rw [li q hq, (t2 q hq).1, (t2 q hq).2, (x_5_ q hq).1, (x_5_ q hq).2]
    exact ⟨(kd_knd (q4 q hq).1).1, rfl, (q4 q hq).2⟩
  · rw [lg 0 (by omega), stL_00, r2, t3, x_3_ (by decide)]
  · rw [t3, x_3_ (by decide)]; exact q1 (by decide)
  · rw [lr 42 (by omega) (by omega), m0 1 (by omega)]; exact h.2.2.2.2.2.2.1.2.1
  · rw [lo 55 (by omega), up2_ne (by omega), up2_ne (by omega), stL_o (Or.inl rfl) (by omega) g g4, hf 55 (by omega), m0 0 (by omega)]; exact h.2.2.2.2.2.2.1.2.2
theorem daag {s len z1 z2 z3 : Int32} (hs : 0 ≤ s ∧ s ≤ 2) : daF s z1 z3 (decide (0 ≤ z2 ∧ z2 ≤ len ∧ 0 ≤ z3 ∧ z3 ≤ len - z2)) = agI s len z1 z2 z3 := by
  have l := lane_no hs
  by_cases h_3_ : z3 < 0
  · unfold daF agI
    rw [if_neg l.1]
    by_cases q : s = z1
    · rw [if_pos q, if_pos h_3_, if_neg (show ¬ (¬ s = -9 ∧ ¬ s = z1) from fun w => w.2 q), if_neg l.2, if_pos h_3_]
    · rw [if_neg q, if_pos (show ¬ s = -9 ∧ ¬ s = z1 from ⟨l.2, q⟩)]
  · rw [← clag hs h_3_]
    unfold daF clF
    rw [if_neg h_3_]
theorem r_dale {tk : Nat → Nat} {nt : Nat} {V M : Vt} {ng : Nat} {rr : Nat → Nat} {c_0_ : Nat} {ad : Nat → Nat} (z0 z1 z2 z3 : Int32) {x y : Int32} {σ2 : Sh} {V2 M2 : Vt} (h : REL tk nt V M ng rr c_0_) (hx : if ¬ z0 < 0 ∧ z0 < nI 4 then (if 0 ≤ z1 ∧ z1 ≤ 2 then (if daF ((up2 V 55 9 0) (34 + 2 * z0.toNatClampNeg) 0) z1 z3 (decide (0 ≤ z2 ∧ z2 ≤ (up2 V 55 9 0) (34 + 2 * z0.toNatClampNeg) 1 ∧ 0 ≤ z3 ∧ z3 ≤ (up2 V 55 9 0) (34 + 2 * z0.toNatClampNeg) 1 - z2)) = 0 then (daY ad (up2 V 55 9 0) (fun j => (up2 V 55 9 0) ((34 + 2 * z0.toNatClampNeg) + 1) (z2.toNatClampNeg + j)) z3.toNatClampNeg x σ2 V2 ∨ (daN (up2 V 55 9 0) (fun j => (up2 V 55 9 0) ((34 + 2 * z0.toNatClampNeg) + 1) (z2.toNatClampNeg + j)) z3.toNatClampNeg x ∧ σ2 = xS ad tk nt ∧ frT (up2 V 55 9 0) V2)) else (x = -10 - daF ((up2 V 55 9 0) (34 + 2 * z0.toNatClampNeg) 0) z1 z3 (decide (0 ≤ z2 ∧ z2 ≤ (up2 V 55 9 0) (34 + 2 * z0.toNatClampNeg) 1 ∧ 0 ≤ z3 ∧ z3 ≤ (up2 V 55 9 0) (34 + 2 * z0.toNatClampNeg) 1 - z2)) ∧ σ2 = xS ad tk nt ∧ V2 = up2 (up2 V 55 9 0) 55 9 (daF ((up2 V 55 9 0) (34 + 2 * z0.toNatClampNeg) 0) z1 z3 (decide (0 ≤ z2 ∧ z2 ≤ (up2 V 55 9 0) (34 + 2 * z0.toNatClampNeg) 1 ∧ 0 ≤ z3 ∧ z3 ≤ (up2 V 55 9 0) (34 + 2 * z0.toNatClampNeg) 1 - z2))))) else (x = -2 ∧ σ2 = xS ad tk nt ∧ V2 = (up2 V 55 9 0))) else (x = -1 ∧ σ2 = xS ad tk nt ∧ V2 = (up2 V 55 9 0))) (hy : if ¬ z0 < 0 ∧ z0 < nI 4 then (if 0 ≤ z1 ∧ z1 ≤ 2 then (if agI ((up2 M 0 0 0) 1 z0.toNatClampNeg) ((up2 M 0 0 0) 2 z0.toNatClampNeg) z1 z2 z3 = 0 then dlM (up2 M 0 0 0) (fun j => (up2 M 0 0 0) 3 (60 * z0.toNatClampNeg + z2.toNatClampNeg + j)) z3.toNatClampNeg (au0 (up2 V 55 9 0)) y M2 else (y = -10 - agI ((up2 M 0 0 0) 1 z0.toNatClampNeg) ((up2 M 0 0 0) 2 z0.toNatClampNeg) z1 z2 z3 ∧ M2 = up2 (up2 M 0 0 0) 0 0 (agI ((up2 M 0 0 0) 1 z0.toNatClampNeg) ((up2 M 0 0 0) 2 z0.toNatClampNeg) z1 z2 z3))) else (y = -2 ∧ M2 = (up2 M 0 0 0))) else (y = -1 ∧ M2 = (up2 M 0 0 0))) : x = y ∧ ∃ (ad2 tk2 : Nat → Nat) (nt2 : Nat), (∀ j, j < 56 → ad2 j = ad j) ∧ σ2 = xS ad2 tk2 nt2 ∧ RLo tk2 nt2 V2 M2 := by
  have n_4_ := h.1.1.2.1
  have t5 := h.1.2.2.1
  have h_1_ := U_fault 0 h
  generalize up2 V 55 9 0 = W1 at h_1_ hx hy
  generalize up2 M 0 0 0 = N1 at h_1_ hy
  by_cases c : ¬ z0 < 0 ∧ z0 < nI 4
  · rw [if_pos c] at hx hy
    obtain ⟨k, hk, e, ec⟩ := inr c (by omega)
    rw [ec] at hx hy
    by_cases c_2_ : 0 ≤ z1 ∧ z1 ≤ 2
    · rw [if_pos c_2_] at hx hy
      rcases h_1_.2.2.2.2.2.1 k hk with w | ⟨w, n, hn, e1, e2, w5⟩
      · have q1 : daF (W1 (34 + 2 * k) 0) z1 z3 (decide (0 ≤ z2 ∧ z2 ≤ W1 (34 + 2 * k) 1 ∧ 0 ≤ z3 ∧ z3 ≤ W1 (34 + 2 * k) 1 - z2)) = 1 := by unfold daF; rw [if_pos w.1]
        rw [q1] at hx
        rw [ag_0 w.2] at hy
        rw [if_neg (by decide)] at hx hy
        exact ⟨hx.1.trans hy.1.symm, ad, tk, nt, fun _ _ => rfl, hx.2.1, ng, rr, c_0_, by rw [hx.2.2, hy.2]; exact U_fault 1 h_1_⟩
      · rw [w.1, e1, daag w.2] at hx
        rw [e2] at hy
        by_cases c_5_ : agI (N1 1 k) (nI n) z1 z2 z3 = 0
        · rw [if_pos c_5_] at hx hy
          obtain ⟨i8, k8, ei8, ek8, hi8⟩ := re60 rfl hn (agI_0 c_5_)
          have ez2 : z2.toNatClampNeg = i8 := by rw [ei8, nI_clamp (by omega)]
          have ez3 : z3.toNatClampNeg = k8 := by rw [ek8, nI_clamp (by omega)]
          rw [ez2, ez3] at hx hy
          have cc : ∀ j, j < k8 → (fun j => W1 (34 + 2 * k + 1) (i8 + j)) j = (fun j => N1 3 (60 * k + i8 + j)) j := fun j hj => by
            dsimp only
            rw [(w5 (i8 + j) (by omega)).1, Nat.add_assoc]
          have hFy : ∀ p b, p ≤ k8 → auN (au0 W1) (fun j => N1 3 (60 * k + i8 + j)) p = some b → (p = k8 → ¬ b.1 = 7) → (p < k8 → auS b (N1 3 (60 * k + i8 + p)) = none) → auF (au0 W1) (fun j => N1 3 (60 * k + i8 + j)) k8 p := fun p b a1 a2 a3 a4 => ⟨b, a1, a2, a3, a4⟩
          rcases hx with ⟨b, U, ad2, b1, b2, b3, b4, b5, b6, b7, b8, b9⟩ | ⟨hx, hs, hfr⟩
          · rw [auN_cg k8 cc] at b1
            rcases hy with ⟨d, X, d1, d2, d3, d4, d5, d6, d7, d8⟩ | ⟨p, d, d1, d2, d3, d4, d5, d6⟩
            · rw [d1] at b1
              cases b1
              refine ⟨b4.trans d3.symm, ad2, _, _, b7, b8, b.2.2.1, fun _ => 0, 0, ?_⟩
              rw [b9]
              exact U_dale h_1_ b3 b2 (auG_N (auG_0 _ _ _ _ _) k8 _ d1) b5 b6 d4 d5 d8
            · exact (auF_not (hFy p d d1 d2 d3 d4) b1 b2).elim
          · obtain ⟨p, hF, ep⟩ : ∃ p, auF (au0 W1) (fun j => N1 3 (60 * k + i8 + j)) k8 p ∧ x = -100 - nI p := by
              rcases hx with ⟨b, b1, b2, b3⟩ | ⟨p, b, b0, b1, b2, b3⟩
              · rw [auN_cg k8 cc] at b1
                exact ⟨k8, ⟨b, Nat.le_refl _, b1, fun _ => b2, fun q => absurd q (Nat.lt_irrefl _)⟩, b3⟩
              · rw [auN_cg p (fun j hj => cc j (by omega))] at b1
                have c_9_ := cc p b0
                dsimp only at c_9_ b2
                rw [c_9_] at b2
                exact ⟨p, ⟨b, by omega, b1, fun q => absurd q (by omega), fun _ => b2⟩, b3⟩
            rcases hy with ⟨d, X, d1, d2, d3, d4, d5, d6, d7, d8⟩ | ⟨q, d, d1, d2, d3, d4, d5, d6⟩
            · exact (auF_not hF d1 d2).elim
            · have epq := auF_one hF (hFy q d d1 d2 d3 d4)
              refine ⟨by rw [ep, d5, epq], ad, tk, nt, fun _ _ => rfl, hs, ng, rr, c_0_, REL_M (REL_X h_1_ (scX.fT hfr)) (scE.fD d6)⟩
        · rw [if_neg c_5_] at hx hy
          exact ⟨hx.1.trans hy.1.symm, ad, tk, nt, fun _ _ => rfl, hx.2.1, ng, rr, c_0_, by rw [hx.2.2, hy.2]; exact U_fault _ h_1_⟩
    · rw [if_neg c_2_] at hx hy
      exact ⟨hx.1.trans hy.1.symm, ad, tk, nt, fun _ _ => rfl, hx.2.1, ng, rr, c_0_, by rw [hx.2.2, hy.2]; exact h_1_⟩
  · rw [if_neg c] at hx hy
    exact ⟨hx.1.trans hy.1.symm, ad, tk, nt, fun _ _ => rfl, hx.2.1, ng, rr, c_0_, by rw [hx.2.2, hy.2]; exact h_1_⟩
