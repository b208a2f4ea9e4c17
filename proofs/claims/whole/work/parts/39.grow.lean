/-! POOLS THAT GROW. The kinds and lengths of the numbers to come stand fast beforehand; a number's references are null and its ints 0 until it is made. -/
def uR (rf : Nat → Nat → Option Nat) (k i k2 : Nat) : Nat → Nat → Option Nat := fun a j => if a = k ∧ j = i then some k2 else rf a j
def uR0 (rf : Nat → Nat → Option Nat) (k i : Nat) : Nat → Nat → Option Nat := fun a j => if a = k ∧ j = i then none else rf a j
def Fre (N : Nat) (rf : Nat → Nat → Option Nat) (V : Vt) : Prop := (∀ k, k < N → ∀ i k2, rf k i = some k2 → k2 < N) ∧ ∀ k, N ≤ k → rf k = (fun _ => none) ∧ V k = fun _ => 0
theorem Fre.new {N : Nat} {rf : Nat → Nat → Option Nat} {V : Vt} (h : Fre N rf V) : Fre (N + 1) rf V := by
  refine ⟨fun k hk i k2 e => ?_, fun k hk => h.2 k (by omega)⟩
  by_cases q : k = N
  · subst q
    rw [(h.2 k (Nat.le_refl k)).1] at e
    cases e
  · have := h.1 k (by omega) i k2 e
    omega
theorem Fre.ref {N k i k2 : Nat} {rf : Nat → Nat → Option Nat} {V : Vt} (h : Fre N rf V) (hk : k < N) (hk2 : k2 < N) : Fre N (uR rf k i k2) V := by
  refine ⟨fun a ha j q e => ?_, fun a ha => ⟨?_, (h.2 a ha).2⟩⟩
  · unfold uR at e
    split at e
    · cases e; exact hk2
    · exact h.1 a ha j q e
  · funext j
    unfold uR
    rw [if_neg (by omega), (h.2 a ha).1]
theorem Fre.ref0 {N k i : Nat} {rf : Nat → Nat → Option Nat} {V : Vt} (h : Fre N rf V) (hk : k < N) : Fre N (uR0 rf k i) V := by
  refine ⟨fun a ha j q e => ?_, fun a ha => ⟨?_, (h.2 a ha).2⟩⟩
  · unfold uR0 at e
    split at e
    · cases e
    · exact h.1 a ha j q e
  · funext j
    unfold uR0
    rw [if_neg (by omega), (h.2 a ha).1]
theorem Fre.up {N k i : Nat} {x : Int32} {rf : Nat → Nat → Option Nat} {V : Vt} (h : Fre N rf V) (hk : k < N) : Fre N rf (up2 V k i x) := ⟨h.1, fun a ha => ⟨(h.2 a ha).1, by rw [up2_k _ _ (by omega)]; exact (h.2 a ha).2⟩⟩
def Kn (kd ln : Nat → Nat) (N : Nat) (L : List (Nat × Nat)) : Prop := ∀ i, i < L.length → kd (N + i) = (L.getD i (0, 0)).1 ∧ ln (N + i) = (L.getD i (0, 0)).2
theorem Kn_sub {kd ln : Nat → Nat} {N d : Nat} {L L2 : List (Nat × Nat)} (h : Kn kd ln N L) (e : ∀ i, i < L2.length → d + i < L.length ∧ L.getD (d + i) (0, 0) = L2.getD i (0, 0)) : Kn kd ln (N + d) L2 := fun i hi => by
  have q := h (d + i) (e i hi).1
  rw [← Nat.add_assoc, (e i hi).2] at q
  exact q
theorem gW_grow {cy : Nat → ClassId} {N q : Nat} {kd ln ad : Nat → Nat} {rf : Nat → Nat → Option Nat} {V : Vt} (h : ∀ k, k < N → ∀ i, rf k i ≠ some N) : gW cy (N + 1, kd, rf, ln, uN ad N q) V = gW cy (N, kd, rf, ln, ad) V ++ [(q, gE cy (N + 1, kd, rf, ln, uN ad N q) V N)] := by
  unfold gW
  rw [show ((N + 1, kd, rf, ln, uN ad N q) : Sh).1 = N + 1 from rfl, show ((N, kd, rf, ln, ad) : Sh).1 = N from rfl, List.range_succ, List.map_append]
  congr 1
  · apply List.map_congr_left
    intro k hk
    have hk := List.mem_range.mp hk
    have e1 : ∀ i, (rf k i).map (uN ad N q) = (rf k i).map ad := fun i => by
      cases e : rf k i with
      | none => rfl
      | some k2 =>
        have : k2 ≠ N := fun z => h k hk i (by rw [e, z])
        simp [uN, this]
    have e2 : uN ad N q k = ad k := uN_o _ _ (by omega)
    show (uN ad N q k, gE cy (N + 1, kd, rf, ln, uN ad N q) V k) = (ad k, gE cy (N, kd, rf, ln, ad) V k)
    rw [e2]
    unfold gE
    simp only [e1]
  · simp [uN]
theorem Fre.ne {N : Nat} {rf : Nat → Nat → Option Nat} {V : Vt} (h : Fre N rf V) : ∀ k, k < N → ∀ i, rf k i ≠ some N := fun k hk i e => absurd (h.1 k hk i N e) (by omega)
theorem fl_none (n : Nat) (V : Nat → Int32) : ∀ (bs : List Bool) (i : Nat), fl V (fun j => ((fun _ => none : Nat → Option Nat) j).map (fun x => x + n)) i bs = fl V (fun _ => none) i bs
  | [], i => rfl
  | b :: bs, i => by rw [fl, fl, fl_none n V bs (i + 1)]; rfl
/-- what 'new' asks: the class ci of n fields -/
def Nwo (own : String) (idx ci n : Nat) : Prop := ∃ (q : vw_C) (ty : Nat → FieldType), vwCl[ci]? = some q ∧ q.2.2 = n ∧ (∀ w ∈ u_ws q.1 q.2.1 q.2.2, w ∈ WALL) ∧ (∀ k, k < q.2.2 → parseFieldDescriptor (q.2.1 k).2.2.1 = some (ty k)) ∧ Cond.classLink own idx q.1 ∈ WALL ∧ Cond.instantiable q.1 q.2.2 ∈ WALL ∧ Cond.initialized q.1 ∈ WALL ∧ ∀ j, j < q.2.2 → defaultValue (ty j) = vp_V (fl (fun _ => 0) (fun _ => none) 0 (sg ci)) j
/-- a final field, written in the class's own constructor -/
def Fpf (own : String) (ci i : Nat) (ft : FieldType) : Prop := ∃ (q : vw_C) (ty : Nat → FieldType), vwCl[ci]? = some q ∧ (∀ k, k < q.2.2 → parseFieldDescriptor (q.2.1 k).2.2.1 = some (ty k)) ∧ (∀ a, a < q.2.2 → ∀ b, b < q.2.2 → a ≠ b → (q.2.1 a).2.1 ≠ (q.2.1 b).2.1) ∧ (q.2.1 i).2.2.2 = true ∧ (q.2.1 i).1 = own ∧ parseFieldDescriptor (q.2.1 i).2.2.1 = some ft
section JG
variable {p : Program} {l : Launch} {e : Env} {R : Room} {s : State} {m : MethodId} {args : Array Value} {below : List Frame} {meth : Method} {c : Code} {A : Nat → Prop} {D : va_G} {cy : Nat → ClassId} {cells slots : Nat} {Q : State → Prop} {N : Nat} {kd ln ad : Nat → Nat} {rf : Nat → Nat → Option Nat} {V : Vt} {own : String} {cc : ByteArray} {nL : Nat} {ret : Option FieldType} {pc : Nat} {ls : Array Slot} {rest st0 : List Value} {post : Option Value → Sh → Vt → Prop}
theorem j_new (C : Cx p s m args meth c A D cy own cc nL ret) {idx ci n : Nat} (w : Nwo own idx ci n) (hk : kd N = ci) (hF : Fre N rf V) (hc : cells + 1 ≤ R.cells) (hs : slots + n ≤ R.slots) (d : decode cc pc = .ok (.new idx, 3)) (kk : ∀ ad' : Nat → Nat, (∀ j, j < N → ad' j = ad j) → J p l e R s m args below meth c A D cy (cells + 1) (slots + n) Q (N + 1, kd, rf, ln, ad') V (F0 m (pc + 3) ls (.ref (ad' N) :: rest))) : J p l e R s m args below meth c A D cy cells slots Q (N, kd, rf, ln, ad) V (F0 m pc ls rest) := by
  intro H locs hP hD hS
  obtain ⟨q, ty, hq, rfl, hin, hty, w1, w2, w3, hfs⟩ := w
  have hc13 := vwCl_lt hq
  refine va_new C.1 C.2.1 C.2.2.2.2.1 hin ty hty C.2.2.2.1 (C.2.2.2.2.1 _ w1) (C.2.2.2.2.1 _ w2) (C.2.2.2.2.1 _ w3) C.2.2.2.2.2.1 hP hD hS C.2.2.2.2.2.2.2.2.2 hq (fs := fl (fun _ => 0) (fun _ => none) 0 (sg ci)) hfs hc hs d (fun a H1 hP1 hD1 hS1 => ?_)
  have e : gE cy (N + 1, kd, rf, ln, uN ad N a) V N = .inr (ci, fl (fun _ => 0) (fun _ => none) 0 (sg ci)) := by
    rw [gE_obj (ci := ci) hk hc13]
    show _ = Sum.inr (ci, fl (fun _ => 0) (fun _ => none) 0 (sg ci))
    rw [(hF.2 N (Nat.le_refl N)).2, show ((N + 1, kd, rf, ln, uN ad N a) : Sh).2.2.1 = rf from rfl, (hF.2 N (Nat.le_refl N)).1]
    rfl
  rw [← e, ← gW_grow hF.ne] at hP1 hD1
  have k2 := kk (uN ad N a) (fun j hj => uN_o _ _ (by omega)) H1 locs hP1 hD1 hS1
  rw [uN_s] at k2
  exact k2
theorem j_newI (C : Cx p s m args meth c A D cy own cc nL ret) {x : Int32} {n : Nat} (hx : x = nI n) (hn31 : n < 2 ^ 20) (hk : kd N = 13) (hl : ln N = n) (hF : Fre N rf V) (hc : cells + 1 ≤ R.cells) (hs : slots + n ≤ R.slots) (d : decode cc pc = .ok (.newarray .int, 2)) (kk : ∀ ad' : Nat → Nat, (∀ j, j < N → ad' j = ad j) → J p l e R s m args below meth c A D cy (cells + 1) (slots + n) Q (N + 1, kd, rf, ln, ad') V (F0 m (pc + 2) ls (.ref (ad' N) :: rest))) : J p l e R s m args below meth c A D cy cells slots Q (N, kd, rf, ln, ad) V (F0 m pc ls (.int x :: rest)) := by
  intro H locs hP hD hS
  subst hx
  refine va_newa (atype := .int) C.1 C.2.1 (C.2.2.2.2.1 _ wa_int) rfl C.2.2.2.2.2.1 hP hD hS C.2.2.2.2.2.2.2.2.2 (a0 := (n, .inl (fun _ => 0))) (fun cA => rfl) (nI_pos (by omega)) (nI_clamp (by omega)) (by show n * 4 ≤ _; omega) hc hs d (fun a cA H1 hK1 hP1 hD1 hS1 => ?_)
  have ec : cA = cy 13 := by
    have h_1_ := (hK1.2 4 (cA, .int) rfl).2
    have h_2_ := (C.2.2.2.2.2.1.2 0 (cy 13, .int) rfl).2
    exact Option.some.inj (h_1_.symm.trans h_2_)
  have e : gE cy (N + 1, kd, rf, ln, uN ad N a) V N = .inl (cA, n, .inl (fun _ => 0)) := by
    rw [gE_ints (show ((N + 1, kd, rf, ln, uN ad N a) : Sh).2.1 N = 13 from hk), ec, (hF.2 N (Nat.le_refl N)).2]
    show Sum.inl (cy 13, ln N, Sum.inl fun _ => 0) = _
    rw [hl]
  rw [← e, ← gW_grow hF.ne] at hP1 hD1
  have k2 := kk (uN ad N a) (fun j hj => uN_o _ _ (by omega)) H1 locs hP1 hD1 hS1
  rw [uN_s] at k2
  exact k2
theorem j_newR14 (C : Cx p s m args meth c A D cy own cc nL ret) {x : Int32} {n idx : Nat} (hx : x = nI n) (hn31 : n < 2 ^ 20) (hk : kd N = 14) (hl : ln N = n) (w : Cond.classLink own idx RX2 ∈ WALL) (hF : Fre N rf V) (hc : cells + 1 ≤ R.cells) (hs : slots + n ≤ R.slots) (d : decode cc pc = .ok (.anewarray idx, 3)) (kk : ∀ ad' : Nat → Nat, (∀ j, j < N → ad' j = ad j) → J p l e R s m args below meth c A D cy (cells + 1) (slots + n) Q (N + 1, kd, rf, ln, ad') V (F0 m (pc + 3) ls (.ref (ad' N) :: rest))) : J p l e R s m args below meth c A D cy cells slots Q (N, kd, rf, ln, ad) V (F0 m pc ls (.int x :: rest)) := by
  intro H locs hP hD hS
  subst hx
  refine va_newq C.1 C.2.1 C.2.2.2.1 (C.2.2.2.2.1 _ w) C.2.2.2.2.2.2.1.2.1.1 C.2.2.2.2.2.1 hP hD hS C.2.2.2.2.2.2.2.2.2 (nI_pos (by omega)) (nI_clamp (by omega)) (by omega) hc hs d (fun a cA H1 hK1 hP1 hD1 hS1 => ?_)
  have ec : cA = cy 14 := by
    obtain ⟨_, _, _, _, _, h_1_⟩ := (hK1.2 4 (cA, .object RX2) rfl).2
    obtain ⟨_, _, _, _, _, h_2_⟩ := (C.2.2.2.2.2.1.2 1 (cy 14, .object RX2) rfl).2
    exact Option.some.inj (h_1_.symm.trans h_2_)
  have e : gE cy (N + 1, kd, rf, ln, uN ad N a) V N = .inl (cA, n, .inr (.inr (.inr (.inr (fun _ => none))))) := by
    rw [gE_refs (ci := 14) (show ((N + 1, kd, rf, ln, uN ad N a) : Sh).2.1 N = 14 from hk) (by decide), ec]
    show Sum.inl (cy 14, ln N, Sum.inr (Sum.inr (Sum.inr (Sum.inr fun i => (rf N i).map (uN ad N a))))) = _
    rw [hl, (hF.2 N (Nat.le_refl N)).1]
    rfl
  rw [← e, ← gW_grow hF.ne] at hP1 hD1
  have k2 := kk (uN ad N a) (fun j hj => uN_o _ _ (by omega)) H1 locs hP1 hD1 hS1
  rw [uN_s] at k2
  exact k2
theorem j_newR15 (C : Cx p s m args meth c A D cy own cc nL ret) {x : Int32} {n idx : Nat} (hx : x = nI n) (hn31 : n < 2 ^ 20) (hk : kd N = 15) (hl : ln N = n) (w : Cond.classLink own idx RX6 ∈ WALL) (hF : Fre N rf V) (hc : cells + 1 ≤ R.cells) (hs : slots + n ≤ R.slots) (d : decode cc pc = .ok (.anewarray idx, 3)) (kk : ∀ ad' : Nat → Nat, (∀ j, j < N → ad' j = ad j) → J p l e R s m args below meth c A D cy (cells + 1) (slots + n) Q (N + 1, kd, rf, ln, ad') V (F0 m (pc + 3) ls (.ref (ad' N) :: rest))) : J p l e R s m args below meth c A D cy cells slots Q (N, kd, rf, ln, ad) V (F0 m pc ls (.int x :: rest)) := by
  intro H locs hP hD hS
  subst hx
  refine va_newq C.1 C.2.1 C.2.2.2.1 (C.2.2.2.2.1 _ w) C.2.2.2.2.2.2.1.2.1.2.1 C.2.2.2.2.2.1 hP hD hS C.2.2.2.2.2.2.2.2.2 (nI_pos (by omega)) (nI_clamp (by omega)) (by omega) hc hs d (fun a cA H1 hK1 hP1 hD1 hS1 => ?_)
  have ec : cA = cy 15 := by
    obtain ⟨_, _, _, _, _, h_1_⟩ := (hK1.2 4 (cA, .object RX6) rfl).2
    obtain ⟨_, _, _, _, _, h_2_⟩ := (C.2.2.2.2.2.1.2 2 (cy 15, .object RX6) rfl).2
    exact Option.some.inj (h_1_.symm.trans h_2_)
  have e : gE cy (N + 1, kd, rf, ln, uN ad N a) V N = .inl (cA, n, .inr (.inr (.inr (.inr (fun _ => none))))) := by
    rw [gE_refs (ci := 15) (show ((N + 1, kd, rf, ln, uN ad N a) : Sh).2.1 N = 15 from hk) (by decide), ec]
    show Sum.inl (cy 15, ln N, Sum.inr (Sum.inr (Sum.inr (Sum.inr fun i => (rf N i).map (uN ad N a))))) = _
    rw [hl, (hF.2 N (Nat.le_refl N)).1]
    rfl
  rw [← e, ← gW_grow hF.ne] at hP1 hD1
  have k2 := kk (uN ad N a) (fun j hj => uN_o _ _ (by omega)) H1 locs hP1 hD1 hS1
  rw [uN_s] at k2
  exact k2
theorem j_newR16 (C : Cx p s m args meth c A D cy own cc nL ret) {x : Int32} {n idx : Nat} (hx : x = nI n) (hn31 : n < 2 ^ 20) (hk : kd N = 16) (hl : ln N = n) (w : Cond.classLink own idx RX7 ∈ WALL) (hF : Fre N rf V) (hc : cells + 1 ≤ R.cells) (hs : slots + n ≤ R.slots) (d : decode cc pc = .ok (.anewarray idx, 3)) (kk : ∀ ad' : Nat → Nat, (∀ j, j < N → ad' j = ad j) → J p l e R s m args below meth c A D cy (cells + 1) (slots + n) Q (N + 1, kd, rf, ln, ad') V (F0 m (pc + 3) ls (.ref (ad' N) :: rest))) : J p l e R s m args below meth c A D cy cells slots Q (N, kd, rf, ln, ad) V (F0 m pc ls (.int x :: rest)) := by
  intro H locs hP hD hS
  subst hx
  refine va_newq C.1 C.2.1 C.2.2.2.1 (C.2.2.2.2.1 _ w) C.2.2.2.2.2.2.1.2.1.2.2 C.2.2.2.2.2.1 hP hD hS C.2.2.2.2.2.2.2.2.2 (nI_pos (by omega)) (nI_clamp (by omega)) (by omega) hc hs d (fun a cA H1 hK1 hP1 hD1 hS1 => ?_)
  have ec : cA = cy 16 := by
    obtain ⟨_, _, _, _, _, h_1_⟩ := (hK1.2 4 (cA, .object RX7) rfl).2
    obtain ⟨_, _, _, _, _, h_2_⟩ := (C.2.2.2.2.2.1.2 3 (cy 16, .object RX7) rfl).2
    exact Option.some.inj (h_1_.symm.trans h_2_)
  have e : gE cy (N + 1, kd, rf, ln, uN ad N a) V N = .inl (cA, n, .inr (.inr (.inr (.inr (fun _ => none))))) := by
    rw [gE_refs (ci := 16) (show ((N + 1, kd, rf, ln, uN ad N a) : Sh).2.1 N = 16 from hk) (by decide), ec]
    show Sum.inl (cy 16, ln N, Sum.inr (Sum.inr (Sum.inr (Sum.inr fun i => (rf N i).map (uN ad N a))))) = _
    rw [hl, (hF.2 N (Nat.le_refl N)).1]
    rfl
  rw [← e, ← gW_grow hF.ne] at hP1 hD1
  have k2 := kk (uN ad N a) (fun j hj => uN_o _ _ (by omega)) H1 locs hP1 hD1 hS1
  rw [uN_s] at k2
  exact k2
theorem fl_setR (V : Nat → Int32) (G G2 : Nat → Option Nat) (bs : List Bool) (j : Nat) (h : bs[j]? = some true) (ho : ∀ n, n ≠ j → G2 n = G n) : (fl V G 0 bs).set j (va_rf (G2 j)) = fl V G2 0 bs := by
  have hj : j < bs.length := (List.getElem?_eq_some_iff.mp h).1
  apply List.ext_getElem?
  intro n
  by_cases hn : n = j
  · subst hn
    rw [List.getElem?_set_self (by rw [fl_len]; exact hj), fl_get, h]
    simp
  · rw [List.getElem?_set_ne (Ne.symm hn), fl_get, fl_get]
    cases bs[n]? with
    | none => rfl
    | some b => cases b <;> simp [ho n hn]
theorem gW_setR {cy : Nat → ClassId} {σ : Sh} {V : Vt} {k : Nat} {rf2 : Nat → Nat → Option Nat} {x : va_E} (h : k < σ.1) (he : gE cy (σ.1, σ.2.1, rf2, σ.2.2.2.1, σ.2.2.2.2) V k = x) (ho : ∀ j, j ≠ k → rf2 j = σ.2.2.1 j) : (gW cy σ V).set k (σ.2.2.2.2 k, x) = gW cy (σ.1, σ.2.1, rf2, σ.2.2.2.1, σ.2.2.2.2) V := by
  apply List.ext_getElem?
  intro n
  by_cases hn : n = k
  · subst hn
    rw [List.getElem?_set_self (by unfold gW; simpa using h), gW_get (σ := (σ.1, σ.2.1, rf2, σ.2.2.2.1, σ.2.2.2.2)) h, he]
  · rw [List.getElem?_set_ne (Ne.symm hn)]
    by_cases hl : n < σ.1
    · rw [gW_get hl, gW_get (σ := (σ.1, σ.2.1, rf2, σ.2.2.2.1, σ.2.2.2.2)) hl]
      unfold gE
      simp only [ho n hn]
    · rw [gW_out hl, gW_out (σ := (σ.1, σ.2.1, rf2, σ.2.2.2.1, σ.2.2.2.2)) hl]
/-- a final reference, in the constructor -/
theorem j_putRF (C : Cx p s m args meth c A D cy own cc nL ret) {k k2 i idx ci a b : Nat} {ft : FieldType} (hin : meth.name = "<init>") (F : Fld own idx ci i true) (P : Fpf own ci i ft) (hft : narrow ft (.ref b) = .ref b ∧ fits ft (.ref b) = true) (hk : k < N) (hK : kd k = ci) (ha : ad k = a) (hb : ad k2 = b) (d : decode cc pc = .ok (.putfield idx, 3)) (kk : J p l e R s m args below meth c A D cy cells slots Q (N, kd, uR rf k i k2, ln, ad) V (F0 m (pc + 3) ls rest)) : J p l e R s m args below meth c A D cy cells slots Q (N, kd, rf, ln, ad) V (F0 m pc ls (.ref b :: .ref a :: rest)) := by
  intro H locs hP hD hS
  subst ha
  subst hb
  obtain ⟨q, hq, hi, hsg, hin2, hlink⟩ := F
  obtain ⟨q', ty, hq', hty, hnm, hfin, hown, hint⟩ := P
  obtain rfl : q' = q := Option.some.inj (hq'.symm.trans hq)
  have hc := vwCl_lt hq
  have hw := gW_get (cy := cy) (σ := (N, kd, rf, ln, ad)) (V := V) (k := k) hk
  rw [gE_obj (ci := ci) hK hc] at hw
  have hz := gW_setR (cy := cy) (σ := (N, kd, rf, ln, ad)) (V := V) (k := k) (rf2 := uR rf k i k2) (x := .inr (ci, (fl (V k) (fun i => (rf k i).map ad) 0 (sg ci)).set i (.ref (ad k2)))) hk (by
    rw [gE_obj (ci := ci) hK hc]
    have h_2_ := fl_setR (V k) (fun i => (rf k i).map ad) (fun j => (uR rf k i k2 k j).map ad) (sg ci) i hsg (fun n hn => by simp [uR, hn])
    have h_3_ : va_rf ((uR rf k i k2 k i).map ad) = .ref (ad k2) := by simp [uR, va_rf]
    rw [h_3_] at h_2_
    rw [h_2_]) (fun j hj => by funext z; simp [uR, hj])
  refine va_putF C.1 C.2.1 C.2.2.2.2.1 hin2 ty hty hnm C.2.2.2.1 C.2.2.2.2.2.1 hP hD hS k hw hq i hi (C.2.2.2.2.1 _ hlink) (fun _ h => h) hfin hin hown (v := .ref (ad k2)) hint hft.1 hft.2 (by rw [fl_len]; exact (List.getElem?_eq_some_iff.mp hsg).1) d (fun H1 locs1 hP1 hD1 hS1 => ?_)
  rw [hz] at hP1 hD1
  exact kk H1 locs1 hP1 hD1 hS1
/-- a final int, in the constructor -/
theorem j_putIF (C : Cx p s m args meth c A D cy own cc nL ret) {k i idx ci a : Nat} {x : Int32} (hin : meth.name = "<init>") (F : Fld own idx ci i false) (P : Fpf own ci i .int) (hk : k < N) (hK : kd k = ci) (ha : ad k = a) (d : decode cc pc = .ok (.putfield idx, 3)) (kk : J p l e R s m args below meth c A D cy cells slots Q (N, kd, rf, ln, ad) (up2 V k i x) (F0 m (pc + 3) ls rest)) : J p l e R s m args below meth c A D cy cells slots Q (N, kd, rf, ln, ad) V (F0 m pc ls (.int x :: .ref a :: rest)) := by
  intro H locs hP hD hS
  subst ha
  obtain ⟨q, hq, hi, hsg, hin2, hlink⟩ := F
  obtain ⟨q', ty, hq', hty, hnm, hfin, hown, hint⟩ := P
  obtain rfl : q' = q := Option.some.inj (hq'.symm.trans hq)
  have hc := vwCl_lt hq
  have hw := gW_get (cy := cy) (σ := (N, kd, rf, ln, ad)) (V := V) (k := k) hk
  rw [gE_obj (ci := ci) hK hc] at hw
  have hz : (gW cy (N, kd, rf, ln, ad) V).set k (ad k, .inr (ci, (fl (V k) (fun i => (rf k i).map ad) 0 (sg ci)).set i (.int x))) = gW cy (N, kd, rf, ln, ad) (up2 V k i x) := by
    refine gW_set (σ := (N, kd, rf, ln, ad)) hk ?_ (fun j hj => up2_k V x hj)
    rw [gE_obj (ci := ci) hK hc]
    have h_2_ := fl_set (V k) (up2 V k i x k) (fun i => (rf k i).map ad) (sg ci) i hsg (fun n hn => up2_i V x hn)
    rw [up2_s] at h_2_
    rw [h_2_]
  refine va_putF C.1 C.2.1 C.2.2.2.2.1 hin2 ty hty hnm C.2.2.2.1 C.2.2.2.2.2.1 hP hD hS k hw hq i hi (C.2.2.2.2.1 _ hlink) (fun _ h => h) hfin hin hown (v := .int x) hint rfl rfl (by rw [fl_len]; exact (List.getElem?_eq_some_iff.mp hsg).1) d (fun H1 locs1 hP1 hD1 hS1 => ?_)
  rw [hz] at hP1 hD1
  exact kk H1 locs1 hP1 hD1 hS1
theorem j_obj (C : Cx p s m args meth c A D cy own cc nL ret) {idx a : Nat} (w : Cond.methodLink own idx objectInit ∈ WALL) (hsz : ls.size = nL) (hfr : 1 ≤ R.frames) (hlo : 0 + (rest.map fun v => v.category).sum + 12 ≤ R.locals) (d : decode cc pc = .ok (.invokespecial idx, 3)) (kk : J p l e R s m args below meth c A D cy cells slots Q (N, kd, rf, ln, ad) V (F0 m (pc + 3) ls rest)) : J p l e R s m args below meth c A D cy cells slots Q (N, kd, rf, ln, ad) V (F0 m pc ls (.ref a :: rest)) := fun H locs hP hD hS =>
  W.objInit C.1 C.2.1 C.2.2.2.1 (C.2.2.2.2.1 _ w) (C.2.2.2.2.1 _ wi_Oinit) (C.2.2.2.2.1 _ wc_Oinit) rfl (by rw [C.2.2.1]; exact hsz) rfl d hfr hlo (kk H locs hP hD hS)
theorem gE_ref54 {cy : Nat → ClassId} {σ : Sh} {V : Vt} {k ci n : Nat} (h : σ.2.1 k = ci) (hc : 13 < ci) (hn : σ.2.2.2.1 k = n) : gE cy σ V k = .inl (cy ci, n, .inr (.inr (.inr (.inr (fun i => (σ.2.2.1 k i).map σ.2.2.2.2))))) := by rw [gE_refs h hc, hn]
theorem j_aastG (C : Cx p s m args meth c A D cy own cc nL ret) {k k2 a b n j : Nat} {i : Int32} (hj : i.toNatClampNeg = j) (hk : k < N) (hK : kd k = 14) (hn : ln k = n) (hin : vp_in i n) (ha : ad k = a) (hk2 : k2 < N) (hK2 : kd k2 = 2) (hb : ad k2 = b) (d : decode cc pc = .ok (.aastore, 1)) (kk : J p l e R s m args below meth c A D cy cells slots Q (N, kd, uR rf k j k2, ln, ad) V (F0 m (pc + 1) ls rest)) : J p l e R s m args below meth c A D cy cells slots Q (N, kd, rf, ln, ad) V (F0 m pc ls (.ref b :: .int i :: .ref a :: rest)) := by
  intro H locs hP hD hS
  subst ha
  subst hb
  subst hj
  have hw := gW_get (cy := cy) (σ := (N, kd, rf, ln, ad)) (V := V) (k := k) hk
  rw [gE_ref54 (ci := 14) hK (by decide) hn] at hw
  have hv := gW_get (cy := cy) (σ := (N, kd, rf, ln, ad)) (V := V) (k := k2) hk2
  rw [gE_obj (ci := 2) hK2 (by decide)] at hv
  have hz := gW_setR (cy := cy) (σ := (N, kd, rf, ln, ad)) (V := V) (k := k) (rf2 := uR rf k i.toNatClampNeg k2) (x := .inl (cy 14, n, .inr (.inr (.inr (.inr (va_up (fun i => (rf k i).map ad) i.toNatClampNeg (some (ad k2)))))))) hk (by
    rw [gE_ref54 (ci := 14) hK (by decide) hn]
    have e : (fun j => (uR rf k i.toNatClampNeg k2 k j).map ad) = va_up (fun i => (rf k i).map ad) i.toNatClampNeg (some (ad k2)) := by
      funext j
      by_cases q : j = i.toNatClampNeg
      · simp [uR, va_up, q]
      · simp [uR, va_up, q]
    rw [← e]) (fun j hj => by funext z; simp [uR, hj])
  refine va_astq C.1 C.2.1 C.2.2.2.2.2.1 hP hD hS k 1 k2 2 hw (r := (RX2, TX2, 5)) rfl hv rfl hin d (fun H1 locs1 hP1 hD1 hS1 => ?_)
  rw [hz] at hP1 hD1
  exact kk H1 locs1 hP1 hD1 hS1
theorem j_aastS (C : Cx p s m args meth c A D cy own cc nL ret) {k k2 a b n j : Nat} {i : Int32} (hj : i.toNatClampNeg = j) (hk : k < N) (hK : kd k = 16) (hn : ln k = n) (hin : vp_in i n) (ha : ad k = a) (hk2 : k2 < N) (hK2 : kd k2 = 7) (hb : ad k2 = b) (d : decode cc pc = .ok (.aastore, 1)) (kk : J p l e R s m args below meth c A D cy cells slots Q (N, kd, uR rf k j k2, ln, ad) V (F0 m (pc + 1) ls rest)) : J p l e R s m args below meth c A D cy cells slots Q (N, kd, rf, ln, ad) V (F0 m pc ls (.ref b :: .int i :: .ref a :: rest)) := by
  intro H locs hP hD hS
  subst ha
  subst hb
  subst hj
  have hw := gW_get (cy := cy) (σ := (N, kd, rf, ln, ad)) (V := V) (k := k) hk
  rw [gE_ref54 (ci := 16) hK (by decide) hn] at hw
  have hv := gW_get (cy := cy) (σ := (N, kd, rf, ln, ad)) (V := V) (k := k2) hk2
  rw [gE_obj (ci := 7) hK2 (by decide)] at hv
  have hz := gW_setR (cy := cy) (σ := (N, kd, rf, ln, ad)) (V := V) (k := k) (rf2 := uR rf k i.toNatClampNeg k2) (x := .inl (cy 16, n, .inr (.inr (.inr (.inr (va_up (fun i => (rf k i).map ad) i.toNatClampNeg (some (ad k2)))))))) hk (by
    rw [gE_ref54 (ci := 16) hK (by decide) hn]
    have e : (fun j => (uR rf k i.toNatClampNeg k2 k j).map ad) = va_up (fun i => (rf k i).map ad) i.toNatClampNeg (some (ad k2)) := by
      funext j
      by_cases q : j = i.toNatClampNeg
      · simp [uR, va_up, q]
      · simp [uR, va_up, q]
    rw [← e]) (fun j hj => by funext z; simp [uR, hj])
  refine va_astq C.1 C.2.1 C.2.2.2.2.2.1 hP hD hS k 3 k2 7 hw (r := (RX7, TX7, 3)) rfl hv rfl hin d (fun H1 locs1 hP1 hD1 hS1 => ?_)
  rw [hz] at hP1 hD1
  exact kk H1 locs1 hP1 hD1 hS1
end JG
