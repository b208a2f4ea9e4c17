def pkl : List Nat := [11, 0, 14, 2, 13, 13, 2, 13, 13, 2, 13, 13, 2, 13, 13, 15, 5, 13, 13, 13, 16, 10, 9, 13, 13, 13, 13, 1, 0, 14, 2, 13, 13, 2, 13, 13, 2, 13, 13, 2, 13, 13, 4, 13, 13, 13, 13, 13, 7, 13, 7, 13, 7, 13, 7, 13, 12, 13, 13, 13, 13, 13, 13, 13, 13, 13, 13, 13, 13, 13, 13, 13, 13, 13, 13, 13, 13, 13, 13, 13]
def pll : List Nat := [0, 0, 4, 0, 8, 8, 0, 8, 8, 0, 8, 8, 0, 8, 8, 5, 0, 8, 8, 8, 4, 0, 0, 4, 4, 5, 5, 0, 0, 4, 0, 8, 8, 0, 8, 8, 0, 8, 8, 0, 8, 8, 0, 20, 5, 5, 5, 80, 0, 60, 0, 60, 0, 60, 0, 60, 0, 4, 4, 240, 4, 4, 5, 5, 4, 32, 32, 8, 10, 4, 32, 32, 5, 5, 5, 4, 5, 8, 8, 8]
def fxl : List Nat := [1, 2, 3, 4, 5, 6, 7, 8, 9, 10, 11, 12, 13, 14, 27, 28, 29, 30, 31, 32, 33, 34, 35, 36, 37, 38, 39, 40, 41, 16, 17, 18, 19, 20, 48, 49, 50, 51, 52, 53, 54, 55, 21, 22, 23, 24, 25, 26, 42, 43, 44, 45, 46, 47, 15, 0]
def pkd (k : Nat) : Nat := pkl.getD k 0
def pln (k : Nat) : Nat := pll.getD k 0
def fX (k : Nat) : Nat := fxl.getD k 0
def fM (k : Nat) : Nat := 56 + k
def rfz : Nat → Nat → Option Nat := fun _ _ => none
def vz : Vt := fun _ _ => 0
def RF : Nat → Nat → Option Nat := rfX12_init (rfX11_init rfz 0 1) 56 57
def VW : Vt := vX12_init (vX11_init vz 0 1) 56 57
def VX (k : Nat) : Nat → Int32 := VW (fX k)
def VM (k : Nat) : Nat → Int32 := VW (fM k)
def tk6 : Nat → Nat := fun _ => 6
theorem fre_z : Fre 0 rfz vz := ⟨fun k hk => absurd hk (by omega), fun k _ => ⟨rfl, rfl⟩⟩
theorem kn_x : Kn pkd pln 1 LX11_init := by unfold Kn; decide +kernel
theorem kn_m : Kn pkd pln 57 LX12_init := by unfold Kn; decide +kernel
theorem st_rx : ∀ k, k < 56 → ∀ i, i < 40 → RF (fX k) i = (xg 0 k i).map fX := by decide +kernel
theorem st_kx : ∀ k, k < 56 → fX k < 80 ∧ pkd (fX k) = xk tk6 k ∧ pln (fX k) = xlen k ∧ (xlen k ≤ 40 ∨ xk tk6 k = 13) := by decide +kernel
theorem st_ix : ∀ j, j < 56 → ∀ k, k < 56 → fX j = fX k → j = k := by decide +kernel
theorem st_rm : ∀ k, k < 24 → ∀ i, i < 40 → RF (fM k) i = (mg k i).map fM := by decide +kernel
theorem st_km : ∀ k, k < 24 → fM k < 80 ∧ pkd (fM k) = mk k ∧ pln (fM k) = mlen k ∧ (mlen k ≤ 40 ∨ mk k = 13) := by decide +kernel
theorem st_ap : ∀ j, j < 56 → ∀ k, k < 24 → fX j ≠ fM k := by decide +kernel
theorem sw_x (cy : Nat → ClassId) (ad : Nat → Nat) : Swp cy (80, pkd, RF, pln, ad) VW (xS (fun k => ad (fX k)) tk6 0) VX := by
  refine Swp.of fX (fun k hk => ?_) (fun j k hj hk e => st_ix j hj k hk e)
  obtain ⟨q1, q2, q3, q4⟩ := st_kx k hk
  rcases q4 with q4 | q4
  · refine Or.inl ⟨q1, rfl, q2, q3, rfl, fun _ i hi => ?_, q4⟩
    show (RF (fX k) i).map ad = (xg 0 k i).map (fun k => ad (fX k))
    rw [st_rx k hk i hi]
    cases xg 0 k i <;> rfl
  · exact Or.inr ⟨q1, rfl, q2.trans q4, q4, q3, rfl⟩
theorem sw_m (cy : Nat → ClassId) (ad : Nat → Nat) : Swp cy (80, pkd, RF, pln, ad) VW (mS (fun k => ad (fM k))) VM := by
  refine Swp.of fM (fun k hk => ?_) (fun j k hj hk e => Nat.add_left_cancel e)
  obtain ⟨q1, q2, q3, q4⟩ := st_km k hk
  rcases q4 with q4 | q4
  · refine Or.inl ⟨q1, rfl, q2, q3, rfl, fun _ i hi => ?_, q4⟩
    show (RF (fM k) i).map ad = (mg k i).map (fun k => ad (fM k))
    rw [st_rm k hk i hi]
    cases mg k i <;> rfl
  · exact Or.inr ⟨q1, rfl, q2.trans q4, q4, q3, rfl⟩
theorem rel_z : RLo tk6 0 VX VM := by
  refine ⟨0, fun _ => 0, 0, ⟨⟨by decide +kernel, by omega, fun j hj => absurd hj (by omega)⟩, by decide +kernel, by omega, fun t ht => absurd ht (by omega), by decide +kernel, by omega, fun r hr => absurd hr (by omega), fun k hk => ⟨0, by omega, (show ∀ k, k < 4 → VX (34 + 2 * k) 1 = nI 0 by decide +kernel) k hk⟩⟩, ⟨by decide +kernel, by omega, by decide +kernel, by omega, fun g hg => absurd hg (by omega), by decide +kernel, by omega, fun r hr => absurd hr (by omega), fun k hk => ⟨0, by omega, (show ∀ k, k < 4 → VM 2 k = nI 0 by decide +kernel) k hk⟩⟩, fun g hg => absurd hg (by omega), fun t ht => absurd ht (by omega), fun r hr => absurd hr (by omega), fun k hk => Or.inl ((show ∀ k, k < 4 → VX (34 + 2 * k) 0 = -1 ∧ VM 1 k = -9 by decide +kernel) k hk), by unfold cE; decide +kernel, Iff.rfl⟩
section JStart
variable {p : Program} {l : Launch} {e : Env} {R : Room} {s : State} {m : MethodId} {args : Array Value} {below : List Frame} {meth : Method} {c : Code} {A : Nat → Prop} {D : va_G} {cy : Nat → ClassId} {cells slots : Nat} {Q : State → Prop} {σ τ : Sh} {V M : Vt} {own : String} {cc : ByteArray} {nL : Nat} {ret : Option FieldType} {pc : Nat} {ls : Array Slot} {rest st0 : List Value} {post : Option Value → Sh → Vt → Prop}
/-- one pool is two -/
theorem j_two {σx σm : Sh} {Vx Vm : Vt} {g : JFrame} (f1 f2 : Nat → Nat) (w1 : Swp cy σ V σx Vx) (w2 : Swp cy σ V σm Vm) (a1 : ∀ k, k < σx.1 → f1 k < σ.1 ∧ σ.2.2.2.2 (f1 k) = σx.2.2.2.2 k) (a2 : ∀ k, k < σm.1 → f2 k < σ.1 ∧ σ.2.2.2.2 (f2 k) = σm.2.2.2.2 k) (ne : ∀ i j, i < σx.1 → j < σm.1 → f1 i ≠ f2 j) (k : J2 p l e R s m args below meth c A D cy cells slots Q σx Vx σm Vm g) : J p l e R s m args below meth c A D cy cells slots Q σ V g := fun H locs hP hD hS => k H locs ⟨w1.pp hP, w1.dd hD, w2.pp hP, w2.dd hD, fun i j a b ha hb e => by
  by_cases hi : i < σx.1
  · by_cases hj : j < σm.1
    · rw [gW_get hi] at ha
      rw [gW_get hj] at hb
      cases ha
      cases hb
      refine ne i j hi hj (hD.1 (f1 i) (f2 j) _ _ (gW_get (a1 i hi).1) (gW_get (a2 j hj).1) ?_)
      show σ.2.2.2.2 (f1 i) = σ.2.2.2.2 (f2 j)
      rw [(a1 i hi).2, (a2 j hj).2]
      exact e
    · rw [gW_out hj] at hb
      cases hb
  · rw [gW_out hi] at ha
    cases ha⟩ hS
end JStart
set_option maxHeartbeats 4000000 in
set_option maxRecDepth 100000 in
/-- from the entry, for every script of at most 384 ints, the law comes to its end with true -/
theorem whole_start {p : Program} {e : Env} {s : State} {m : MethodId} {below : List Frame} {meth : Method} {c : Code} (l : Launch) {b L : Nat} {xs : Nat → Int32} (hL : L ≤ 384) (C0 : lw_At p s m meth c b L xs) : W p l e room_1 s m #[Value.ref b] below meth c s.heap [] 0 0 (lw_Z below #[Value.ref b] s) (entryFrame m ([Value.ref b] : List Value).toArray 4) := by
  obtain ⟨D, cy, C⟩ := cx_start C0
  obtain ⟨hx, hb, hr, hml, hown, hts, hX, hbl, hlocks, hgv⟩ := C0
  have X : LX (fun q : Nat => s.heap.size ≤ q) b L xs s := ⟨hX, hbl, Nat.not_le.mpr hbl, hL⟩
  have hend : ∀ (cells slots : Nat) (σ τ : Sh) (V M : Vt) (ls : Array Slot), cells ≤ 600000 → slots ≤ 7302250 → J2 p l e room_1 s m #[Value.ref b] below meth c (fun q : Nat => s.heap.size ≤ q) D cy cells slots (lw_Z below #[Value.ref b] s) σ V τ M (F0 m 1237 ls []) := by
    intro cells slots σ τ V M ls hc hs
    refine g_iconst (v := 1) C dL_law_1237 (by decide) ?_
    intro H locs hZ hS
    exact va_forget (fun q hq => hS.2.2 q hq) (W.widen hc hs (lw_ret hx hb hr hlocks dL_law_1238))
  have hl := lv_entry ([.ref b]) (n := 4) (Nat.le_of_ble_eq_true rfl)
  rw [lg_entry_eq]
  generalize (lg_sl ([.ref b]) ++ List.replicate (4 - (lg_sl ([.ref b])).length) Slot.unset).toArray = ls at hl ⊢
  have hl : lv_has ls 4 [(0, .ref b)] := hl
  have K : J p l e room_1 s m #[Value.ref b] below meth c (fun q : Nat => s.heap.size ≤ q) D cy 0 0 (lw_Z below #[Value.ref b] s) (0, pkd, rfz, pln, fun _ => 0) vz (F0 m 0 ls []) := by
    refine j_new C nw_RL_7 rfl fre_z (Nat.le_of_ble_eq_true rfl) (Nat.le_of_ble_eq_true rfl) dL_law_0 (fun ad1 q1 => ?_)
    refine j_dup C dL_law_3 rfl ?_
    refine j_callI C [] [.ref (ad1 0)] (k_X11_init l 1 pkd pln ad1 rfz vz 0 (by omega) rfl kn_x (Fre.new fre_z)) in_RL_9 ⟨rfl, rfl, Nat.le_of_ble_eq_true rfl, Nat.le_of_ble_eq_true rfl⟩ rfl hl.1 rfl (Nat.le_of_ble_eq_true rfl) ⟨Nat.le_of_ble_eq_true rfl, Nat.le_of_ble_eq_true rfl⟩ dL_law_4 (kIn fun ad2 q2 => ?_)
    refine j_astore_n (lv2 := [(1, .ref (ad1 0)), (0, .ref b)]) C dL_law_7 rfl hl (by decide) rfl (fun ls hl => ?_)
    refine j_new C nw_RL_10 rfl (fre_X11_init (Fre.new fre_z) (by omega)) (Nat.le_of_ble_eq_true rfl) (Nat.le_of_ble_eq_true rfl) dL_law_8 (fun ad3 q3 => ?_)
    refine j_dup C dL_law_11 rfl ?_
    refine j_callI C [] [.ref (ad3 56)] (k_X12_init l 57 pkd pln ad3 (rfX11_init rfz 0 1) (vX11_init vz 0 1) 56 (by omega) rfl kn_m (Fre.new (fre_X11_init (Fre.new fre_z) (by omega)))) in_RL_12 ⟨rfl, rfl, Nat.le_of_ble_eq_true rfl, Nat.le_of_ble_eq_true rfl⟩ rfl hl.1 rfl (Nat.le_of_ble_eq_true rfl) ⟨Nat.le_of_ble_eq_true rfl, Nat.le_of_ble_eq_true rfl⟩ dL_law_12 (kIn fun ad4 q4 => ?_)
    refine j_astore_n (lv2 := [(2, .ref (ad3 56)), (1, .ref (ad1 0)), (0, .ref b)]) C dL_law_15 rfl hl (by decide) rfl (fun ls hl => ?_)
    refine j_iconst (v := 0) C dL_law_16 (by decide) ?_
    refine j_istore_n (lv2 := [(3, .int 0), (2, .ref (ad3 56)), (1, .ref (ad1 0)), (0, .ref b)]) C dL_law_17 rfl hl (by decide) rfl (fun ls hl => ?_)
    have e1 : ad4 (fX 55) = ad1 0 := (q4 0 (by omega)).trans ((q3 0 (by omega)).trans (q2 0 (by omega)))
    have e2 : ad4 (fM 0) = ad3 56 := q4 56 (by omega)
    refine j_two fX fM (sw_x cy ad4) (sw_m cy ad4) (fun k hk => ⟨(st_kx k hk).1, rfl⟩) (fun k hk => ⟨(st_km k hk).1, rfl⟩) (fun i j hi hj => st_ap i hi j hj) ?_
    refine law_loop C X hend 65 0 _ _ 0 (fun k => ad4 (fX k)) tk6 (fun k => ad4 (fM k)) VX VM ls rel_z (by omega) (by omega) (Nat.le_of_ble_eq_true rfl) (Nat.le_of_ble_eq_true rfl) ?_
    rw [e1, e2]
    exact lv_sub hl [3, 2, 1, 0] rfl
  exact K s.heap [] (fun k q h => by simp [gW] at h) ⟨fun i j a d h => by simp [gW] at h, fun k q h => by simp [gW] at h⟩ va_S.rf
