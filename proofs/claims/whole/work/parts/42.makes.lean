section JM
variable {p : Program} {l : Launch} {e : Env} {R : Room} {s : State} {m : MethodId} {args : Array Value} {below : List Frame} {meth : Method} {c : Code} {A : Nat → Prop} {D : va_G} {cy : Nat → ClassId} {cells slots : Nat} {Q : State → Prop} {N : Nat} {kd ln ad : Nat → Nat} {rf : Nat → Nat → Option Nat} {V : Vt} {own : String} {cc : ByteArray} {nL : Nat} {ret : Option FieldType} {pc : Nat} {ls : Array Slot} {rest st0 : List Value} {post : Option Value → Sh → Vt → Prop}
theorem j_aastT (C : Cx p s m args meth c A D cy own cc nL ret) {k k2 a b n j : Nat} {i : Int32} (hj : i.toNatClampNeg = j) (hk : k < N) (hK : kd k = 15) (hn : ln k = n) (hin : vp_in i n) (ha : ad k = a) (hk2 : k2 < N) (hK2 : isT (kd k2)) (hb : ad k2 = b) (d : decode cc pc = .ok (.aastore, 1)) (kk : J p l e R s m args below meth c A D cy cells slots Q (N, kd, uR rf k j k2, ln, ad) V (F0 m (pc + 1) ls rest)) : J p l e R s m args below meth c A D cy cells slots Q (N, kd, rf, ln, ad) V (F0 m pc ls (.ref b :: .int i :: .ref a :: rest)) := by
  intro H locs hP hD hS
  subst ha
  subst hb
  subst hj
  have hw := gW_get (cy := cy) (σ := (N, kd, rf, ln, ad)) (V := V) (k := k) hk
  rw [gE_ref54 (ci := 15) hK (by decide) hn] at hw
  have hv := gW_get (cy := cy) (σ := (N, kd, rf, ln, ad)) (V := V) (k := k2) hk2
  have hz := gW_setR (cy := cy) (σ := (N, kd, rf, ln, ad)) (V := V) (k := k) (rf2 := uR rf k i.toNatClampNeg k2) (x := .inl (cy 15, n, .inr (.inr (.inr (.inr (va_up (fun i => (rf k i).map ad) i.toNatClampNeg (some (ad k2)))))))) hk (by
    rw [gE_ref54 (ci := 15) hK (by decide) hn]
    have e : (fun j => (uR rf k i.toNatClampNeg k2 k j).map ad) = va_up (fun i => (rf k i).map ad) i.toNatClampNeg (some (ad k2)) := by
      funext j
      by_cases q : j = i.toNatClampNeg
      · simp [uR, va_up, q]
      · simp [uR, va_up, q]
    rw [← e]) (fun j hj => by funext z; simp [uR, hj])
  have hn := C.2.2.2.2.2.2.1
  rcases hK2 with h | h | h
  · rw [gE_obj (ci := 6) h (by decide)] at hv
    refine va_astq C.1 C.2.1 C.2.2.2.2.2.1 hP hD hS k 2 k2 6 hw (r := (RX6, TX6, 2)) rfl hv rfl hin d (fun H1 locs1 hP1 hD1 hS1 => ?_)
    rw [hz] at hP1 hD1
    exact kk H1 locs1 hP1 hD1 hS1
  · rw [gE_obj (ci := 3) h (by decide)] at hv
    refine va_astqO C.1 C.2.1 C.2.2.2.2.2.1 hP hD hS k 2 k2 3 (E := RX6) hw (r := (RX3, TX3, 2)) rfl hn.2.2.1.2.1 hv rfl hin d (fun H1 locs1 hP1 hD1 hS1 => ?_)
    rw [hz] at hP1 hD1
    exact kk H1 locs1 hP1 hD1 hS1
  · rw [gE_obj (ci := 8) h (by decide)] at hv
    refine va_astqO C.1 C.2.1 C.2.2.2.2.2.1 hP hD hS k 2 k2 8 (E := RX6) hw (r := (RX8, TX8, 2)) rfl hn.2.2.1.2.2 hv rfl hin d (fun H1 locs1 hP1 hD1 hS1 => ?_)
    rw [hz] at hP1 hD1
    exact kk H1 locs1 hP1 hD1 hS1
theorem j_aastN (C : Cx p s m args meth c A D cy own cc nL ret) {k a n j : Nat} {i : Int32} (hj : i.toNatClampNeg = j) (hk : k < N) (hK : kd k = 15) (hn : ln k = n) (hin : vp_in i n) (ha : ad k = a) (d : decode cc pc = .ok (.aastore, 1)) (kk : J p l e R s m args below meth c A D cy cells slots Q (N, kd, uR0 rf k j, ln, ad) V (F0 m (pc + 1) ls rest)) : J p l e R s m args below meth c A D cy cells slots Q (N, kd, rf, ln, ad) V (F0 m pc ls (.null :: .int i :: .ref a :: rest)) := by
  intro H locs hP hD hS
  subst ha
  subst hj
  have hw := gW_get (cy := cy) (σ := (N, kd, rf, ln, ad)) (V := V) (k := k) hk
  rw [gE_ref54 (ci := 15) hK (by decide) hn] at hw
  have hz := gW_setR (cy := cy) (σ := (N, kd, rf, ln, ad)) (V := V) (k := k) (rf2 := uR0 rf k i.toNatClampNeg) (x := .inl (cy 15, n, .inr (.inr (.inr (.inr (va_up (fun i => (rf k i).map ad) i.toNatClampNeg none)))))) hk (by
    rw [gE_ref54 (ci := 15) hK (by decide) hn]
    have e : (fun j => (uR0 rf k i.toNatClampNeg k j).map ad) = va_up (fun i => (rf k i).map ad) i.toNatClampNeg none := by
      funext j
      by_cases q : j = i.toNatClampNeg
      · simp [uR0, va_up, q]
      · simp [uR0, va_up, q]
    rw [← e]) (fun j hj => by funext z; simp [uR0, hj])
  refine va_astqN C.1 C.2.1 C.2.2.2.2.2.1 hP hD hS k 2 (C := RX6) hw rfl hin d (fun H1 locs1 hP1 hD1 hS1 => ?_)
  rw [hz] at hP1 hD1
  exact kk H1 locs1 hP1 hD1 hS1
theorem j_getIa (C : Cx p s m args meth c A D cy own cc nL ret) {k i idx ci a : Nat} (F : Fld own idx ci i false) (hk : k < N) (hK : kd k = ci) (ha : ad k = a) (d : decode cc pc = .ok (.getfield idx, 3)) (kk : J p l e R s m args below meth c A D cy cells slots Q (N, kd, rf, ln, ad) V (F0 m (pc + 3) ls (.int (V k i) :: rest))) : J p l e R s m args below meth c A D cy cells slots Q (N, kd, rf, ln, ad) V (F0 m pc ls (.ref a :: rest)) := by
  subst ha
  exact j_getI (σ := (N, kd, rf, ln, ad)) C F hk hK d kk
def aPost (N M : Nat) (kd ln ad : Nat → Nat) (rf2 : Nat → Nat → Option Nat) (W : Vt) : Option Value → Sh → Vt → Prop := fun r σ2 V2 => ∃ ad', (∀ j, j < N → ad' j = ad j) ∧ r = some (.ref (ad' N)) ∧ σ2 = (M, kd, rf2, ln, ad') ∧ V2 = W
theorem kAn {M mc ms : Nat} {rf2 : Nat → Nat → Option Nat} {W : Vt} (h : ∀ ad' : Nat → Nat, (∀ j, j < N → ad' j = ad j) → J p l e R s m args below meth c A D cy (cells + mc) (slots + ms) Q (M, kd, rf2, ln, ad') W (F0 m (pc + 3) ls (.ref (ad' N) :: rest))) : ∀ (r : Option Value) (σ2 : Sh) (V2 : Vt), aPost N M kd ln ad rf2 W r σ2 V2 → J p l e R s m args below meth c A D cy (cells + mc) (slots + ms) Q σ2 V2 (F0 m (pc + 3) ls (r.toList ++ rest)) := by
  rintro r σ2 V2 ⟨ad', h', rfl, rfl, rfl⟩
  exact h ad' h'
theorem kIs {mc ms : Nat} {post : Int32 → Prop} (h : ∀ x : Int32, post x → J p l e R s m args below meth c A D cy (cells + mc) (slots + ms) Q (N, kd, rf, ln, ad) V (F0 m (pc + 3) ls (.int x :: rest))) : ∀ (r : Option Value) (σ2 : Sh) (V2 : Vt), (σ2 = (N, kd, rf, ln, ad) ∧ rI (fun x V2 => V2 = V ∧ post x) r V2) → J p l e R s m args below meth c A D cy (cells + mc) (slots + ms) Q σ2 V2 (F0 m (pc + 3) ls (r.toList ++ rest)) := by
  rintro r σ2 V2 ⟨rfl, x, rfl, rfl, hp⟩
  exact h x hp
end JM
abbrev rm_X6_init : Room := { frames := 1, cells := 0, slots := 0, locals := 20 }
set_option maxHeartbeats 4000000 in
set_option maxRecDepth 100000 in
theorem k_X6_init (l : Launch) (N : Nat) (kd ln ad : Nat → Nat) (rf : Nat → Nat → Option Nat) (V : Vt) (k : Nat) (hk : k < N) (hT : isT (kd k)) (z0 z1 : Int32) : CtG l yX6_init cX6_init 3 none rm_X6_init 0 0 (N, kd, rf, ln, ad) V [.ref (ad k), .int z0, .int z1] (iPost N N kd ln ad rf (up2 (up2 V k 0 z0) k 1 z1)) := by
  refine CtI_of (by decide) (Nat.le_of_ble_eq_true rfl) ?_
  intro p e s m below meth c A D cy ls hin C hl
  have hl : lv_has ls 3 [(0, .ref (ad k)), (1, .int z0), (2, .int z1)] := hl
  refine j_aload_n C dX6_init_0 rfl (lv_at hl 0 rfl) ?_
  refine j_obj C wl_RX6_3 hl.1 (Nat.le_of_ble_eq_true rfl) (Nat.le_of_ble_eq_true rfl) dX6_init_1 ?_
  rcases hT with h | h | h
  · refine j_aload_n C dX6_init_4 rfl (lv_at hl 0 rfl) ?_
    refine j_iload_n C dX6_init_5 rfl (lv_at hl 1 rfl) ?_
    refine j_putIF (k := k) C hin f_RX6_9_6 pf_6_0 hk h rfl dX6_init_6 ?_
    refine j_aload_n C dX6_init_9 rfl (lv_at hl 0 rfl) ?_
    refine j_iload_n C dX6_init_10 rfl (lv_at hl 2 rfl) ?_
    refine j_putIa (k := k) C f_RX6_15_6 p_6_1 hk h rfl dX6_init_11 ?_
    exact j_vret C ⟨rfl, ad, fun j hj => rfl, rfl, rfl⟩ dX6_init_14
  · refine j_aload_n C dX6_init_4 rfl (lv_at hl 0 rfl) ?_
    refine j_iload_n C dX6_init_5 rfl (lv_at hl 1 rfl) ?_
    refine j_putIF (k := k) C hin f_RX6_9_3 pf_3_0 hk h rfl dX6_init_6 ?_
    refine j_aload_n C dX6_init_9 rfl (lv_at hl 0 rfl) ?_
    refine j_iload_n C dX6_init_10 rfl (lv_at hl 2 rfl) ?_
    refine j_putIa (k := k) C f_RX6_15_3 p_3_1 hk h rfl dX6_init_11 ?_
    exact j_vret C ⟨rfl, ad, fun j hj => rfl, rfl, rfl⟩ dX6_init_14
  · refine j_aload_n C dX6_init_4 rfl (lv_at hl 0 rfl) ?_
    refine j_iload_n C dX6_init_5 rfl (lv_at hl 1 rfl) ?_
    refine j_putIF (k := k) C hin f_RX6_9_8 pf_8_0 hk h rfl dX6_init_6 ?_
    refine j_aload_n C dX6_init_9 rfl (lv_at hl 0 rfl) ?_
    refine j_iload_n C dX6_init_10 rfl (lv_at hl 2 rfl) ?_
    refine j_putIa (k := k) C f_RX6_15_8 p_8_1 hk h rfl dX6_init_11 ?_
    exact j_vret C ⟨rfl, ad, fun j hj => rfl, rfl, rfl⟩ dX6_init_14
abbrev rm_X3_init : Room := { frames := 2, cells := 0, slots := 0, locals := 42 }
set_option maxHeartbeats 4000000 in
set_option maxRecDepth 100000 in
theorem k_X3_init (l : Launch) (N : Nat) (kd ln ad : Nat → Nat) (rf : Nat → Nat → Option Nat) (V : Vt) (k : Nat) (hk : k < N) (hT : isT (kd k)) (z0 z1 : Int32) : CtG l yX3_init cX3_init 3 none rm_X3_init 0 0 (N, kd, rf, ln, ad) V [.ref (ad k), .int z0, .int z1] (iPost N N kd ln ad rf (up2 (up2 V k 0 z0) k 1 z1)) := by
  refine CtI_of (by decide) (Nat.le_of_ble_eq_true rfl) ?_
  intro p e s m below meth c A D cy ls hin C hl
  have hl : lv_has ls 3 [(0, .ref (ad k)), (1, .int z0), (2, .int z1)] := hl
  refine j_aload_n C dX3_init_0 rfl (lv_at hl 0 rfl) ?_
  refine j_iload_n C dX3_init_1 rfl (lv_at hl 1 rfl) ?_
  refine j_iload_n C dX3_init_2 rfl (lv_at hl 2 rfl) ?_
  refine j_callI C [.int z0, .int z1] [] (k_X6_init l N kd ln ad rf V k hk hT z0 z1) in_RX3_3 ⟨rfl, rfl, Nat.le_of_ble_eq_true rfl, Nat.le_of_ble_eq_true rfl⟩ rfl hl.1 rfl (Nat.le_of_ble_eq_true rfl) ⟨Nat.le_of_ble_eq_true rfl, Nat.le_of_ble_eq_true rfl⟩ dX3_init_3 (kIn fun ad1 h_1_ => ?_)
  exact j_vret C ⟨rfl, ad1, h_1_, rfl, rfl⟩ dX3_init_6
abbrev rm_X8_init : Room := { frames := 3, cells := 0, slots := 0, locals := 64 }
set_option maxHeartbeats 4000000 in
set_option maxRecDepth 100000 in
theorem k_X8_init (l : Launch) (N : Nat) (kd ln ad : Nat → Nat) (rf : Nat → Nat → Option Nat) (V : Vt) (k : Nat) (hk : k < N) (hT : isT (kd k)) (z0 z1 : Int32) : CtG l yX8_init cX8_init 3 none rm_X8_init 0 0 (N, kd, rf, ln, ad) V [.ref (ad k), .int z0, .int z1] (iPost N N kd ln ad rf (up2 (up2 V k 0 z0) k 1 z1)) := by
  refine CtI_of (by decide) (Nat.le_of_ble_eq_true rfl) ?_
  intro p e s m below meth c A D cy ls hin C hl
  have hl : lv_has ls 3 [(0, .ref (ad k)), (1, .int z0), (2, .int z1)] := hl
  refine j_aload_n C dX8_init_0 rfl (lv_at hl 0 rfl) ?_
  refine j_iload_n C dX8_init_1 rfl (lv_at hl 1 rfl) ?_
  refine j_iload_n C dX8_init_2 rfl (lv_at hl 2 rfl) ?_
  refine j_callI C [.int z0, .int z1] [] (k_X3_init l N kd ln ad rf V k hk hT z0 z1) in_RX8_3 ⟨rfl, rfl, Nat.le_of_ble_eq_true rfl, Nat.le_of_ble_eq_true rfl⟩ rfl hl.1 rfl (Nat.le_of_ble_eq_true rfl) ⟨Nat.le_of_ble_eq_true rfl, Nat.le_of_ble_eq_true rfl⟩ dX8_init_3 (kIn fun ad1 h_1_ => ?_)
  exact j_vret C ⟨rfl, ad1, h_1_, rfl, rfl⟩ dX8_init_6
/-- the kind of a thrower by the letter's number -/
def knd (z : Int32) : Nat := if z = 1 then 3 else if z = 2 then 8 else 6
theorem knd_T (z : Int32) : isT (knd z) := by
  unfold knd isT
  split
  · exact Or.inr (Or.inl rfl)
  · split
    · exact Or.inr (Or.inr rfl)
    · exact Or.inl rfl
abbrev rm_X11_newThrower : Room := { frames := 4, cells := 1, slots := 2, locals := 86 }
set_option maxHeartbeats 4000000 in
set_option maxRecDepth 100000 in
theorem k_X11_newThrower (l : Launch) (N : Nat) (kd ln ad : Nat → Nat) (rf : Nat → Nat → Option Nat) (V : Vt) (z0 z1 z2 : Int32) (hkn : kd N = knd z0) (hF : Fre N rf V) : CtG l yX11_newThrower cX11_newThrower 3 (some (.object "QuoitFeast$Right")) rm_X11_newThrower 1 2 (N, kd, rf, ln, ad) V [.int z0, .int z1, .int z2] (aPost N (N + 1) kd ln ad rf (up2 (up2 V N 0 z1) N 1 z2)) := by
  refine CtG_of (by decide) (Nat.le_of_ble_eq_true rfl) ?_
  intro p e s m below meth c A D cy ls C hl
  have hl : lv_has ls 3 [(0, .int z0), (1, .int z1), (2, .int z2)] := hl
  refine j_iload_n C dX11_newThrower_0 rfl (lv_at hl 0 rfl) ?_
  by_cases s_1_ : z0 = 1
  · refine j_lookup (off := 27) (tgt := 28) C dX11_newThrower_1 (by decide) (by rw [s_1_]; rfl) (by decide) ?_
    refine j_new (N := N) C nw_RX11_288 (by rw [hkn, s_1_]; rfl) hF (Nat.le_of_ble_eq_true rfl) (Nat.le_of_ble_eq_true rfl) dX11_newThrower_28 (fun ad1 h_1_ => ?_)
    refine j_dup C dX11_newThrower_31 rfl ?_
    refine j_iload_n C dX11_newThrower_32 rfl (lv_at hl 1 rfl) ?_
    refine j_iload_n C dX11_newThrower_33 rfl (lv_at hl 2 rfl) ?_
    refine j_callI C [.int z1, .int z2] [.ref (ad1 N)] (k_X3_init l (N + 1) kd ln ad1 rf V N (by omega) (by rw [hkn]; exact knd_T z0) z1 z2) in_RX11_290 ⟨rfl, rfl, Nat.le_of_ble_eq_true rfl, Nat.le_of_ble_eq_true rfl⟩ rfl hl.1 rfl (Nat.le_of_ble_eq_true rfl) ⟨Nat.le_of_ble_eq_true rfl, Nat.le_of_ble_eq_true rfl⟩ dX11_newThrower_34 (kIn fun ad2 h_2_ => ?_)
    exact j_aret C (Or.inr ⟨_, rfl⟩) ⟨ad2, fun j hj => (h_2_ j (by omega)).trans (h_1_ j hj), by rw [h_2_ N (by omega)], rfl, rfl⟩ dX11_newThrower_37
  · by_cases s_2_ : z0 = 2
    · refine j_lookup (off := 37) (tgt := 38) C dX11_newThrower_1 (by decide) (by rw [s_2_]; rfl) (by decide) ?_
      refine j_new (N := N) C nw_RX11_292 (by rw [hkn, s_2_]; rfl) hF (Nat.le_of_ble_eq_true rfl) (Nat.le_of_ble_eq_true rfl) dX11_newThrower_38 (fun ad1 h_1_ => ?_)
      refine j_dup C dX11_newThrower_41 rfl ?_
      refine j_iload_n C dX11_newThrower_42 rfl (lv_at hl 1 rfl) ?_
      refine j_iload_n C dX11_newThrower_43 rfl (lv_at hl 2 rfl) ?_
      refine j_callI C [.int z1, .int z2] [.ref (ad1 N)] (k_X8_init l (N + 1) kd ln ad1 rf V N (by omega) (by rw [hkn]; exact knd_T z0) z1 z2) in_RX11_294 ⟨rfl, rfl, Nat.le_of_ble_eq_true rfl, Nat.le_of_ble_eq_true rfl⟩ rfl hl.1 rfl (Nat.le_of_ble_eq_true rfl) ⟨Nat.le_of_ble_eq_true rfl, Nat.le_of_ble_eq_true rfl⟩ dX11_newThrower_44 (kIn fun ad2 h_2_ => ?_)
      exact j_aret C (Or.inr ⟨_, rfl⟩) ⟨ad2, fun j hj => (h_2_ j (by omega)).trans (h_1_ j hj), by rw [h_2_ N (by omega)], rfl, rfl⟩ dX11_newThrower_47
    · refine j_lookup (off := 47) (tgt := 48) C dX11_newThrower_1 (by decide) (by simp only []; rw [Op.lookupswitch.offset_cons, if_neg (show ¬ (1 : Int) = (z0).toInt from ne_toInt s_1_), Op.lookupswitch.offset_cons, if_neg (show ¬ (2 : Int) = (z0).toInt from ne_toInt s_2_), Op.lookupswitch.offset_nil]) (by decide) ?_
      refine j_new (N := N) C nw_RX11_18 (by rw [hkn]; unfold knd; rw [if_neg s_1_, if_neg s_2_]) hF (Nat.le_of_ble_eq_true rfl) (Nat.le_of_ble_eq_true rfl) dX11_newThrower_48 (fun ad1 h_1_ => ?_)
      refine j_dup C dX11_newThrower_51 rfl ?_
      refine j_iload_n C dX11_newThrower_52 rfl (lv_at hl 1 rfl) ?_
      refine j_iload_n C dX11_newThrower_53 rfl (lv_at hl 2 rfl) ?_
      refine j_callI C [.int z1, .int z2] [.ref (ad1 N)] (k_X6_init l (N + 1) kd ln ad1 rf V N (by omega) (by rw [hkn]; exact knd_T z0) z1 z2) in_RX11_295 ⟨rfl, rfl, Nat.le_of_ble_eq_true rfl, Nat.le_of_ble_eq_true rfl⟩ rfl hl.1 rfl (Nat.le_of_ble_eq_true rfl) ⟨Nat.le_of_ble_eq_true rfl, Nat.le_of_ble_eq_true rfl⟩ dX11_newThrower_54 (kIn fun ad2 h_2_ => ?_)
      exact j_aret C (Or.inr ⟨_, rfl⟩) ⟨ad2, fun j hj => (h_2_ j (by omega)).trans (h_1_ j hj), by rw [h_2_ N (by omega)], rfl, rfl⟩ dX11_newThrower_57
set_option maxHeartbeats 4000000 in
set_option maxRecDepth 100000 in
theorem kg_X9_kindAt (l : Launch) (σ : Sh) (V : Vt) (h_43_ : 43 < σ.1) (k43 : σ.2.1 43 = 9) (r46 : σ.2.2.1 43 6 = some 46) (h_46_ : 46 < σ.1) (k46 : σ.2.1 46 = 13) (l46 : σ.2.2.2.1 46 = 5) (z : Int32) : Ct l yX9_kindAt cX9_kindAt 2 (some .int) rm_X9_kindAt σ V [.ref (σ.2.2.2.2 (43)), .int (z)] (rI fun x V2 => V2 = V ∧ x = if ¬ z < 0 ∧ z < nI 5 then V 46 z.toNatClampNeg else 0) := by
  refine Ct_of (by decide) (Nat.le_of_ble_eq_true rfl) ?_
  intro p e s m below meth c A D cy ls C hl
  have hl : lv_has ls 2 [(0, .ref (σ.2.2.2.2 (43))), (1, .int (z))] := hl
  refine j_iload_n C dX9_kindAt_0 rfl (lv_at hl 1 rfl) ?_
  refine j_if_lt (tgt := 13) C dX9_kindAt_1 (by decide) (fun c_1_ => ?_) (fun c_1_ => ?_)
  · have n_1_ := Int32.not_le.mpr c_1_
    refine j_iconst (v := 0) C dX9_kindAt_13 (by decide) ?_
    refine j_goto (tgt := 23) C dX9_kindAt_14 (by decide) ?_
    refine j_iret C ⟨rfl, _, rfl, ?_⟩ dX9_kindAt_23
    refine ⟨rfl, ?_⟩
    rw [if_neg (fun q => by first | exact q.1 (by assumption) | exact absurd q.2 (by assumption))]
  · have n_1_ := Int32.not_lt.mp c_1_
    refine j_iload_n C dX9_kindAt_4 rfl (lv_at hl 1 rfl) ?_
    refine j_aload_n C dX9_kindAt_5 rfl (lv_at hl 0 rfl) ?_
    refine j_getR (k := 43) (k2 := 46) C (f_RX9_18_9) (h_43_) (k43) (r46) dX9_kindAt_6 ?_
    refine j_alen (k := 46) (n := 5) C (h_46_) (Or.inl (k46)) (l46) dX9_kindAt_9 ?_
    refine j_icmp_lt (tgt := 17) C dX9_kindAt_10 (by decide) (fun c_2_ => ?_) (fun c_2_ => ?_)
    · have n_2_ := Int32.not_le.mpr c_2_
      refine j_aload_n C dX9_kindAt_17 rfl (lv_at hl 0 rfl) ?_
      refine j_getR (k := 43) (k2 := 46) C (f_RX9_18_9) (h_43_) (k43) (r46) dX9_kindAt_18 ?_
      refine j_iload_n C dX9_kindAt_21 rfl (lv_at hl 1 rfl) ?_
      refine j_iald (k := 46) (n := 5) C (h_46_) (k46) (l46) (inR (by assumption) (by assumption) (by decide)) dX9_kindAt_22 ?_
      refine j_iret C ⟨rfl, _, rfl, ?_⟩ dX9_kindAt_23
      refine ⟨rfl, ?_⟩
      rw [if_pos ⟨by assumption, by assumption⟩]
    · have n_2_ := Int32.not_lt.mp c_2_
      refine j_iconst (v := 0) C dX9_kindAt_13 (by decide) ?_
      refine j_goto (tgt := 23) C dX9_kindAt_14 (by decide) ?_
      refine j_iret C ⟨rfl, _, rfl, ?_⟩ dX9_kindAt_23
      refine ⟨rfl, ?_⟩
      rw [if_neg (fun q => by first | exact q.1 (by assumption) | exact absurd q.2 (by assumption))]
set_option maxHeartbeats 4000000 in
set_option maxRecDepth 100000 in
theorem kg_X9_armAt (l : Launch) (σ : Sh) (V : Vt) (h_43_ : 43 < σ.1) (k43 : σ.2.1 43 = 9) (r46 : σ.2.2.1 43 7 = some 47) (h_46_ : 47 < σ.1) (k46 : σ.2.1 47 = 13) (l46 : σ.2.2.2.1 47 = 5) (z : Int32) : Ct l yX9_armAt cX9_armAt 2 (some .int) rm_X9_armAt σ V [.ref (σ.2.2.2.2 (43)), .int (z)] (rI fun x V2 => V2 = V ∧ x = if ¬ z < 0 ∧ z < nI 5 then V 47 z.toNatClampNeg else 1) := by
  refine Ct_of (by decide) (Nat.le_of_ble_eq_true rfl) ?_
  intro p e s m below meth c A D cy ls C hl
  have hl : lv_has ls 2 [(0, .ref (σ.2.2.2.2 (43))), (1, .int (z))] := hl
  refine j_iload_n C dX9_armAt_0 rfl (lv_at hl 1 rfl) ?_
  refine j_if_lt (tgt := 13) C dX9_armAt_1 (by decide) (fun c_1_ => ?_) (fun c_1_ => ?_)
  · have n_1_ := Int32.not_le.mpr c_1_
    refine j_iconst (v := 1) C dX9_armAt_13 (by decide) ?_
    refine j_goto (tgt := 23) C dX9_armAt_14 (by decide) ?_
    refine j_iret C ⟨rfl, _, rfl, ?_⟩ dX9_armAt_23
    refine ⟨rfl, ?_⟩
    rw [if_neg (fun q => by first | exact q.1 (by assumption) | exact absurd q.2 (by assumption))]
  · have n_1_ := Int32.not_lt.mp c_1_
    refine j_iload_n C dX9_armAt_4 rfl (lv_at hl 1 rfl) ?_
    refine j_aload_n C dX9_armAt_5 rfl (lv_at hl 0 rfl) ?_
    refine j_getR (k := 43) (k2 := 47) C (f_RX9_21_9) (h_43_) (k43) (r46) dX9_armAt_6 ?_
    refine j_alen (k := 47) (n := 5) C (h_46_) (Or.inl (k46)) (l46) dX9_armAt_9 ?_
    refine j_icmp_lt (tgt := 17) C dX9_armAt_10 (by decide) (fun c_2_ => ?_) (fun c_2_ => ?_)
    · have n_2_ := Int32.not_le.mpr c_2_
      refine j_aload_n C dX9_armAt_17 rfl (lv_at hl 0 rfl) ?_
      refine j_getR (k := 43) (k2 := 47) C (f_RX9_21_9) (h_43_) (k43) (r46) dX9_armAt_18 ?_
      refine j_iload_n C dX9_armAt_21 rfl (lv_at hl 1 rfl) ?_
      refine j_iald (k := 47) (n := 5) C (h_46_) (k46) (l46) (inR (by assumption) (by assumption) (by decide)) dX9_armAt_22 ?_
      refine j_iret C ⟨rfl, _, rfl, ?_⟩ dX9_armAt_23
      refine ⟨rfl, ?_⟩
      rw [if_pos ⟨by assumption, by assumption⟩]
    · have n_2_ := Int32.not_lt.mp c_2_
      refine j_iconst (v := 1) C dX9_armAt_13 (by decide) ?_
      refine j_goto (tgt := 23) C dX9_armAt_14 (by decide) ?_
      refine j_iret C ⟨rfl, _, rfl, ?_⟩ dX9_armAt_23
      refine ⟨rfl, ?_⟩
      rw [if_neg (fun q => by first | exact q.1 (by assumption) | exact absurd q.2 (by assumption))]
