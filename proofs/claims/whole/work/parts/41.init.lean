theorem nw_RL_7 : Nwo RL 7 11 10 := ⟨_, tyX11, rfl, rfl, inW11, tyX11_ok, wl_RL_7_c, wk_RX11, wz_RX11, by decide +kernel⟩
theorem nw_RL_10 : Nwo RL 10 12 38 := ⟨_, tyX12, rfl, rfl, inW12, tyX12_ok, wl_RL_10_c, wk_RX12, wz_RX12, by decide +kernel⟩
theorem nw_RX0_9 : Nwo RX0 9 2 5 := ⟨_, tyX2, rfl, rfl, inW2, tyX2_ok, wl_RX0_9_c, wk_RX2, wz_RX2, by decide +kernel⟩
theorem nw_RX1_9 : Nwo RX1 9 0 3 := ⟨_, tyX0, rfl, rfl, inW0, tyX0_ok, wl_RX1_9_c, wk_RX0, wz_RX0, by decide +kernel⟩
theorem nw_RX11_9 : Nwo RX11 9 0 3 := ⟨_, tyX0, rfl, rfl, inW0, tyX0_ok, wl_RX11_9_c, wk_RX0, wz_RX0, by decide +kernel⟩
theorem nw_RX11_18 : Nwo RX11 18 6 2 := ⟨_, tyX6, rfl, rfl, inW6, tyX6_ok, wl_RX11_18_c, wk_RX6, wz_RX6, by decide +kernel⟩
theorem nw_RX11_24 : Nwo RX11 24 5 4 := ⟨_, tyX5, rfl, rfl, inW5, tyX5_ok, wl_RX11_24_c, wk_RX5, wz_RX5, by decide +kernel⟩
theorem nw_RX11_31 : Nwo RX11 31 7 3 := ⟨_, tyX7, rfl, rfl, inW7, tyX7_ok, wl_RX11_31_c, wk_RX7, wz_RX7, by decide +kernel⟩
theorem nw_RX11_37 : Nwo RX11 37 10 1 := ⟨_, tyX10, rfl, rfl, inW10, tyX10_ok, wl_RX11_37_c, wk_RX10, wz_RX10, by decide +kernel⟩
theorem nw_RX11_44 : Nwo RX11 44 9 8 := ⟨_, tyX9, rfl, rfl, inW9, tyX9_ok, wl_RX11_44_c, wk_RX9, wz_RX9, by decide +kernel⟩
theorem nw_RX11_51 : Nwo RX11 51 1 4 := ⟨_, tyX1, rfl, rfl, inW1, tyX1_ok, wl_RX11_51_c, wk_RX1, wz_RX1, by decide +kernel⟩
theorem nw_RX11_58 : Nwo RX11 58 4 7 := ⟨_, tyX4, rfl, rfl, inW4, tyX4_ok, wl_RX11_58_c, wk_RX4, wz_RX4, by decide +kernel⟩
theorem nw_RX11_288 : Nwo RX11 288 3 2 := ⟨_, tyX3, rfl, rfl, inW3, tyX3_ok, wl_RX11_288_c, wk_RX3, wz_RX3, by decide +kernel⟩
theorem nw_RX11_292 : Nwo RX11 292 8 2 := ⟨_, tyX8, rfl, rfl, inW8, tyX8_ok, wl_RX11_292_c, wk_RX8, wz_RX8, by decide +kernel⟩
theorem in_RX0_17 : InN RX0 17 yX2_init RX11 cX2_init 1 0 := ⟨wz_RX2, by decide +kernel, wi_X2_init, wc_X2_init, rfl, by decide +kernel⟩
theorem in_RX11_26 : InN RX11 26 yX5_init RX11 cX5_init 1 0 := ⟨wz_RX5, by decide +kernel, wi_X5_init, wc_X5_init, rfl, by decide +kernel⟩
theorem in_RX11_39 : InN RX11 39 yX10_init RX11 cX10_init 1 0 := ⟨wz_RX10, by decide +kernel, wi_X10_init, wc_X10_init, rfl, by decide +kernel⟩
theorem in_RX11_46 : InN RX11 46 yX9_init RX11 cX9_init 1 0 := ⟨wz_RX9, by decide +kernel, wi_X9_init, wc_X9_init, rfl, by decide +kernel⟩
theorem in_RX11_53 : InN RX11 53 yX1_init RX11 cX1_init 1 0 := ⟨wz_RX1, by decide +kernel, wi_X1_init, wc_X1_init, rfl, by decide +kernel⟩
theorem in_RX11_60 : InN RX11 60 yX4_init RX11 cX4_init 1 0 := ⟨wz_RX4, by decide +kernel, wi_X4_init, wc_X4_init, rfl, by decide +kernel⟩
theorem in_RX11_65 : InN RX11 65 yX7_init RX11 cX7_init 1 0 := ⟨wz_RX7, by decide +kernel, wi_X7_init, wc_X7_init, rfl, by decide +kernel⟩
theorem in_RL_9 : Ini RL 9 yX11_init cX11_init 2 0 := ⟨wz_RX11, wl_RL_9, wi_X11_init, wc_X11_init, rfl, by decide +kernel⟩
theorem in_RL_12 : Ini RL 12 yX12_init cX12_init 1 0 := ⟨wz_RX12, wl_RL_12, wi_X12_init, wc_X12_init, rfl, by decide +kernel⟩
theorem in_RX1_11 : Ini RX1 11 yX0_init cX0_init 2 0 := ⟨wz_RX0, wl_RX1_11, wi_X0_init, wc_X0_init, rfl, by decide +kernel⟩
theorem in_RX11_11 : Ini RX11 11 yX0_init cX0_init 2 0 := ⟨wz_RX0, wl_RX11_11, wi_X0_init, wc_X0_init, rfl, by decide +kernel⟩
theorem in_RX11_290 : Ini RX11 290 yX3_init cX3_init 3 2 := ⟨wz_RX3, wl_RX11_290, wi_X3_init, wc_X3_init, rfl, by decide +kernel⟩
theorem in_RX11_294 : Ini RX11 294 yX8_init cX8_init 3 2 := ⟨wz_RX8, wl_RX11_294, wi_X8_init, wc_X8_init, rfl, by decide +kernel⟩
theorem in_RX11_295 : Ini RX11 295 yX6_init cX6_init 3 2 := ⟨wz_RX6, wl_RX11_295, wi_X6_init, wc_X6_init, rfl, by decide +kernel⟩
theorem in_RX3_3 : Ini RX3 3 yX6_init cX6_init 3 2 := ⟨wz_RX6, wl_RX3_3, wi_X6_init, wc_X6_init, rfl, by decide +kernel⟩
theorem in_RX8_3 : Ini RX8 3 yX3_init cX3_init 3 2 := ⟨wz_RX3, wl_RX8_3, wi_X3_init, wc_X3_init, rfl, by decide +kernel⟩
theorem pf_0_2 : Fpf RX0 0 2 (.array (.object "QuoitFeast$Girl")) := ⟨_, tyX0, rfl, tyX0_ok, nmX0, rfl, rfl, by decide +kernel⟩
theorem pf_1_0 : Fpf RX1 1 0 (.object "QuoitFeast$Clay") := ⟨_, tyX1, rfl, tyX1_ok, nmX1, rfl, rfl, by decide +kernel⟩
theorem pf_2_3 : Fpf RX2 2 3 (.array .int) := ⟨_, tyX2, rfl, tyX2_ok, nmX2, rfl, rfl, by decide +kernel⟩
theorem pf_2_4 : Fpf RX2 2 4 (.array .int) := ⟨_, tyX2, rfl, tyX2_ok, nmX2, rfl, rfl, by decide +kernel⟩
theorem pf_3_0 : Fpf RX6 3 0 (.int) := ⟨_, tyX3, rfl, tyX3_ok, nmX3, rfl, rfl, by decide +kernel⟩
theorem pf_4_2 : Fpf RX4 4 2 (.array .int) := ⟨_, tyX4, rfl, tyX4_ok, nmX4, rfl, rfl, by decide +kernel⟩
theorem pf_4_3 : Fpf RX4 4 3 (.array .int) := ⟨_, tyX4, rfl, tyX4_ok, nmX4, rfl, rfl, by decide +kernel⟩
theorem pf_4_4 : Fpf RX4 4 4 (.array .int) := ⟨_, tyX4, rfl, tyX4_ok, nmX4, rfl, rfl, by decide +kernel⟩
theorem pf_4_5 : Fpf RX4 4 5 (.array .int) := ⟨_, tyX4, rfl, tyX4_ok, nmX4, rfl, rfl, by decide +kernel⟩
theorem pf_4_6 : Fpf RX4 4 6 (.array .int) := ⟨_, tyX4, rfl, tyX4_ok, nmX4, rfl, rfl, by decide +kernel⟩
theorem pf_5_1 : Fpf RX5 5 1 (.array .int) := ⟨_, tyX5, rfl, tyX5_ok, nmX5, rfl, rfl, by decide +kernel⟩
theorem pf_5_2 : Fpf RX5 5 2 (.array .int) := ⟨_, tyX5, rfl, tyX5_ok, nmX5, rfl, rfl, by decide +kernel⟩
theorem pf_5_3 : Fpf RX5 5 3 (.array .int) := ⟨_, tyX5, rfl, tyX5_ok, nmX5, rfl, rfl, by decide +kernel⟩
theorem pf_6_0 : Fpf RX6 6 0 (.int) := ⟨_, tyX6, rfl, tyX6_ok, nmX6, rfl, rfl, by decide +kernel⟩
theorem pf_7_2 : Fpf RX7 7 2 (.array .int) := ⟨_, tyX7, rfl, tyX7_ok, nmX7, rfl, rfl, by decide +kernel⟩
theorem pf_8_0 : Fpf RX6 8 0 (.int) := ⟨_, tyX8, rfl, tyX8_ok, nmX8, rfl, rfl, by decide +kernel⟩
theorem pf_9_4 : Fpf RX9 9 4 (.array .int) := ⟨_, tyX9, rfl, tyX9_ok, nmX9, rfl, rfl, by decide +kernel⟩
theorem pf_9_5 : Fpf RX9 9 5 (.array .int) := ⟨_, tyX9, rfl, tyX9_ok, nmX9, rfl, rfl, by decide +kernel⟩
theorem pf_9_6 : Fpf RX9 9 6 (.array .int) := ⟨_, tyX9, rfl, tyX9_ok, nmX9, rfl, rfl, by decide +kernel⟩
theorem pf_9_7 : Fpf RX9 9 7 (.array .int) := ⟨_, tyX9, rfl, tyX9_ok, nmX9, rfl, rfl, by decide +kernel⟩
theorem pf_11_0 : Fpf RX11 11 0 (.object "QuoitFeast$Clay") := ⟨_, tyX11, rfl, tyX11_ok, nmX11, rfl, rfl, by decide +kernel⟩
theorem pf_11_1 : Fpf RX11 11 1 (.array (.object "QuoitFeast$Right")) := ⟨_, tyX11, rfl, tyX11_ok, nmX11, rfl, rfl, by decide +kernel⟩
theorem pf_11_2 : Fpf RX11 11 2 (.object "QuoitFeast$Readings") := ⟨_, tyX11, rfl, tyX11_ok, nmX11, rfl, rfl, by decide +kernel⟩
theorem pf_11_3 : Fpf RX11 11 3 (.array (.object "QuoitFeast$Sheet")) := ⟨_, tyX11, rfl, tyX11_ok, nmX11, rfl, rfl, by decide +kernel⟩
theorem pf_11_4 : Fpf RX11 11 4 (.object "QuoitFeast$Trace") := ⟨_, tyX11, rfl, tyX11_ok, nmX11, rfl, rfl, by decide +kernel⟩
theorem pf_11_5 : Fpf RX11 11 5 (.object "QuoitFeast$Text") := ⟨_, tyX11, rfl, tyX11_ok, nmX11, rfl, rfl, by decide +kernel⟩
theorem pf_11_6 : Fpf RX11 11 6 (.object "QuoitFeast$Feast") := ⟨_, tyX11, rfl, tyX11_ok, nmX11, rfl, rfl, by decide +kernel⟩
theorem pf_11_7 : Fpf RX11 11 7 (.object "QuoitFeast$Pairing") := ⟨_, tyX11, rfl, tyX11_ok, nmX11, rfl, rfl, by decide +kernel⟩
theorem pf_12_2 : Fpf RX12 12 2 (.array .int) := ⟨_, tyX12, rfl, tyX12_ok, nmX12, rfl, rfl, by decide +kernel⟩
theorem pf_12_3 : Fpf RX12 12 3 (.array .int) := ⟨_, tyX12, rfl, tyX12_ok, nmX12, rfl, rfl, by decide +kernel⟩
theorem pf_12_4 : Fpf RX12 12 4 (.array .int) := ⟨_, tyX12, rfl, tyX12_ok, nmX12, rfl, rfl, by decide +kernel⟩
theorem pf_12_8 : Fpf RX12 12 8 (.array .int) := ⟨_, tyX12, rfl, tyX12_ok, nmX12, rfl, rfl, by decide +kernel⟩
theorem pf_12_9 : Fpf RX12 12 9 (.array .int) := ⟨_, tyX12, rfl, tyX12_ok, nmX12, rfl, rfl, by decide +kernel⟩
theorem pf_12_10 : Fpf RX12 12 10 (.array .int) := ⟨_, tyX12, rfl, tyX12_ok, nmX12, rfl, rfl, by decide +kernel⟩
theorem pf_12_11 : Fpf RX12 12 11 (.array .int) := ⟨_, tyX12, rfl, tyX12_ok, nmX12, rfl, rfl, by decide +kernel⟩
theorem pf_12_12 : Fpf RX12 12 12 (.array .int) := ⟨_, tyX12, rfl, tyX12_ok, nmX12, rfl, rfl, by decide +kernel⟩
theorem pf_12_13 : Fpf RX12 12 13 (.array .int) := ⟨_, tyX12, rfl, tyX12_ok, nmX12, rfl, rfl, by decide +kernel⟩
theorem pf_12_14 : Fpf RX12 12 14 (.array .int) := ⟨_, tyX12, rfl, tyX12_ok, nmX12, rfl, rfl, by decide +kernel⟩
theorem pf_12_19 : Fpf RX12 12 19 (.array .int) := ⟨_, tyX12, rfl, tyX12_ok, nmX12, rfl, rfl, by decide +kernel⟩
theorem pf_12_20 : Fpf RX12 12 20 (.array .int) := ⟨_, tyX12, rfl, tyX12_ok, nmX12, rfl, rfl, by decide +kernel⟩
theorem pf_12_22 : Fpf RX12 12 22 (.array .int) := ⟨_, tyX12, rfl, tyX12_ok, nmX12, rfl, rfl, by decide +kernel⟩
theorem pf_12_23 : Fpf RX12 12 23 (.array .int) := ⟨_, tyX12, rfl, tyX12_ok, nmX12, rfl, rfl, by decide +kernel⟩
theorem pf_12_24 : Fpf RX12 12 24 (.array .int) := ⟨_, tyX12, rfl, tyX12_ok, nmX12, rfl, rfl, by decide +kernel⟩
theorem pf_12_27 : Fpf RX12 12 27 (.array .int) := ⟨_, tyX12, rfl, tyX12_ok, nmX12, rfl, rfl, by decide +kernel⟩
theorem pf_12_28 : Fpf RX12 12 28 (.array .int) := ⟨_, tyX12, rfl, tyX12_ok, nmX12, rfl, rfl, by decide +kernel⟩
theorem pf_12_31 : Fpf RX12 12 31 (.array .int) := ⟨_, tyX12, rfl, tyX12_ok, nmX12, rfl, rfl, by decide +kernel⟩
theorem pf_12_32 : Fpf RX12 12 32 (.array .int) := ⟨_, tyX12, rfl, tyX12_ok, nmX12, rfl, rfl, by decide +kernel⟩
theorem pf_12_33 : Fpf RX12 12 33 (.array .int) := ⟨_, tyX12, rfl, tyX12_ok, nmX12, rfl, rfl, by decide +kernel⟩
theorem pf_12_35 : Fpf RX12 12 35 (.array .int) := ⟨_, tyX12, rfl, tyX12_ok, nmX12, rfl, rfl, by decide +kernel⟩
theorem pf_12_36 : Fpf RX12 12 36 (.array .int) := ⟨_, tyX12, rfl, tyX12_ok, nmX12, rfl, rfl, by decide +kernel⟩
theorem pf_12_37 : Fpf RX12 12 37 (.array .int) := ⟨_, tyX12, rfl, tyX12_ok, nmX12, rfl, rfl, by decide +kernel⟩
theorem uR_s (rf : Nat → Nat → Option Nat) (k i k2 : Nat) : uR rf k i k2 k i = some k2 := if_pos ⟨rfl, rfl⟩
theorem uR_o (rf : Nat → Nat → Option Nat) {k i a j : Nat} (k2 : Nat) (h : ¬ (a = k ∧ j = i)) : uR rf k i k2 a j = rf a j := if_neg h
section JK
variable {p : Program} {l : Launch} {e : Env} {R : Room} {s : State} {m : MethodId} {args : Array Value} {below : List Frame} {meth : Method} {c : Code} {A : Nat → Prop} {D : va_G} {cy : Nat → ClassId} {cells slots : Nat} {Q : State → Prop} {N : Nat} {kd ln ad : Nat → Nat} {rf : Nat → Nat → Option Nat} {V : Vt} {own : String} {cc : ByteArray} {nL : Nat} {ret : Option FieldType} {pc : Nat} {ls : Array Slot} {rest st0 : List Value} {post : Option Value → Sh → Vt → Prop}
theorem j_putIa (C : Cx p s m args meth c A D cy own cc nL ret) {k i idx ci a : Nat} {x : Int32} (F : Fld own idx ci i false) (P : Fpt ci i) (hk : k < N) (hK : kd k = ci) (ha : ad k = a) (d : decode cc pc = .ok (.putfield idx, 3)) (kk : J p l e R s m args below meth c A D cy cells slots Q (N, kd, rf, ln, ad) (up2 V k i x) (F0 m (pc + 3) ls rest)) : J p l e R s m args below meth c A D cy cells slots Q (N, kd, rf, ln, ad) V (F0 m pc ls (.int x :: .ref a :: rest)) := by
  subst ha
  exact j_putI (σ := (N, kd, rf, ln, ad)) C F P hk hK d (fun V2 e => e ▸ kk)
theorem j_getRa (C : Cx p s m args meth c A D cy own cc nL ret) {k i idx ci k2 a : Nat} (F : Fld own idx ci i true) (hk : k < N) (hK : kd k = ci) (hg : rf k i = some k2) (ha : ad k = a) (d : decode cc pc = .ok (.getfield idx, 3)) (kk : J p l e R s m args below meth c A D cy cells slots Q (N, kd, rf, ln, ad) V (F0 m (pc + 3) ls (.ref (ad k2) :: rest))) : J p l e R s m args below meth c A D cy cells slots Q (N, kd, rf, ln, ad) V (F0 m pc ls (.ref a :: rest)) := by
  subst ha
  exact j_getR (σ := (N, kd, rf, ln, ad)) C F hk hK hg d kk
theorem j_alena (C : Cx p s m args meth c A D cy own cc nL ret) {k a : Nat} (hk : k < N) (hK : kd k = 13 ∨ kd k = 14 ∨ kd k = 15 ∨ kd k = 16) {n : Nat} (hn : ln k = n) (ha : ad k = a) (d : decode cc pc = .ok (.arraylength, 1)) (kk : J p l e R s m args below meth c A D cy cells slots Q (N, kd, rf, ln, ad) V (F0 m (pc + 1) ls (.int (nI n) :: rest))) : J p l e R s m args below meth c A D cy cells slots Q (N, kd, rf, ln, ad) V (F0 m pc ls (.ref a :: rest)) := by
  subst ha
  exact j_alen (σ := (N, kd, rf, ln, ad)) C hk hK hn d kk
theorem j_iasta (C : Cx p s m args meth c A D cy own cc nL ret) {k a j : Nat} {i x : Int32} (hj : i.toNatClampNeg = j) (hk : k < N) (hK : kd k = 13) {n : Nat} (hn : ln k = n) (hin : vp_in i n) (ha : ad k = a) (d : decode cc pc = .ok (.iastore, 1)) (kk : J p l e R s m args below meth c A D cy cells slots Q (N, kd, rf, ln, ad) (up2 V k j x) (F0 m (pc + 1) ls rest)) : J p l e R s m args below meth c A D cy cells slots Q (N, kd, rf, ln, ad) V (F0 m pc ls (.int x :: .int i :: .ref a :: rest)) := by
  subst ha
  subst hj
  exact j_iast (σ := (N, kd, rf, ln, ad)) C hk hK hn hin d (fun V2 e => e ▸ kk)
def iPost (N M : Nat) (kd ln ad : Nat → Nat) (rf2 : Nat → Nat → Option Nat) (W : Vt) : Option Value → Sh → Vt → Prop := fun r σ2 V2 => r = none ∧ ∃ ad', (∀ j, j < N → ad' j = ad j) ∧ σ2 = (M, kd, rf2, ln, ad') ∧ V2 = W
theorem kIn {M mc ms : Nat} {rf2 : Nat → Nat → Option Nat} {W : Vt} (h : ∀ ad' : Nat → Nat, (∀ j, j < N → ad' j = ad j) → J p l e R s m args below meth c A D cy (cells + mc) (slots + ms) Q (M, kd, rf2, ln, ad') W (F0 m (pc + 3) ls rest)) : ∀ (r : Option Value) (σ2 : Sh) (V2 : Vt), iPost N M kd ln ad rf2 W r σ2 V2 → J p l e R s m args below meth c A D cy (cells + mc) (slots + ms) Q σ2 V2 (F0 m (pc + 3) ls (r.toList ++ rest)) := by
  rintro r σ2 V2 ⟨rfl, ad', h', rfl, rfl⟩
  exact h ad' h'
end JK
abbrev rm_X2_init : Room := { frames := 1, cells := 2, slots := 16, locals := 20 }
def LX2_init : List (Nat × Nat) := [(13, 8), (13, 8)]
def rfX2_init (rf : Nat → Nat → Option Nat) (k N : Nat) : Nat → Nat → Option Nat := (uR (uR rf k 3 N) k 4 (N + 1))
theorem fre_X2_init {N k : Nat} {rf : Nat → Nat → Option Nat} {V : Vt} (hF : Fre N rf V) (hk : k < N) : Fre (N + 2) (rfX2_init rf k N) V := (Fre.ref (Fre.new (Fre.ref (Fre.new hF) (by omega) (by omega))) (by omega) (by omega))
set_option maxHeartbeats 4000000 in
set_option maxRecDepth 100000 in
theorem k_X2_init (l : Launch) (N : Nat) (kd ln ad : Nat → Nat) (rf : Nat → Nat → Option Nat) (V : Vt) (k : Nat) (hk : k < N) (hkk : kd k = 2) (hK : Kn kd ln N LX2_init) (hF : Fre N rf V) : CtG l yX2_init cX2_init 1 none rm_X2_init 2 16 (N, kd, rf, ln, ad) V [.ref (ad k)] (iPost N (N + 2) kd ln ad (rfX2_init rf k N) V) := by
  refine CtI_of (by decide) (Nat.le_of_ble_eq_true rfl) ?_
  intro p e s m below meth c A D cy ls hin C hl
  have hl : lv_has ls 1 [(0, .ref (ad k))] := hl
  refine j_aload_n C dX2_init_0 rfl (lv_at hl 0 rfl) ?_
  refine j_obj C wl_RX2_3 hl.1 (Nat.le_of_ble_eq_true rfl) (Nat.le_of_ble_eq_true rfl) dX2_init_1 ?_
  refine j_aload_n C dX2_init_4 rfl (lv_at hl 0 rfl) ?_
  refine j_bipush (v := 8) C dX2_init_5 (by decide) ?_
  refine j_newI (N := N) (n := 8) C rfl (by decide) ((hK 0 (by decide)).1) ((hK 0 (by decide)).2) hF (Nat.le_of_ble_eq_true rfl) (Nat.le_of_ble_eq_true rfl) dX2_init_7 (fun ad1 h_1_ => ?_)
  refine j_putRF (k := k) (k2 := N) C hin f_RX2_9_2 pf_2_3 ⟨rfl, rfl⟩ (by omega) (hkk) ((h_1_ _ (by omega))) (rfl) dX2_init_9 ?_
  refine j_aload_n C dX2_init_12 rfl (lv_at hl 0 rfl) ?_
  refine j_bipush (v := 8) C dX2_init_13 (by decide) ?_
  refine j_newI (N := N + 1) (n := 8) C rfl (by decide) ((hK 1 (by decide)).1) ((hK 1 (by decide)).2) (Fre.ref (Fre.new hF) (by omega) (by omega)) (Nat.le_of_ble_eq_true rfl) (Nat.le_of_ble_eq_true rfl) dX2_init_15 (fun ad2 h_2_ => ?_)
  refine j_putRF (k := k) (k2 := N + 1) C hin f_RX2_15_2 pf_2_4 ⟨rfl, rfl⟩ (by omega) (hkk) ((h_2_ _ (by omega)).trans (h_1_ _ (by omega))) (rfl) dX2_init_17 ?_
  exact j_vret C ⟨rfl, ad2, fun j hj => (h_2_ j (by omega)).trans ((h_1_ j (by omega))), rfl, rfl⟩ dX2_init_20
abbrev rm_X5_init : Room := { frames := 1, cells := 3, slots := 24, locals := 20 }
def LX5_init : List (Nat × Nat) := [(13, 8), (13, 8), (13, 8)]
def rfX5_init (rf : Nat → Nat → Option Nat) (k N : Nat) : Nat → Nat → Option Nat := (uR (uR (uR rf k 1 N) k 2 (N + 1)) k 3 (N + 2))
theorem fre_X5_init {N k : Nat} {rf : Nat → Nat → Option Nat} {V : Vt} (hF : Fre N rf V) (hk : k < N) : Fre (N + 3) (rfX5_init rf k N) V := (Fre.ref (Fre.new (Fre.ref (Fre.new (Fre.ref (Fre.new hF) (by omega) (by omega))) (by omega) (by omega))) (by omega) (by omega))
set_option maxHeartbeats 4000000 in
set_option maxRecDepth 100000 in
theorem k_X5_init (l : Launch) (N : Nat) (kd ln ad : Nat → Nat) (rf : Nat → Nat → Option Nat) (V : Vt) (k : Nat) (hk : k < N) (hkk : kd k = 5) (hK : Kn kd ln N LX5_init) (hF : Fre N rf V) : CtG l yX5_init cX5_init 1 none rm_X5_init 3 24 (N, kd, rf, ln, ad) V [.ref (ad k)] (iPost N (N + 3) kd ln ad (rfX5_init rf k N) V) := by
  refine CtI_of (by decide) (Nat.le_of_ble_eq_true rfl) ?_
  intro p e s m below meth c A D cy ls hin C hl
  have hl : lv_has ls 1 [(0, .ref (ad k))] := hl
  refine j_aload_n C dX5_init_0 rfl (lv_at hl 0 rfl) ?_
  refine j_obj C wl_RX5_3 hl.1 (Nat.le_of_ble_eq_true rfl) (Nat.le_of_ble_eq_true rfl) dX5_init_1 ?_
  refine j_aload_n C dX5_init_4 rfl (lv_at hl 0 rfl) ?_
  refine j_bipush (v := 8) C dX5_init_5 (by decide) ?_
  refine j_newI (N := N) (n := 8) C rfl (by decide) ((hK 0 (by decide)).1) ((hK 0 (by decide)).2) hF (Nat.le_of_ble_eq_true rfl) (Nat.le_of_ble_eq_true rfl) dX5_init_7 (fun ad1 h_1_ => ?_)
  refine j_putRF (k := k) (k2 := N) C hin f_RX5_9_5 pf_5_1 ⟨rfl, rfl⟩ (by omega) (hkk) ((h_1_ _ (by omega))) (rfl) dX5_init_9 ?_
  refine j_aload_n C dX5_init_12 rfl (lv_at hl 0 rfl) ?_
  refine j_bipush (v := 8) C dX5_init_13 (by decide) ?_
  refine j_newI (N := N + 1) (n := 8) C rfl (by decide) ((hK 1 (by decide)).1) ((hK 1 (by decide)).2) (Fre.ref (Fre.new hF) (by omega) (by omega)) (Nat.le_of_ble_eq_true rfl) (Nat.le_of_ble_eq_true rfl) dX5_init_15 (fun ad2 h_2_ => ?_)
  refine j_putRF (k := k) (k2 := N + 1) C hin f_RX5_15_5 pf_5_2 ⟨rfl, rfl⟩ (by omega) (hkk) ((h_2_ _ (by omega)).trans (h_1_ _ (by omega))) (rfl) dX5_init_17 ?_
  refine j_aload_n C dX5_init_20 rfl (lv_at hl 0 rfl) ?_
  refine j_bipush (v := 8) C dX5_init_21 (by decide) ?_
  refine j_newI (N := N + 2) (n := 8) C rfl (by decide) ((hK 2 (by decide)).1) ((hK 2 (by decide)).2) (Fre.ref (Fre.new (Fre.ref (Fre.new hF) (by omega) (by omega))) (by omega) (by omega)) (Nat.le_of_ble_eq_true rfl) (Nat.le_of_ble_eq_true rfl) dX5_init_23 (fun ad3 h_3_ => ?_)
  refine j_putRF (k := k) (k2 := N + 2) C hin f_RX5_18_5 pf_5_3 ⟨rfl, rfl⟩ (by omega) (hkk) ((h_3_ _ (by omega)).trans ((h_2_ _ (by omega)).trans (h_1_ _ (by omega)))) (rfl) dX5_init_25 ?_
  exact j_vret C ⟨rfl, ad3, fun j hj => (h_3_ j (by omega)).trans ((h_2_ j (by omega)).trans ((h_1_ j (by omega)))), rfl, rfl⟩ dX5_init_28
abbrev rm_X7_init : Room := { frames := 1, cells := 1, slots := 60, locals := 20 }
def LX7_init : List (Nat × Nat) := [(13, 60)]
def rfX7_init (rf : Nat → Nat → Option Nat) (k N : Nat) : Nat → Nat → Option Nat := (uR rf k 2 N)
def vX7_init (V : Vt) (k N : Nat) : Vt := (up2 V k 0 (-1))
theorem fre_X7_init {N k : Nat} {rf : Nat → Nat → Option Nat} {V : Vt} (hF : Fre N rf V) (hk : k < N) : Fre (N + 1) (rfX7_init rf k N) (vX7_init V k N) := (Fre.ref (Fre.new (Fre.up hF (by omega))) (by omega) (by omega))
set_option maxHeartbeats 4000000 in
set_option maxRecDepth 100000 in
theorem k_X7_init (l : Launch) (N : Nat) (kd ln ad : Nat → Nat) (rf : Nat → Nat → Option Nat) (V : Vt) (k : Nat) (hk : k < N) (hkk : kd k = 7) (hK : Kn kd ln N LX7_init) (hF : Fre N rf V) : CtG l yX7_init cX7_init 1 none rm_X7_init 1 60 (N, kd, rf, ln, ad) V [.ref (ad k)] (iPost N (N + 1) kd ln ad (rfX7_init rf k N) (vX7_init V k N)) := by
  refine CtI_of (by decide) (Nat.le_of_ble_eq_true rfl) ?_
  intro p e s m below meth c A D cy ls hin C hl
  have hl : lv_has ls 1 [(0, .ref (ad k))] := hl
  refine j_aload_n C dX7_init_0 rfl (lv_at hl 0 rfl) ?_
  refine j_obj C wl_RX7_3 hl.1 (Nat.le_of_ble_eq_true rfl) (Nat.le_of_ble_eq_true rfl) dX7_init_1 ?_
  refine j_aload_n C dX7_init_4 rfl (lv_at hl 0 rfl) ?_
  refine j_iconst (v := (-1)) C dX7_init_5 (by decide) ?_
  refine j_putIa (k := k) C f_RX7_11_7 p_7_0 (by omega) (hkk) (rfl) dX7_init_6 ?_
  refine j_aload_n C dX7_init_9 rfl (lv_at hl 0 rfl) ?_
  refine j_bipush (v := 60) C dX7_init_10 (by decide) ?_
  refine j_newI (N := N) (n := 60) C rfl (by decide) ((hK 0 (by decide)).1) ((hK 0 (by decide)).2) (Fre.up hF (by omega)) (Nat.le_of_ble_eq_true rfl) (Nat.le_of_ble_eq_true rfl) dX7_init_12 (fun ad1 h_1_ => ?_)
  refine j_putRF (k := k) (k2 := N) C hin f_RX7_15_7 pf_7_2 ⟨rfl, rfl⟩ (by omega) (hkk) ((h_1_ _ (by omega))) (rfl) dX7_init_14 ?_
  exact j_vret C ⟨rfl, ad1, fun j hj => (h_1_ j (by omega)), rfl, rfl⟩ dX7_init_17
abbrev rm_X10_init : Room := { frames := 1, cells := 0, slots := 0, locals := 20 }
def LX10_init : List (Nat × Nat) := []
def rfX10_init (rf : Nat → Nat → Option Nat) (k N : Nat) : Nat → Nat → Option Nat := rf
theorem fre_X10_init {N k : Nat} {rf : Nat → Nat → Option Nat} {V : Vt} (hF : Fre N rf V) (hk : k < N) : Fre (N) (rfX10_init rf k N) V := hF
set_option maxHeartbeats 4000000 in
set_option maxRecDepth 100000 in
theorem k_X10_init (l : Launch) (N : Nat) (kd ln ad : Nat → Nat) (rf : Nat → Nat → Option Nat) (V : Vt) (k : Nat) (hk : k < N) (hkk : kd k = 10) (hK : Kn kd ln N LX10_init) (hF : Fre N rf V) : CtG l yX10_init cX10_init 1 none rm_X10_init 0 0 (N, kd, rf, ln, ad) V [.ref (ad k)] (iPost N (N) kd ln ad (rfX10_init rf k N) V) := by
  refine CtI_of (by decide) (Nat.le_of_ble_eq_true rfl) ?_
  intro p e s m below meth c A D cy ls hin C hl
  have hl : lv_has ls 1 [(0, .ref (ad k))] := hl
  refine j_aload_n C dX10_init_0 rfl (lv_at hl 0 rfl) ?_
  refine j_obj C wl_RX10_1 hl.1 (Nat.le_of_ble_eq_true rfl) (Nat.le_of_ble_eq_true rfl) dX10_init_1 ?_
  exact j_vret C ⟨rfl, ad, fun j hj => rfl, rfl, rfl⟩ dX10_init_4
abbrev rm_X9_init : Room := { frames := 1, cells := 4, slots := 18, locals := 20 }
def LX9_init : List (Nat × Nat) := [(13, 4), (13, 4), (13, 5), (13, 5)]
def rfX9_init (rf : Nat → Nat → Option Nat) (k N : Nat) : Nat → Nat → Option Nat := (uR (uR (uR (uR rf k 4 N) k 5 (N + 1)) k 6 (N + 2)) k 7 (N + 3))
theorem fre_X9_init {N k : Nat} {rf : Nat → Nat → Option Nat} {V : Vt} (hF : Fre N rf V) (hk : k < N) : Fre (N + 4) (rfX9_init rf k N) V := (Fre.ref (Fre.new (Fre.ref (Fre.new (Fre.ref (Fre.new (Fre.ref (Fre.new hF) (by omega) (by omega))) (by omega) (by omega))) (by omega) (by omega))) (by omega) (by omega))
set_option maxHeartbeats 4000000 in
set_option maxRecDepth 100000 in
theorem k_X9_init (l : Launch) (N : Nat) (kd ln ad : Nat → Nat) (rf : Nat → Nat → Option Nat) (V : Vt) (k : Nat) (hk : k < N) (hkk : kd k = 9) (hK : Kn kd ln N LX9_init) (hF : Fre N rf V) : CtG l yX9_init cX9_init 1 none rm_X9_init 4 18 (N, kd, rf, ln, ad) V [.ref (ad k)] (iPost N (N + 4) kd ln ad (rfX9_init rf k N) V) := by
  refine CtI_of (by decide) (Nat.le_of_ble_eq_true rfl) ?_
  intro p e s m below meth c A D cy ls hin C hl
  have hl : lv_has ls 1 [(0, .ref (ad k))] := hl
  refine j_aload_n C dX9_init_0 rfl (lv_at hl 0 rfl) ?_
  refine j_obj C wl_RX9_3 hl.1 (Nat.le_of_ble_eq_true rfl) (Nat.le_of_ble_eq_true rfl) dX9_init_1 ?_
  refine j_aload_n C dX9_init_4 rfl (lv_at hl 0 rfl) ?_
  refine j_iconst (v := 4) C dX9_init_5 (by decide) ?_
  refine j_newI (N := N) (n := 4) C rfl (by decide) ((hK 0 (by decide)).1) ((hK 0 (by decide)).2) hF (Nat.le_of_ble_eq_true rfl) (Nat.le_of_ble_eq_true rfl) dX9_init_6 (fun ad1 h_1_ => ?_)
  refine j_putRF (k := k) (k2 := N) C hin f_RX9_9_9 pf_9_4 ⟨rfl, rfl⟩ (by omega) (hkk) ((h_1_ _ (by omega))) (rfl) dX9_init_8 ?_
  refine j_aload_n C dX9_init_11 rfl (lv_at hl 0 rfl) ?_
  refine j_iconst (v := 4) C dX9_init_12 (by decide) ?_
  refine j_newI (N := N + 1) (n := 4) C rfl (by decide) ((hK 1 (by decide)).1) ((hK 1 (by decide)).2) (Fre.ref (Fre.new hF) (by omega) (by omega)) (Nat.le_of_ble_eq_true rfl) (Nat.le_of_ble_eq_true rfl) dX9_init_13 (fun ad2 h_2_ => ?_)
  refine j_putRF (k := k) (k2 := N + 1) C hin f_RX9_15_9 pf_9_5 ⟨rfl, rfl⟩ (by omega) (hkk) ((h_2_ _ (by omega)).trans (h_1_ _ (by omega))) (rfl) dX9_init_15 ?_
  refine j_aload_n C dX9_init_18 rfl (lv_at hl 0 rfl) ?_
  refine j_iconst (v := 5) C dX9_init_19 (by decide) ?_
  refine j_newI (N := N + 2) (n := 5) C rfl (by decide) ((hK 2 (by decide)).1) ((hK 2 (by decide)).2) (Fre.ref (Fre.new (Fre.ref (Fre.new hF) (by omega) (by omega))) (by omega) (by omega)) (Nat.le_of_ble_eq_true rfl) (Nat.le_of_ble_eq_true rfl) dX9_init_20 (fun ad3 h_3_ => ?_)
  refine j_putRF (k := k) (k2 := N + 2) C hin f_RX9_18_9 pf_9_6 ⟨rfl, rfl⟩ (by omega) (hkk) ((h_3_ _ (by omega)).trans ((h_2_ _ (by omega)).trans (h_1_ _ (by omega)))) (rfl) dX9_init_22 ?_
  refine j_aload_n C dX9_init_25 rfl (lv_at hl 0 rfl) ?_
  refine j_iconst (v := 5) C dX9_init_26 (by decide) ?_
  refine j_newI (N := N + 3) (n := 5) C rfl (by decide) ((hK 3 (by decide)).1) ((hK 3 (by decide)).2) (Fre.ref (Fre.new (Fre.ref (Fre.new (Fre.ref (Fre.new hF) (by omega) (by omega))) (by omega) (by omega))) (by omega) (by omega)) (Nat.le_of_ble_eq_true rfl) (Nat.le_of_ble_eq_true rfl) dX9_init_27 (fun ad4 h_4_ => ?_)
  refine j_putRF (k := k) (k2 := N + 3) C hin f_RX9_21_9 pf_9_7 ⟨rfl, rfl⟩ (by omega) (hkk) ((h_4_ _ (by omega)).trans ((h_3_ _ (by omega)).trans ((h_2_ _ (by omega)).trans (h_1_ _ (by omega))))) (rfl) dX9_init_29 ?_
  exact j_vret C ⟨rfl, ad4, fun j hj => (h_4_ j (by omega)).trans ((h_3_ j (by omega)).trans ((h_2_ j (by omega)).trans ((h_1_ j (by omega))))), rfl, rfl⟩ dX9_init_32
abbrev rm_X4_init : Room := { frames := 1, cells := 5, slots := 115, locals := 20 }
def LX4_init : List (Nat × Nat) := [(13, 20), (13, 5), (13, 5), (13, 5), (13, 80)]
def rfX4_init (rf : Nat → Nat → Option Nat) (k N : Nat) : Nat → Nat → Option Nat := (uR (uR (uR (uR (uR rf k 2 N) k 3 (N + 1)) k 4 (N + 2)) k 5 (N + 3)) k 6 (N + 4))
theorem fre_X4_init {N k : Nat} {rf : Nat → Nat → Option Nat} {V : Vt} (hF : Fre N rf V) (hk : k < N) : Fre (N + 5) (rfX4_init rf k N) V := (Fre.ref (Fre.new (Fre.ref (Fre.new (Fre.ref (Fre.new (Fre.ref (Fre.new (Fre.ref (Fre.new hF) (by omega) (by omega))) (by omega) (by omega))) (by omega) (by omega))) (by omega) (by omega))) (by omega) (by omega))
set_option maxHeartbeats 4000000 in
set_option maxRecDepth 100000 in
theorem k_X4_init (l : Launch) (N : Nat) (kd ln ad : Nat → Nat) (rf : Nat → Nat → Option Nat) (V : Vt) (k : Nat) (hk : k < N) (hkk : kd k = 4) (hK : Kn kd ln N LX4_init) (hF : Fre N rf V) : CtG l yX4_init cX4_init 1 none rm_X4_init 5 115 (N, kd, rf, ln, ad) V [.ref (ad k)] (iPost N (N + 5) kd ln ad (rfX4_init rf k N) V) := by
  refine CtI_of (by decide) (Nat.le_of_ble_eq_true rfl) ?_
  intro p e s m below meth c A D cy ls hin C hl
  have hl : lv_has ls 1 [(0, .ref (ad k))] := hl
  refine j_aload_n C dX4_init_0 rfl (lv_at hl 0 rfl) ?_
  refine j_obj C wl_RX4_3 hl.1 (Nat.le_of_ble_eq_true rfl) (Nat.le_of_ble_eq_true rfl) dX4_init_1 ?_
  refine j_aload_n C dX4_init_4 rfl (lv_at hl 0 rfl) ?_
  refine j_bipush (v := 20) C dX4_init_5 (by decide) ?_
  refine j_newI (N := N) (n := 20) C rfl (by decide) ((hK 0 (by decide)).1) ((hK 0 (by decide)).2) hF (Nat.le_of_ble_eq_true rfl) (Nat.le_of_ble_eq_true rfl) dX4_init_7 (fun ad1 h_1_ => ?_)
  refine j_putRF (k := k) (k2 := N) C hin f_RX4_9_4 pf_4_2 ⟨rfl, rfl⟩ (by omega) (hkk) ((h_1_ _ (by omega))) (rfl) dX4_init_9 ?_
  refine j_aload_n C dX4_init_12 rfl (lv_at hl 0 rfl) ?_
  refine j_iconst (v := 5) C dX4_init_13 (by decide) ?_
  refine j_newI (N := N + 1) (n := 5) C rfl (by decide) ((hK 1 (by decide)).1) ((hK 1 (by decide)).2) (Fre.ref (Fre.new hF) (by omega) (by omega)) (Nat.le_of_ble_eq_true rfl) (Nat.le_of_ble_eq_true rfl) dX4_init_14 (fun ad2 h_2_ => ?_)
  refine j_putRF (k := k) (k2 := N + 1) C hin f_RX4_15_4 pf_4_3 ⟨rfl, rfl⟩ (by omega) (hkk) ((h_2_ _ (by omega)).trans (h_1_ _ (by omega))) (rfl) dX4_init_16 ?_
  refine j_aload_n C dX4_init_19 rfl (lv_at hl 0 rfl) ?_
  refine j_iconst (v := 5) C dX4_init_20 (by decide) ?_
  refine j_newI (N := N + 2) (n := 5) C rfl (by decide) ((hK 2 (by decide)).1) ((hK 2 (by decide)).2) (Fre.ref (Fre.new (Fre.ref (Fre.new hF) (by omega) (by omega))) (by omega) (by omega)) (Nat.le_of_ble_eq_true rfl) (Nat.le_of_ble_eq_true rfl) dX4_init_21 (fun ad3 h_3_ => ?_)
  refine j_putRF (k := k) (k2 := N + 2) C hin f_RX4_18_4 pf_4_4 ⟨rfl, rfl⟩ (by omega) (hkk) ((h_3_ _ (by omega)).trans ((h_2_ _ (by omega)).trans (h_1_ _ (by omega)))) (rfl) dX4_init_23 ?_
  refine j_aload_n C dX4_init_26 rfl (lv_at hl 0 rfl) ?_
  refine j_iconst (v := 5) C dX4_init_27 (by decide) ?_
  refine j_newI (N := N + 3) (n := 5) C rfl (by decide) ((hK 3 (by decide)).1) ((hK 3 (by decide)).2) (Fre.ref (Fre.new (Fre.ref (Fre.new (Fre.ref (Fre.new hF) (by omega) (by omega))) (by omega) (by omega))) (by omega) (by omega)) (Nat.le_of_ble_eq_true rfl) (Nat.le_of_ble_eq_true rfl) dX4_init_28 (fun ad4 h_4_ => ?_)
  refine j_putRF (k := k) (k2 := N + 3) C hin f_RX4_21_4 pf_4_5 ⟨rfl, rfl⟩ (by omega) (hkk) ((h_4_ _ (by omega)).trans ((h_3_ _ (by omega)).trans ((h_2_ _ (by omega)).trans (h_1_ _ (by omega))))) (rfl) dX4_init_30 ?_
  refine j_aload_n C dX4_init_33 rfl (lv_at hl 0 rfl) ?_
  refine j_bipush (v := 80) C dX4_init_34 (by decide) ?_
  refine j_newI (N := N + 4) (n := 80) C rfl (by decide) ((hK 4 (by decide)).1) ((hK 4 (by decide)).2) (Fre.ref (Fre.new (Fre.ref (Fre.new (Fre.ref (Fre.new (Fre.ref (Fre.new hF) (by omega) (by omega))) (by omega) (by omega))) (by omega) (by omega))) (by omega) (by omega)) (Nat.le_of_ble_eq_true rfl) (Nat.le_of_ble_eq_true rfl) dX4_init_36 (fun ad5 h_5_ => ?_)
  refine j_putRF (k := k) (k2 := N + 4) C hin f_RX4_24_4 pf_4_6 ⟨rfl, rfl⟩ (by omega) (hkk) ((h_5_ _ (by omega)).trans ((h_4_ _ (by omega)).trans ((h_3_ _ (by omega)).trans ((h_2_ _ (by omega)).trans (h_1_ _ (by omega)))))) (rfl) dX4_init_38 ?_
  exact j_vret C ⟨rfl, ad5, fun j hj => (h_5_ j (by omega)).trans ((h_4_ j (by omega)).trans ((h_3_ j (by omega)).trans ((h_2_ j (by omega)).trans ((h_1_ j (by omega)))))), rfl, rfl⟩ dX4_init_41
abbrev rm_X0_init : Room := { frames := 2, cells := 13, slots := 88, locals := 40 }
def LX0_init : List (Nat × Nat) := [(14, 4), (2, 0), (13, 8), (13, 8), (2, 0), (13, 8), (13, 8), (2, 0), (13, 8), (13, 8), (2, 0), (13, 8), (13, 8)]
def rfX0_init (rf : Nat → Nat → Option Nat) (k N : Nat) : Nat → Nat → Option Nat := (uR (rfX2_init (uR (rfX2_init (uR (rfX2_init (uR (rfX2_init (uR rf k 2 N) (N + 1) (N + 2)) N 0 (N + 1)) (N + 4) (N + 5)) N 1 (N + 4)) (N + 7) (N + 8)) N 2 (N + 7)) (N + 10) (N + 11)) N 3 (N + 10))
theorem fre_X0_init {N k : Nat} {rf : Nat → Nat → Option Nat} {V : Vt} (hF : Fre N rf V) (hk : k < N) : Fre (N + 13) (rfX0_init rf k N) V := (Fre.ref (fre_X2_init (Fre.new (Fre.ref (fre_X2_init (Fre.new (Fre.ref (fre_X2_init (Fre.new (Fre.ref (fre_X2_init (Fre.new (Fre.ref (Fre.new hF) (by omega) (by omega))) (by omega)) (by omega) (by omega))) (by omega)) (by omega) (by omega))) (by omega)) (by omega) (by omega))) (by omega)) (by omega) (by omega))
set_option maxHeartbeats 4000000 in
set_option maxRecDepth 100000 in
theorem k_X0_init (l : Launch) (N : Nat) (kd ln ad : Nat → Nat) (rf : Nat → Nat → Option Nat) (V : Vt) (k : Nat) (hk : k < N) (hkk : kd k = 0) (hK : Kn kd ln N LX0_init) (hF : Fre N rf V) : CtG l yX0_init cX0_init 2 none rm_X0_init 13 88 (N, kd, rf, ln, ad) V [.ref (ad k)] (iPost N (N + 13) kd ln ad (rfX0_init rf k N) V) := by
  refine CtI_of (by decide) (Nat.le_of_ble_eq_true rfl) ?_
  intro p e s m below meth c A D cy ls hin C hl
  have hl : lv_has ls 2 [(0, .ref (ad k))] := hl
  refine j_aload_n C dX0_init_0 rfl (lv_at hl 0 rfl) ?_
  refine j_obj C wl_RX0_3 hl.1 (Nat.le_of_ble_eq_true rfl) (Nat.le_of_ble_eq_true rfl) dX0_init_1 ?_
  refine j_aload_n C dX0_init_4 rfl (lv_at hl 0 rfl) ?_
  refine j_iconst (v := 4) C dX0_init_5 (by decide) ?_
  refine j_newR14 (N := N) (n := 4) C rfl (by decide) ((hK 0 (by decide)).1) ((hK 0 (by decide)).2) wl_RX0_9_c hF (Nat.le_of_ble_eq_true rfl) (Nat.le_of_ble_eq_true rfl) dX0_init_6 (fun ad1 h_1_ => ?_)
  refine j_putRF (k := k) (k2 := N) C hin f_RX0_11_0 pf_0_2 ⟨rfl, rfl⟩ (by omega) (hkk) ((h_1_ _ (by omega))) (rfl) dX0_init_9 ?_
  refine j_iconst (v := 0) C dX0_init_12 (by decide) ?_
  refine j_istore_n (lv2 := [(1, .int (0)), (0, .ref (ad k))]) C dX0_init_13 rfl hl (by decide) rfl (fun ls hl => ?_)
  refine j_iload_n C dX0_init_14 rfl (lv_at hl 0 rfl) ?_
  refine j_aload_n C dX0_init_15 rfl (lv_at hl 1 rfl) ?_
  refine j_getRa (k := k) (k2 := N) C f_RX0_11_0 (by omega) (hkk) (by repeat first | exact uR_s _ _ _ _ | rw [uR_o _ _ (by omega)]) ((h_1_ _ (by omega))) dX0_init_16 ?_
  refine j_alena (k := N) (n := 4) C (by omega) (Or.inr (Or.inl ((hK 0 (by decide)).1))) ((hK 0 (by decide)).2) (rfl) dX0_init_19 ?_
  refine j_icmp_ge (tgt := 42) C dX0_init_20 (by decide) (fun c_9_ => ?_) (fun c_9_ => ?_)
  · exact absurd c_9_ (by decide)
  refine j_aload_n C dX0_init_23 rfl (lv_at hl 1 rfl) ?_
  refine j_getRa (k := k) (k2 := N) C f_RX0_11_0 (by omega) (hkk) (by repeat first | exact uR_s _ _ _ _ | rw [uR_o _ _ (by omega)]) ((h_1_ _ (by omega))) dX0_init_24 ?_
  refine j_iload_n C dX0_init_27 rfl (lv_at hl 0 rfl) ?_
  refine j_new (N := N + 1) C nw_RX0_9 ((hK 1 (by decide)).1) (Fre.ref (Fre.new hF) (by omega) (by omega)) (Nat.le_of_ble_eq_true rfl) (Nat.le_of_ble_eq_true rfl) dX0_init_28 (fun ad2 h_2_ => ?_)
  refine j_dup C dX0_init_31 rfl ?_
  refine j_callIN C [] [.ref (ad2 (N + 1)), .int (0), .ref (ad1 N)] (k_X2_init l (N + 2) kd ln ad2 (uR rf k 2 N) V (N + 1) (by omega) ((hK 1 (by decide)).1) (Kn_sub (d := 2) hK (by decide +kernel)) (Fre.new (Fre.ref (Fre.new hF) (by omega) (by omega)))) in_RX0_17 ⟨rfl, rfl, Nat.le_of_ble_eq_true rfl, Nat.le_of_ble_eq_true rfl⟩ rfl hl.1 rfl (Nat.le_of_ble_eq_true rfl) ⟨Nat.le_of_ble_eq_true rfl, Nat.le_of_ble_eq_true rfl⟩ dX0_init_32 (kIn fun ad3 h_3_ => ?_)
  refine j_aastG (k := N) (k2 := N + 1) (n := 4) (j := 0) C (by decide) (by omega) ((hK 0 (by decide)).1) ((hK 0 (by decide)).2) (show vp_in (nI 0) 4 from vp_in_nI (by decide) (by decide)) ((h_3_ _ (by omega)).trans (h_2_ _ (by omega))) (by omega) ((hK 1 (by decide)).1) ((h_3_ _ (by omega))) dX0_init_35 ?_
  refine j_iinc (v := 1) (lv2 := [(1, .int (1)), (0, .ref (ad k))]) C dX0_init_36 hl (k0 := 0) rfl (by decide) (by decide) rfl (fun ls hl => ?_)
  refine j_goto (tgt := 14) C dX0_init_39 (by decide) ?_
  refine j_iload_n C dX0_init_14 rfl (lv_at hl 0 rfl) ?_
  refine j_aload_n C dX0_init_15 rfl (lv_at hl 1 rfl) ?_
  refine j_getRa (k := k) (k2 := N) C f_RX0_11_0 (by omega) (hkk) (by simp only [rfX10_init, rfX2_init, rfX4_init, rfX5_init, rfX7_init, rfX9_init]; repeat first | exact uR_s _ _ _ _ | rw [uR_o _ _ (by omega)]) ((h_3_ _ (by omega)).trans ((h_2_ _ (by omega)).trans (h_1_ _ (by omega)))) dX0_init_16 ?_
  refine j_alena (k := N) (n := 4) C (by omega) (Or.inr (Or.inl ((hK 0 (by decide)).1))) ((hK 0 (by decide)).2) (rfl) dX0_init_19 ?_
  refine j_icmp_ge (tgt := 42) C dX0_init_20 (by decide) (fun c_9_ => ?_) (fun c_9_ => ?_)
  · exact absurd c_9_ (by decide)
  refine j_aload_n C dX0_init_23 rfl (lv_at hl 1 rfl) ?_
  refine j_getRa (k := k) (k2 := N) C f_RX0_11_0 (by omega) (hkk) (by simp only [rfX10_init, rfX2_init, rfX4_init, rfX5_init, rfX7_init, rfX9_init]; repeat first | exact uR_s _ _ _ _ | rw [uR_o _ _ (by omega)]) ((h_3_ _ (by omega)).trans ((h_2_ _ (by omega)).trans (h_1_ _ (by omega)))) dX0_init_24 ?_
  refine j_iload_n C dX0_init_27 rfl (lv_at hl 0 rfl) ?_
  refine j_new (N := N + 4) C nw_RX0_9 ((hK 4 (by decide)).1) (Fre.ref (fre_X2_init (Fre.new (Fre.ref (Fre.new hF) (by omega) (by omega))) (by omega)) (by omega) (by omega)) (Nat.le_of_ble_eq_true rfl) (Nat.le_of_ble_eq_true rfl) dX0_init_28 (fun ad4 h_4_ => ?_)
  refine j_dup C dX0_init_31 rfl ?_
  refine j_callIN C [] [.ref (ad4 (N + 4)), .int (1), .ref (ad3 N)] (k_X2_init l (N + 5) kd ln ad4 (uR (rfX2_init (uR rf k 2 N) (N + 1) (N + 2)) N 0 (N + 1)) V (N + 4) (by omega) ((hK 4 (by decide)).1) (Kn_sub (d := 5) hK (by decide +kernel)) (Fre.new (Fre.ref (fre_X2_init (Fre.new (Fre.ref (Fre.new hF) (by omega) (by omega))) (by omega)) (by omega) (by omega)))) in_RX0_17 ⟨rfl, rfl, Nat.le_of_ble_eq_true rfl, Nat.le_of_ble_eq_true rfl⟩ rfl hl.1 rfl (Nat.le_of_ble_eq_true rfl) ⟨Nat.le_of_ble_eq_true rfl, Nat.le_of_ble_eq_true rfl⟩ dX0_init_32 (kIn fun ad5 h_5_ => ?_)
  refine j_aastG (k := N) (k2 := N + 4) (n := 4) (j := 1) C (by decide) (by omega) ((hK 0 (by decide)).1) ((hK 0 (by decide)).2) (show vp_in (nI 1) 4 from vp_in_nI (by decide) (by decide)) ((h_5_ _ (by omega)).trans (h_4_ _ (by omega))) (by omega) ((hK 4 (by decide)).1) ((h_5_ _ (by omega))) dX0_init_35 ?_
  refine j_iinc (v := 2) (lv2 := [(1, .int (2)), (0, .ref (ad k))]) C dX0_init_36 hl (k0 := 0) rfl (by decide) (by decide) rfl (fun ls hl => ?_)
  refine j_goto (tgt := 14) C dX0_init_39 (by decide) ?_
  refine j_iload_n C dX0_init_14 rfl (lv_at hl 0 rfl) ?_
  refine j_aload_n C dX0_init_15 rfl (lv_at hl 1 rfl) ?_
  refine j_getRa (k := k) (k2 := N) C f_RX0_11_0 (by omega) (hkk) (by simp only [rfX10_init, rfX2_init, rfX4_init, rfX5_init, rfX7_init, rfX9_init]; repeat first | exact uR_s _ _ _ _ | rw [uR_o _ _ (by omega)]) ((h_5_ _ (by omega)).trans ((h_4_ _ (by omega)).trans ((h_3_ _ (by omega)).trans ((h_2_ _ (by omega)).trans (h_1_ _ (by omega)))))) dX0_init_16 ?_
  refine j_alena (k := N) (n := 4) C (by omega) (Or.inr (Or.inl ((hK 0 (by decide)).1))) ((hK 0 (by decide)).2) (rfl) dX0_init_19 ?_
  refine j_icmp_ge (tgt := 42) C dX0_init_20 (by decide) (fun c_9_ => ?_) (fun c_9_ => ?_)
  · exact absurd c_9_ (by decide)
  refine j_aload_n C dX0_init_23 rfl (lv_at hl 1 rfl) ?_
  refine j_getRa (k := k) (k2 := N) C f_RX0_11_0 (by omega) (hkk) (by simp only [rfX10_init, rfX2_init, rfX4_init, rfX5_init, rfX7_init, rfX9_init]; repeat first | exact uR_s _ _ _ _ | rw [uR_o _ _ (by omega)]) ((h_5_ _ (by omega)).trans ((h_4_ _ (by omega)).trans ((h_3_ _ (by omega)).trans ((h_2_ _ (by omega)).trans (h_1_ _ (by omega)))))) dX0_init_24 ?_
  refine j_iload_n C dX0_init_27 rfl (lv_at hl 0 rfl) ?_
  refine j_new (N := N + 7) C nw_RX0_9 ((hK 7 (by decide)).1) (Fre.ref (fre_X2_init (Fre.new (Fre.ref (fre_X2_init (Fre.new (Fre.ref (Fre.new hF) (by omega) (by omega))) (by omega)) (by omega) (by omega))) (by omega)) (by omega) (by omega)) (Nat.le_of_ble_eq_true rfl) (Nat.le_of_ble_eq_true rfl) dX0_init_28 (fun ad6 h_6_ => ?_)
  refine j_dup C dX0_init_31 rfl ?_
  refine j_callIN C [] [.ref (ad6 (N + 7)), .int (2), .ref (ad5 N)] (k_X2_init l (N + 8) kd ln ad6 (uR (rfX2_init (uR (rfX2_init (uR rf k 2 N) (N + 1) (N + 2)) N 0 (N + 1)) (N + 4) (N + 5)) N 1 (N + 4)) V (N + 7) (by omega) ((hK 7 (by decide)).1) (Kn_sub (d := 8) hK (by decide +kernel)) (Fre.new (Fre.ref (fre_X2_init (Fre.new (Fre.ref (fre_X2_init (Fre.new (Fre.ref (Fre.new hF) (by omega) (by omega))) (by omega)) (by omega) (by omega))) (by omega)) (by omega) (by omega)))) in_RX0_17 ⟨rfl, rfl, Nat.le_of_ble_eq_true rfl, Nat.le_of_ble_eq_true rfl⟩ rfl hl.1 rfl (Nat.le_of_ble_eq_true rfl) ⟨Nat.le_of_ble_eq_true rfl, Nat.le_of_ble_eq_true rfl⟩ dX0_init_32 (kIn fun ad7 h_7_ => ?_)
  refine j_aastG (k := N) (k2 := N + 7) (n := 4) (j := 2) C (by decide) (by omega) ((hK 0 (by decide)).1) ((hK 0 (by decide)).2) (show vp_in (nI 2) 4 from vp_in_nI (by decide) (by decide)) ((h_7_ _ (by omega)).trans (h_6_ _ (by omega))) (by omega) ((hK 7 (by decide)).1) ((h_7_ _ (by omega))) dX0_init_35 ?_
  refine j_iinc (v := 3) (lv2 := [(1, .int (3)), (0, .ref (ad k))]) C dX0_init_36 hl (k0 := 0) rfl (by decide) (by decide) rfl (fun ls hl => ?_)
  refine j_goto (tgt := 14) C dX0_init_39 (by decide) ?_
  refine j_iload_n C dX0_init_14 rfl (lv_at hl 0 rfl) ?_
  refine j_aload_n C dX0_init_15 rfl (lv_at hl 1 rfl) ?_
  refine j_getRa (k := k) (k2 := N) C f_RX0_11_0 (by omega) (hkk) (by simp only [rfX10_init, rfX2_init, rfX4_init, rfX5_init, rfX7_init, rfX9_init]; repeat first | exact uR_s _ _ _ _ | rw [uR_o _ _ (by omega)]) ((h_7_ _ (by omega)).trans ((h_6_ _ (by omega)).trans ((h_5_ _ (by omega)).trans ((h_4_ _ (by omega)).trans ((h_3_ _ (by omega)).trans ((h_2_ _ (by omega)).trans (h_1_ _ (by omega)))))))) dX0_init_16 ?_
  refine j_alena (k := N) (n := 4) C (by omega) (Or.inr (Or.inl ((hK 0 (by decide)).1))) ((hK 0 (by decide)).2) (rfl) dX0_init_19 ?_
  refine j_icmp_ge (tgt := 42) C dX0_init_20 (by decide) (fun c_9_ => ?_) (fun c_9_ => ?_)
  · exact absurd c_9_ (by decide)
  refine j_aload_n C dX0_init_23 rfl (lv_at hl 1 rfl) ?_
  refine j_getRa (k := k) (k2 := N) C f_RX0_11_0 (by omega) (hkk) (by simp only [rfX10_init, rfX2_init, rfX4_init, rfX5_init, rfX7_init, rfX9_init]; repeat first | exact uR_s _ _ _ _ | rw [uR_o _ _ (by omega)]) ((h_7_ _ (by omega)).trans ((h_6_ _ (by omega)).trans ((h_5_ _ (by omega)).trans ((h_4_ _ (by omega)).trans ((h_3_ _ (by omega)).trans ((h_2_ _ (by omega)).trans (h_1_ _ (by omega)))))))) dX0_init_24 ?_
  refine j_iload_n C dX0_init_27 rfl (lv_at hl 0 rfl) ?_
  refine j_new (N := N + 10) C nw_RX0_9 ((hK 10 (by decide)).1) (Fre.ref (fre_X2_init (Fre.new (Fre.ref (fre_X2_init (Fre.new (Fre.ref (fre_X2_init (Fre.new (Fre.ref (Fre.new hF) (by omega) (by omega))) (by omega)) (by omega) (by omega))) (by omega)) (by omega) (by omega))) (by omega)) (by omega) (by omega)) (Nat.le_of_ble_eq_true rfl) (Nat.le_of_ble_eq_true rfl) dX0_init_28 (fun ad8 h_8_ => ?_)
  refine j_dup C dX0_init_31 rfl ?_
  refine j_callIN C [] [.ref (ad8 (N + 10)), .int (3), .ref (ad7 N)] (k_X2_init l (N + 11) kd ln ad8 (uR (rfX2_init (uR (rfX2_init (uR (rfX2_init (uR rf k 2 N) (N + 1) (N + 2)) N 0 (N + 1)) (N + 4) (N + 5)) N 1 (N + 4)) (N + 7) (N + 8)) N 2 (N + 7)) V (N + 10) (by omega) ((hK 10 (by decide)).1) (Kn_sub (d := 11) hK (by decide +kernel)) (Fre.new (Fre.ref (fre_X2_init (Fre.new (Fre.ref (fre_X2_init (Fre.new (Fre.ref (fre_X2_init (Fre.new (Fre.ref (Fre.new hF) (by omega) (by omega))) (by omega)) (by omega) (by omega))) (by omega)) (by omega) (by omega))) (by omega)) (by omega) (by omega)))) in_RX0_17 ⟨rfl, rfl, Nat.le_of_ble_eq_true rfl, Nat.le_of_ble_eq_true rfl⟩ rfl hl.1 rfl (Nat.le_of_ble_eq_true rfl) ⟨Nat.le_of_ble_eq_true rfl, Nat.le_of_ble_eq_true rfl⟩ dX0_init_32 (kIn fun ad9 h_9_ => ?_)
  refine j_aastG (k := N) (k2 := N + 10) (n := 4) (j := 3) C (by decide) (by omega) ((hK 0 (by decide)).1) ((hK 0 (by decide)).2) (show vp_in (nI 3) 4 from vp_in_nI (by decide) (by decide)) ((h_9_ _ (by omega)).trans (h_8_ _ (by omega))) (by omega) ((hK 10 (by decide)).1) ((h_9_ _ (by omega))) dX0_init_35 ?_
  refine j_iinc (v := 4) (lv2 := [(1, .int (4)), (0, .ref (ad k))]) C dX0_init_36 hl (k0 := 0) rfl (by decide) (by decide) rfl (fun ls hl => ?_)
  refine j_goto (tgt := 14) C dX0_init_39 (by decide) ?_
  refine j_iload_n C dX0_init_14 rfl (lv_at hl 0 rfl) ?_
  refine j_aload_n C dX0_init_15 rfl (lv_at hl 1 rfl) ?_
  refine j_getRa (k := k) (k2 := N) C f_RX0_11_0 (by omega) (hkk) (by simp only [rfX10_init, rfX2_init, rfX4_init, rfX5_init, rfX7_init, rfX9_init]; repeat first | exact uR_s _ _ _ _ | rw [uR_o _ _ (by omega)]) ((h_9_ _ (by omega)).trans ((h_8_ _ (by omega)).trans ((h_7_ _ (by omega)).trans ((h_6_ _ (by omega)).trans ((h_5_ _ (by omega)).trans ((h_4_ _ (by omega)).trans ((h_3_ _ (by omega)).trans ((h_2_ _ (by omega)).trans (h_1_ _ (by omega)))))))))) dX0_init_16 ?_
  refine j_alena (k := N) (n := 4) C (by omega) (Or.inr (Or.inl ((hK 0 (by decide)).1))) ((hK 0 (by decide)).2) (rfl) dX0_init_19 ?_
  refine j_icmp_ge (tgt := 42) C dX0_init_20 (by decide) (fun c_9_ => ?_) (fun c_9_ => ?_)
  rotate_left
  · exact absurd (by decide) c_9_
  exact j_vret C ⟨rfl, ad9, fun j hj => (h_9_ j (by omega)).trans ((h_8_ j (by omega)).trans ((h_7_ j (by omega)).trans ((h_6_ j (by omega)).trans ((h_5_ j (by omega)).trans ((h_4_ j (by omega)).trans ((h_3_ j (by omega)).trans ((h_2_ j (by omega)).trans ((h_1_ j (by omega)))))))))), rfl, rfl⟩ dX0_init_42
abbrev rm_X1_init : Room := { frames := 3, cells := 14, slots := 91, locals := 61 }
def LX1_init : List (Nat × Nat) := [(0, 0), (14, 4), (2, 0), (13, 8), (13, 8), (2, 0), (13, 8), (13, 8), (2, 0), (13, 8), (13, 8), (2, 0), (13, 8), (13, 8)]
def rfX1_init (rf : Nat → Nat → Option Nat) (k N : Nat) : Nat → Nat → Option Nat := (uR (rfX0_init rf N (N + 1)) k 0 N)
theorem fre_X1_init {N k : Nat} {rf : Nat → Nat → Option Nat} {V : Vt} (hF : Fre N rf V) (hk : k < N) : Fre (N + 14) (rfX1_init rf k N) V := (Fre.ref (fre_X0_init (Fre.new hF) (by omega)) (by omega) (by omega))
set_option maxHeartbeats 4000000 in
set_option maxRecDepth 100000 in
theorem k_X1_init (l : Launch) (N : Nat) (kd ln ad : Nat → Nat) (rf : Nat → Nat → Option Nat) (V : Vt) (k : Nat) (hk : k < N) (hkk : kd k = 1) (hK : Kn kd ln N LX1_init) (hF : Fre N rf V) : CtG l yX1_init cX1_init 1 none rm_X1_init 14 91 (N, kd, rf, ln, ad) V [.ref (ad k)] (iPost N (N + 14) kd ln ad (rfX1_init rf k N) V) := by
  refine CtI_of (by decide) (Nat.le_of_ble_eq_true rfl) ?_
  intro p e s m below meth c A D cy ls hin C hl
  have hl : lv_has ls 1 [(0, .ref (ad k))] := hl
  refine j_aload_n C dX1_init_0 rfl (lv_at hl 0 rfl) ?_
  refine j_obj C wl_RX1_3 hl.1 (Nat.le_of_ble_eq_true rfl) (Nat.le_of_ble_eq_true rfl) dX1_init_1 ?_
  refine j_aload_n C dX1_init_4 rfl (lv_at hl 0 rfl) ?_
  refine j_new (N := N) C nw_RX1_9 ((hK 0 (by decide)).1) hF (Nat.le_of_ble_eq_true rfl) (Nat.le_of_ble_eq_true rfl) dX1_init_5 (fun ad1 h_1_ => ?_)
  refine j_dup C dX1_init_8 rfl ?_
  refine j_callI C [] [.ref (ad1 N), .ref (ad k)] (k_X0_init l (N + 1) kd ln ad1 rf V (N) (by omega) ((hK 0 (by decide)).1) (Kn_sub (d := 1) hK (by decide +kernel)) (Fre.new hF)) in_RX1_11 ⟨rfl, rfl, Nat.le_of_ble_eq_true rfl, Nat.le_of_ble_eq_true rfl⟩ rfl hl.1 rfl (Nat.le_of_ble_eq_true rfl) ⟨Nat.le_of_ble_eq_true rfl, Nat.le_of_ble_eq_true rfl⟩ dX1_init_9 (kIn fun ad2 h_2_ => ?_)
  refine j_putRF (k := k) (k2 := N) C hin f_RX1_12_1 pf_1_0 ⟨rfl, rfl⟩ (by omega) (hkk) ((h_2_ _ (by omega)).trans (h_1_ _ (by omega))) ((h_2_ _ (by omega))) dX1_init_12 ?_
  exact j_vret C ⟨rfl, ad2, fun j hj => (h_2_ j (by omega)).trans ((h_1_ j (by omega))), rfl, rfl⟩ dX1_init_15
abbrev rm_X11_init : Room := { frames := 4, cells := 55, slots := 624, locals := 81 }
def LX11_init : List (Nat × Nat) := [(0, 0), (14, 4), (2, 0), (13, 8), (13, 8), (2, 0), (13, 8), (13, 8), (2, 0), (13, 8), (13, 8), (2, 0), (13, 8), (13, 8), (15, 5), (5, 0), (13, 8), (13, 8), (13, 8), (16, 4), (10, 0), (9, 0), (13, 4), (13, 4), (13, 5), (13, 5), (1, 0), (0, 0), (14, 4), (2, 0), (13, 8), (13, 8), (2, 0), (13, 8), (13, 8), (2, 0), (13, 8), (13, 8), (2, 0), (13, 8), (13, 8), (4, 0), (13, 20), (13, 5), (13, 5), (13, 5), (13, 80), (7, 0), (13, 60), (7, 0), (13, 60), (7, 0), (13, 60), (7, 0), (13, 60)]
def rfX11_init (rf : Nat → Nat → Option Nat) (k N : Nat) : Nat → Nat → Option Nat := (uR (rfX7_init (uR (rfX7_init (uR (rfX7_init (uR (rfX7_init (uR (rfX4_init (uR (rfX1_init (uR (rfX9_init (uR (rfX10_init (uR (uR (rfX5_init (uR (uR (rfX0_init rf N (N + 1)) k 0 N) k 1 (N + 14)) (N + 15) (N + 16)) k 2 (N + 15)) k 3 (N + 19)) (N + 20) (N + 21)) k 4 (N + 20)) (N + 21) (N + 22)) k 5 (N + 21)) (N + 26) (N + 27)) k 6 (N + 26)) (N + 41) (N + 42)) k 7 (N + 41)) (N + 47) (N + 48)) (N + 19) 0 (N + 47)) (N + 49) (N + 50)) (N + 19) 1 (N + 49)) (N + 51) (N + 52)) (N + 19) 2 (N + 51)) (N + 53) (N + 54)) (N + 19) 3 (N + 53))
def vX11_init (V : Vt) (k N : Nat) : Vt := (vX7_init (vX7_init (vX7_init (vX7_init V (N + 47) (N + 48)) (N + 49) (N + 50)) (N + 51) (N + 52)) (N + 53) (N + 54))
theorem fre_X11_init {N k : Nat} {rf : Nat → Nat → Option Nat} {V : Vt} (hF : Fre N rf V) (hk : k < N) : Fre (N + 55) (rfX11_init rf k N) (vX11_init V k N) := (Fre.ref (fre_X7_init (Fre.new (Fre.ref (fre_X7_init (Fre.new (Fre.ref (fre_X7_init (Fre.new (Fre.ref (fre_X7_init (Fre.new (Fre.ref (fre_X4_init (Fre.new (Fre.ref (fre_X1_init (Fre.new (Fre.ref (fre_X9_init (Fre.new (Fre.ref (fre_X10_init (Fre.new (Fre.ref (Fre.new (Fre.ref (fre_X5_init (Fre.new (Fre.ref (Fre.new (Fre.ref (fre_X0_init (Fre.new hF) (by omega)) (by omega) (by omega))) (by omega) (by omega))) (by omega)) (by omega) (by omega))) (by omega) (by omega))) (by omega)) (by omega) (by omega))) (by omega)) (by omega) (by omega))) (by omega)) (by omega) (by omega))) (by omega)) (by omega) (by omega))) (by omega)) (by omega) (by omega))) (by omega)) (by omega) (by omega))) (by omega)) (by omega) (by omega))) (by omega)) (by omega) (by omega))
set_option maxHeartbeats 4000000 in
set_option maxRecDepth 100000 in
theorem k_X11_init (l : Launch) (N : Nat) (kd ln ad : Nat → Nat) (rf : Nat → Nat → Option Nat) (V : Vt) (k : Nat) (hk : k < N) (hkk : kd k = 11) (hK : Kn kd ln N LX11_init) (hF : Fre N rf V) : CtG l yX11_init cX11_init 2 none rm_X11_init 55 624 (N, kd, rf, ln, ad) V [.ref (ad k)] (iPost N (N + 55) kd ln ad (rfX11_init rf k N) (vX11_init V k N)) := by
  refine CtI_of (by decide) (Nat.le_of_ble_eq_true rfl) ?_
  intro p e s m below meth c A D cy ls hin C hl
  have hl : lv_has ls 2 [(0, .ref (ad k))] := hl
  refine j_aload_n C dX11_init_0 rfl (lv_at hl 0 rfl) ?_
  refine j_obj C wl_RX11_3 hl.1 (Nat.le_of_ble_eq_true rfl) (Nat.le_of_ble_eq_true rfl) dX11_init_1 ?_
  refine j_aload_n C dX11_init_4 rfl (lv_at hl 0 rfl) ?_
  refine j_new (N := N) C nw_RX11_9 ((hK 0 (by decide)).1) hF (Nat.le_of_ble_eq_true rfl) (Nat.le_of_ble_eq_true rfl) dX11_init_5 (fun ad1 h_1_ => ?_)
  refine j_dup C dX11_init_8 rfl ?_
  refine j_callI C [] [.ref (ad1 N), .ref (ad k)] (k_X0_init l (N + 1) kd ln ad1 rf V (N) (by omega) ((hK 0 (by decide)).1) (Kn_sub (d := 1) hK (by decide +kernel)) (Fre.new hF)) in_RX11_11 ⟨rfl, rfl, Nat.le_of_ble_eq_true rfl, Nat.le_of_ble_eq_true rfl⟩ rfl hl.1 rfl (Nat.le_of_ble_eq_true rfl) ⟨Nat.le_of_ble_eq_true rfl, Nat.le_of_ble_eq_true rfl⟩ dX11_init_9 (kIn fun ad2 h_2_ => ?_)
  refine j_putRF (k := k) (k2 := N) C hin f_RX11_12_11 pf_11_0 ⟨rfl, rfl⟩ (by omega) (hkk) ((h_2_ _ (by omega)).trans (h_1_ _ (by omega))) ((h_2_ _ (by omega))) dX11_init_12 ?_
  refine j_aload_n C dX11_init_15 rfl (lv_at hl 0 rfl) ?_
  refine j_iconst (v := 5) C dX11_init_16 (by decide) ?_
  refine j_newR15 (N := N + 14) (n := 5) C rfl (by decide) ((hK 14 (by decide)).1) ((hK 14 (by decide)).2) wl_RX11_18_c (Fre.ref (fre_X0_init (Fre.new hF) (by omega)) (by omega) (by omega)) (Nat.le_of_ble_eq_true rfl) (Nat.le_of_ble_eq_true rfl) dX11_init_17 (fun ad3 h_3_ => ?_)
  refine j_putRF (k := k) (k2 := N + 14) C hin f_RX11_20_11 pf_11_1 ⟨rfl, rfl⟩ (by omega) (hkk) ((h_3_ _ (by omega)).trans ((h_2_ _ (by omega)).trans (h_1_ _ (by omega)))) (rfl) dX11_init_20 ?_
  refine j_aload_n C dX11_init_23 rfl (lv_at hl 0 rfl) ?_
  refine j_new (N := N + 15) C nw_RX11_24 ((hK 15 (by decide)).1) (Fre.ref (Fre.new (Fre.ref (fre_X0_init (Fre.new hF) (by omega)) (by omega) (by omega))) (by omega) (by omega)) (Nat.le_of_ble_eq_true rfl) (Nat.le_of_ble_eq_true rfl) dX11_init_24 (fun ad4 h_4_ => ?_)
  refine j_dup C dX11_init_27 rfl ?_
  refine j_callIN C [] [.ref (ad4 (N + 15)), .ref (ad k)] (k_X5_init l (N + 16) kd ln ad4 (uR (uR (rfX0_init rf N (N + 1)) k 0 N) k 1 (N + 14)) V (N + 15) (by omega) ((hK 15 (by decide)).1) (Kn_sub (d := 16) hK (by decide +kernel)) (Fre.new (Fre.ref (Fre.new (Fre.ref (fre_X0_init (Fre.new hF) (by omega)) (by omega) (by omega))) (by omega) (by omega)))) in_RX11_26 ⟨rfl, rfl, Nat.le_of_ble_eq_true rfl, Nat.le_of_ble_eq_true rfl⟩ rfl hl.1 rfl (Nat.le_of_ble_eq_true rfl) ⟨Nat.le_of_ble_eq_true rfl, Nat.le_of_ble_eq_true rfl⟩ dX11_init_28 (kIn fun ad5 h_5_ => ?_)
  refine j_putRF (k := k) (k2 := N + 15) C hin f_RX11_27_11 pf_11_2 ⟨rfl, rfl⟩ (by omega) (hkk) ((h_5_ _ (by omega)).trans ((h_4_ _ (by omega)).trans ((h_3_ _ (by omega)).trans ((h_2_ _ (by omega)).trans (h_1_ _ (by omega)))))) ((h_5_ _ (by omega))) dX11_init_31 ?_
  refine j_aload_n C dX11_init_34 rfl (lv_at hl 0 rfl) ?_
  refine j_iconst (v := 4) C dX11_init_35 (by decide) ?_
  refine j_newR16 (N := N + 19) (n := 4) C rfl (by decide) ((hK 19 (by decide)).1) ((hK 19 (by decide)).2) wl_RX11_31_c (Fre.ref (fre_X5_init (Fre.new (Fre.ref (Fre.new (Fre.ref (fre_X0_init (Fre.new hF) (by omega)) (by omega) (by omega))) (by omega) (by omega))) (by omega)) (by omega) (by omega)) (Nat.le_of_ble_eq_true rfl) (Nat.le_of_ble_eq_true rfl) dX11_init_36 (fun ad6 h_6_ => ?_)
  refine j_putRF (k := k) (k2 := N + 19) C hin f_RX11_33_11 pf_11_3 ⟨rfl, rfl⟩ (by omega) (hkk) ((h_6_ _ (by omega)).trans ((h_5_ _ (by omega)).trans ((h_4_ _ (by omega)).trans ((h_3_ _ (by omega)).trans ((h_2_ _ (by omega)).trans (h_1_ _ (by omega))))))) (rfl) dX11_init_39 ?_
  refine j_aload_n C dX11_init_42 rfl (lv_at hl 0 rfl) ?_
  refine j_new (N := N + 20) C nw_RX11_37 ((hK 20 (by decide)).1) (Fre.ref (Fre.new (Fre.ref (fre_X5_init (Fre.new (Fre.ref (Fre.new (Fre.ref (fre_X0_init (Fre.new hF) (by omega)) (by omega) (by omega))) (by omega) (by omega))) (by omega)) (by omega) (by omega))) (by omega) (by omega)) (Nat.le_of_ble_eq_true rfl) (Nat.le_of_ble_eq_true rfl) dX11_init_43 (fun ad7 h_7_ => ?_)
  refine j_dup C dX11_init_46 rfl ?_
  refine j_callIN C [] [.ref (ad7 (N + 20)), .ref (ad k)] (k_X10_init l (N + 21) kd ln ad7 (uR (uR (rfX5_init (uR (uR (rfX0_init rf N (N + 1)) k 0 N) k 1 (N + 14)) (N + 15) (N + 16)) k 2 (N + 15)) k 3 (N + 19)) V (N + 20) (by omega) ((hK 20 (by decide)).1) (Kn_sub (d := 21) hK (by decide +kernel)) (Fre.new (Fre.ref (Fre.new (Fre.ref (fre_X5_init (Fre.new (Fre.ref (Fre.new (Fre.ref (fre_X0_init (Fre.new hF) (by omega)) (by omega) (by omega))) (by omega) (by omega))) (by omega)) (by omega) (by omega))) (by omega) (by omega)))) in_RX11_39 ⟨rfl, rfl, Nat.le_of_ble_eq_true rfl, Nat.le_of_ble_eq_true rfl⟩ rfl hl.1 rfl (Nat.le_of_ble_eq_true rfl) ⟨Nat.le_of_ble_eq_true rfl, Nat.le_of_ble_eq_true rfl⟩ dX11_init_47 (kIn fun ad8 h_8_ => ?_)
  refine j_putRF (k := k) (k2 := N + 20) C hin f_RX11_40_11 pf_11_4 ⟨rfl, rfl⟩ (by omega) (hkk) ((h_8_ _ (by omega)).trans ((h_7_ _ (by omega)).trans ((h_6_ _ (by omega)).trans ((h_5_ _ (by omega)).trans ((h_4_ _ (by omega)).trans ((h_3_ _ (by omega)).trans ((h_2_ _ (by omega)).trans (h_1_ _ (by omega))))))))) ((h_8_ _ (by omega))) dX11_init_50 ?_
  refine j_aload_n C dX11_init_53 rfl (lv_at hl 0 rfl) ?_
  refine j_new (N := N + 21) C nw_RX11_44 ((hK 21 (by decide)).1) (Fre.ref (fre_X10_init (Fre.new (Fre.ref (Fre.new (Fre.ref (fre_X5_init (Fre.new (Fre.ref (Fre.new (Fre.ref (fre_X0_init (Fre.new hF) (by omega)) (by omega) (by omega))) (by omega) (by omega))) (by omega)) (by omega) (by omega))) (by omega) (by omega))) (by omega)) (by omega) (by omega)) (Nat.le_of_ble_eq_true rfl) (Nat.le_of_ble_eq_true rfl) dX11_init_54 (fun ad9 h_9_ => ?_)
  refine j_dup C dX11_init_57 rfl ?_
  refine j_callIN C [] [.ref (ad9 (N + 21)), .ref (ad k)] (k_X9_init l (N + 22) kd ln ad9 (uR (rfX10_init (uR (uR (rfX5_init (uR (uR (rfX0_init rf N (N + 1)) k 0 N) k 1 (N + 14)) (N + 15) (N + 16)) k 2 (N + 15)) k 3 (N + 19)) (N + 20) (N + 21)) k 4 (N + 20)) V (N + 21) (by omega) ((hK 21 (by decide)).1) (Kn_sub (d := 22) hK (by decide +kernel)) (Fre.new (Fre.ref (fre_X10_init (Fre.new (Fre.ref (Fre.new (Fre.ref (fre_X5_init (Fre.new (Fre.ref (Fre.new (Fre.ref (fre_X0_init (Fre.new hF) (by omega)) (by omega) (by omega))) (by omega) (by omega))) (by omega)) (by omega) (by omega))) (by omega) (by omega))) (by omega)) (by omega) (by omega)))) in_RX11_46 ⟨rfl, rfl, Nat.le_of_ble_eq_true rfl, Nat.le_of_ble_eq_true rfl⟩ rfl hl.1 rfl (Nat.le_of_ble_eq_true rfl) ⟨Nat.le_of_ble_eq_true rfl, Nat.le_of_ble_eq_true rfl⟩ dX11_init_58 (kIn fun ad10 h_10_ => ?_)
  refine j_putRF (k := k) (k2 := N + 21) C hin f_RX11_47_11 pf_11_5 ⟨rfl, rfl⟩ (by omega) (hkk) ((h_10_ _ (by omega)).trans ((h_9_ _ (by omega)).trans ((h_8_ _ (by omega)).trans ((h_7_ _ (by omega)).trans ((h_6_ _ (by omega)).trans ((h_5_ _ (by omega)).trans ((h_4_ _ (by omega)).trans ((h_3_ _ (by omega)).trans ((h_2_ _ (by omega)).trans (h_1_ _ (by omega))))))))))) ((h_10_ _ (by omega))) dX11_init_61 ?_
  refine j_aload_n C dX11_init_64 rfl (lv_at hl 0 rfl) ?_
  refine j_new (N := N + 26) C nw_RX11_51 ((hK 26 (by decide)).1) (Fre.ref (fre_X9_init (Fre.new (Fre.ref (fre_X10_init (Fre.new (Fre.ref (Fre.new (Fre.ref (fre_X5_init (Fre.new (Fre.ref (Fre.new (Fre.ref (fre_X0_init (Fre.new hF) (by omega)) (by omega) (by omega))) (by omega) (by omega))) (by omega)) (by omega) (by omega))) (by omega) (by omega))) (by omega)) (by omega) (by omega))) (by omega)) (by omega) (by omega)) (Nat.le_of_ble_eq_true rfl) (Nat.le_of_ble_eq_true rfl) dX11_init_65 (fun ad11 h_11_ => ?_)
  refine j_dup C dX11_init_68 rfl ?_
  refine j_callIN C [] [.ref (ad11 (N + 26)), .ref (ad k)] (k_X1_init l (N + 27) kd ln ad11 (uR (rfX9_init (uR (rfX10_init (uR (uR (rfX5_init (uR (uR (rfX0_init rf N (N + 1)) k 0 N) k 1 (N + 14)) (N + 15) (N + 16)) k 2 (N + 15)) k 3 (N + 19)) (N + 20) (N + 21)) k 4 (N + 20)) (N + 21) (N + 22)) k 5 (N + 21)) V (N + 26) (by omega) ((hK 26 (by decide)).1) (Kn_sub (d := 27) hK (by decide +kernel)) (Fre.new (Fre.ref (fre_X9_init (Fre.new (Fre.ref (fre_X10_init (Fre.new (Fre.ref (Fre.new (Fre.ref (fre_X5_init (Fre.new (Fre.ref (Fre.new (Fre.ref (fre_X0_init (Fre.new hF) (by omega)) (by omega) (by omega))) (by omega) (by omega))) (by omega)) (by omega) (by omega))) (by omega) (by omega))) (by omega)) (by omega) (by omega))) (by omega)) (by omega) (by omega)))) in_RX11_53 ⟨rfl, rfl, Nat.le_of_ble_eq_true rfl, Nat.le_of_ble_eq_true rfl⟩ rfl hl.1 rfl (Nat.le_of_ble_eq_true rfl) ⟨Nat.le_of_ble_eq_true rfl, Nat.le_of_ble_eq_true rfl⟩ dX11_init_69 (kIn fun ad12 h_12_ => ?_)
  refine j_putRF (k := k) (k2 := N + 26) C hin f_RX11_54_11 pf_11_6 ⟨rfl, rfl⟩ (by omega) (hkk) ((h_12_ _ (by omega)).trans ((h_11_ _ (by omega)).trans ((h_10_ _ (by omega)).trans ((h_9_ _ (by omega)).trans ((h_8_ _ (by omega)).trans ((h_7_ _ (by omega)).trans ((h_6_ _ (by omega)).trans ((h_5_ _ (by omega)).trans ((h_4_ _ (by omega)).trans ((h_3_ _ (by omega)).trans ((h_2_ _ (by omega)).trans (h_1_ _ (by omega))))))))))))) ((h_12_ _ (by omega))) dX11_init_72 ?_
  refine j_aload_n C dX11_init_75 rfl (lv_at hl 0 rfl) ?_
  refine j_new (N := N + 41) C nw_RX11_58 ((hK 41 (by decide)).1) (Fre.ref (fre_X1_init (Fre.new (Fre.ref (fre_X9_init (Fre.new (Fre.ref (fre_X10_init (Fre.new (Fre.ref (Fre.new (Fre.ref (fre_X5_init (Fre.new (Fre.ref (Fre.new (Fre.ref (fre_X0_init (Fre.new hF) (by omega)) (by omega) (by omega))) (by omega) (by omega))) (by omega)) (by omega) (by omega))) (by omega) (by omega))) (by omega)) (by omega) (by omega))) (by omega)) (by omega) (by omega))) (by omega)) (by omega) (by omega)) (Nat.le_of_ble_eq_true rfl) (Nat.le_of_ble_eq_true rfl) dX11_init_76 (fun ad13 h_13_ => ?_)
  refine j_dup C dX11_init_79 rfl ?_
  refine j_callIN C [] [.ref (ad13 (N + 41)), .ref (ad k)] (k_X4_init l (N + 42) kd ln ad13 (uR (rfX1_init (uR (rfX9_init (uR (rfX10_init (uR (uR (rfX5_init (uR (uR (rfX0_init rf N (N + 1)) k 0 N) k 1 (N + 14)) (N + 15) (N + 16)) k 2 (N + 15)) k 3 (N + 19)) (N + 20) (N + 21)) k 4 (N + 20)) (N + 21) (N + 22)) k 5 (N + 21)) (N + 26) (N + 27)) k 6 (N + 26)) V (N + 41) (by omega) ((hK 41 (by decide)).1) (Kn_sub (d := 42) hK (by decide +kernel)) (Fre.new (Fre.ref (fre_X1_init (Fre.new (Fre.ref (fre_X9_init (Fre.new (Fre.ref (fre_X10_init (Fre.new (Fre.ref (Fre.new (Fre.ref (fre_X5_init (Fre.new (Fre.ref (Fre.new (Fre.ref (fre_X0_init (Fre.new hF) (by omega)) (by omega) (by omega))) (by omega) (by omega))) (by omega)) (by omega) (by omega))) (by omega) (by omega))) (by omega)) (by omega) (by omega))) (by omega)) (by omega) (by omega))) (by omega)) (by omega) (by omega)))) in_RX11_60 ⟨rfl, rfl, Nat.le_of_ble_eq_true rfl, Nat.le_of_ble_eq_true rfl⟩ rfl hl.1 rfl (Nat.le_of_ble_eq_true rfl) ⟨Nat.le_of_ble_eq_true rfl, Nat.le_of_ble_eq_true rfl⟩ dX11_init_80 (kIn fun ad14 h_14_ => ?_)
  refine j_putRF (k := k) (k2 := N + 41) C hin f_RX11_61_11 pf_11_7 ⟨rfl, rfl⟩ (by omega) (hkk) ((h_14_ _ (by omega)).trans ((h_13_ _ (by omega)).trans ((h_12_ _ (by omega)).trans ((h_11_ _ (by omega)).trans ((h_10_ _ (by omega)).trans ((h_9_ _ (by omega)).trans ((h_8_ _ (by omega)).trans ((h_7_ _ (by omega)).trans ((h_6_ _ (by omega)).trans ((h_5_ _ (by omega)).trans ((h_4_ _ (by omega)).trans ((h_3_ _ (by omega)).trans ((h_2_ _ (by omega)).trans (h_1_ _ (by omega))))))))))))))) ((h_14_ _ (by omega))) dX11_init_83 ?_
  refine j_iconst (v := 0) C dX11_init_86 (by decide) ?_
  refine j_istore_n (lv2 := [(1, .int (0)), (0, .ref (ad k))]) C dX11_init_87 rfl hl (by decide) rfl (fun ls hl => ?_)
  refine j_iload_n C dX11_init_88 rfl (lv_at hl 0 rfl) ?_
  refine j_aload_n C dX11_init_89 rfl (lv_at hl 1 rfl) ?_
  refine j_getRa (k := k) (k2 := N + 19) C f_RX11_33_11 (by omega) (hkk) (by simp only [rfX0_init, rfX10_init, rfX1_init, rfX2_init, rfX4_init, rfX5_init, rfX7_init, rfX9_init]; repeat first | exact uR_s _ _ _ _ | rw [uR_o _ _ (by omega)]) ((h_14_ _ (by omega)).trans ((h_13_ _ (by omega)).trans ((h_12_ _ (by omega)).trans ((h_11_ _ (by omega)).trans ((h_10_ _ (by omega)).trans ((h_9_ _ (by omega)).trans ((h_8_ _ (by omega)).trans ((h_7_ _ (by omega)).trans ((h_6_ _ (by omega)).trans ((h_5_ _ (by omega)).trans ((h_4_ _ (by omega)).trans ((h_3_ _ (by omega)).trans ((h_2_ _ (by omega)).trans (h_1_ _ (by omega))))))))))))))) dX11_init_90 ?_
  refine j_alena (k := N + 19) (n := 4) C (by omega) (Or.inr (Or.inr (Or.inr ((hK 19 (by decide)).1)))) ((hK 19 (by decide)).2) (rfl) dX11_init_93 ?_
  refine j_icmp_ge (tgt := 116) C dX11_init_94 (by decide) (fun c_9_ => ?_) (fun c_9_ => ?_)
  · exact absurd c_9_ (by decide)
  refine j_aload_n C dX11_init_97 rfl (lv_at hl 1 rfl) ?_
  refine j_getRa (k := k) (k2 := N + 19) C f_RX11_33_11 (by omega) (hkk) (by simp only [rfX0_init, rfX10_init, rfX1_init, rfX2_init, rfX4_init, rfX5_init, rfX7_init, rfX9_init]; repeat first | exact uR_s _ _ _ _ | rw [uR_o _ _ (by omega)]) ((h_14_ _ (by omega)).trans ((h_13_ _ (by omega)).trans ((h_12_ _ (by omega)).trans ((h_11_ _ (by omega)).trans ((h_10_ _ (by omega)).trans ((h_9_ _ (by omega)).trans ((h_8_ _ (by omega)).trans ((h_7_ _ (by omega)).trans ((h_6_ _ (by omega)).trans ((h_5_ _ (by omega)).trans ((h_4_ _ (by omega)).trans ((h_3_ _ (by omega)).trans ((h_2_ _ (by omega)).trans (h_1_ _ (by omega))))))))))))))) dX11_init_98 ?_
  refine j_iload_n C dX11_init_101 rfl (lv_at hl 0 rfl) ?_
  refine j_new (N := N + 47) C nw_RX11_31 ((hK 47 (by decide)).1) (Fre.ref (fre_X4_init (Fre.new (Fre.ref (fre_X1_init (Fre.new (Fre.ref (fre_X9_init (Fre.new (Fre.ref (fre_X10_init (Fre.new (Fre.ref (Fre.new (Fre.ref (fre_X5_init (Fre.new (Fre.ref (Fre.new (Fre.ref (fre_X0_init (Fre.new hF) (by omega)) (by omega) (by omega))) (by omega) (by omega))) (by omega)) (by omega) (by omega))) (by omega) (by omega))) (by omega)) (by omega) (by omega))) (by omega)) (by omega) (by omega))) (by omega)) (by omega) (by omega))) (by omega)) (by omega) (by omega)) (Nat.le_of_ble_eq_true rfl) (Nat.le_of_ble_eq_true rfl) dX11_init_102 (fun ad15 h_15_ => ?_)
  refine j_dup C dX11_init_105 rfl ?_
  refine j_callIN C [] [.ref (ad15 (N + 47)), .int (0), .ref (ad14 (N + 19))] (k_X7_init l (N + 48) kd ln ad15 (uR (rfX4_init (uR (rfX1_init (uR (rfX9_init (uR (rfX10_init (uR (uR (rfX5_init (uR (uR (rfX0_init rf N (N + 1)) k 0 N) k 1 (N + 14)) (N + 15) (N + 16)) k 2 (N + 15)) k 3 (N + 19)) (N + 20) (N + 21)) k 4 (N + 20)) (N + 21) (N + 22)) k 5 (N + 21)) (N + 26) (N + 27)) k 6 (N + 26)) (N + 41) (N + 42)) k 7 (N + 41)) V (N + 47) (by omega) ((hK 47 (by decide)).1) (Kn_sub (d := 48) hK (by decide +kernel)) (Fre.new (Fre.ref (fre_X4_init (Fre.new (Fre.ref (fre_X1_init (Fre.new (Fre.ref (fre_X9_init (Fre.new (Fre.ref (fre_X10_init (Fre.new (Fre.ref (Fre.new (Fre.ref (fre_X5_init (Fre.new (Fre.ref (Fre.new (Fre.ref (fre_X0_init (Fre.new hF) (by omega)) (by omega) (by omega))) (by omega) (by omega))) (by omega)) (by omega) (by omega))) (by omega) (by omega))) (by omega)) (by omega) (by omega))) (by omega)) (by omega) (by omega))) (by omega)) (by omega) (by omega))) (by omega)) (by omega) (by omega)))) in_RX11_65 ⟨rfl, rfl, Nat.le_of_ble_eq_true rfl, Nat.le_of_ble_eq_true rfl⟩ rfl hl.1 rfl (Nat.le_of_ble_eq_true rfl) ⟨Nat.le_of_ble_eq_true rfl, Nat.le_of_ble_eq_true rfl⟩ dX11_init_106 (kIn fun ad16 h_16_ => ?_)
  refine j_aastS (k := N + 19) (k2 := N + 47) (n := 4) (j := 0) C (by decide) (by omega) ((hK 19 (by decide)).1) ((hK 19 (by decide)).2) (show vp_in (nI 0) 4 from vp_in_nI (by decide) (by decide)) ((h_16_ _ (by omega)).trans (h_15_ _ (by omega))) (by omega) ((hK 47 (by decide)).1) ((h_16_ _ (by omega))) dX11_init_109 ?_
  refine j_iinc (v := 1) (lv2 := [(1, .int (1)), (0, .ref (ad k))]) C dX11_init_110 hl (k0 := 0) rfl (by decide) (by decide) rfl (fun ls hl => ?_)
  refine j_goto (tgt := 88) C dX11_init_113 (by decide) ?_
  refine j_iload_n C dX11_init_88 rfl (lv_at hl 0 rfl) ?_
  refine j_aload_n C dX11_init_89 rfl (lv_at hl 1 rfl) ?_
  refine j_getRa (k := k) (k2 := N + 19) C f_RX11_33_11 (by omega) (hkk) (by simp only [rfX0_init, rfX10_init, rfX1_init, rfX2_init, rfX4_init, rfX5_init, rfX7_init, rfX9_init]; repeat first | exact uR_s _ _ _ _ | rw [uR_o _ _ (by omega)]) ((h_16_ _ (by omega)).trans ((h_15_ _ (by omega)).trans ((h_14_ _ (by omega)).trans ((h_13_ _ (by omega)).trans ((h_12_ _ (by omega)).trans ((h_11_ _ (by omega)).trans ((h_10_ _ (by omega)).trans ((h_9_ _ (by omega)).trans ((h_8_ _ (by omega)).trans ((h_7_ _ (by omega)).trans ((h_6_ _ (by omega)).trans ((h_5_ _ (by omega)).trans ((h_4_ _ (by omega)).trans ((h_3_ _ (by omega)).trans ((h_2_ _ (by omega)).trans (h_1_ _ (by omega))))))))))))))))) dX11_init_90 ?_
  refine j_alena (k := N + 19) (n := 4) C (by omega) (Or.inr (Or.inr (Or.inr ((hK 19 (by decide)).1)))) ((hK 19 (by decide)).2) (rfl) dX11_init_93 ?_
  refine j_icmp_ge (tgt := 116) C dX11_init_94 (by decide) (fun c_9_ => ?_) (fun c_9_ => ?_)
  · exact absurd c_9_ (by decide)
  refine j_aload_n C dX11_init_97 rfl (lv_at hl 1 rfl) ?_
  refine j_getRa (k := k) (k2 := N + 19) C f_RX11_33_11 (by omega) (hkk) (by simp only [rfX0_init, rfX10_init, rfX1_init, rfX2_init, rfX4_init, rfX5_init, rfX7_init, rfX9_init]; repeat first | exact uR_s _ _ _ _ | rw [uR_o _ _ (by omega)]) ((h_16_ _ (by omega)).trans ((h_15_ _ (by omega)).trans ((h_14_ _ (by omega)).trans ((h_13_ _ (by omega)).trans ((h_12_ _ (by omega)).trans ((h_11_ _ (by omega)).trans ((h_10_ _ (by omega)).trans ((h_9_ _ (by omega)).trans ((h_8_ _ (by omega)).trans ((h_7_ _ (by omega)).trans ((h_6_ _ (by omega)).trans ((h_5_ _ (by omega)).trans ((h_4_ _ (by omega)).trans ((h_3_ _ (by omega)).trans ((h_2_ _ (by omega)).trans (h_1_ _ (by omega))))))))))))))))) dX11_init_98 ?_
  refine j_iload_n C dX11_init_101 rfl (lv_at hl 0 rfl) ?_
  refine j_new (N := N + 49) C nw_RX11_31 ((hK 49 (by decide)).1) (Fre.ref (fre_X7_init (Fre.new (Fre.ref (fre_X4_init (Fre.new (Fre.ref (fre_X1_init (Fre.new (Fre.ref (fre_X9_init (Fre.new (Fre.ref (fre_X10_init (Fre.new (Fre.ref (Fre.new (Fre.ref (fre_X5_init (Fre.new (Fre.ref (Fre.new (Fre.ref (fre_X0_init (Fre.new hF) (by omega)) (by omega) (by omega))) (by omega) (by omega))) (by omega)) (by omega) (by omega))) (by omega) (by omega))) (by omega)) (by omega) (by omega))) (by omega)) (by omega) (by omega))) (by omega)) (by omega) (by omega))) (by omega)) (by omega) (by omega))) (by omega)) (by omega) (by omega)) (Nat.le_of_ble_eq_true rfl) (Nat.le_of_ble_eq_true rfl) dX11_init_102 (fun ad17 h_17_ => ?_)
  refine j_dup C dX11_init_105 rfl ?_
  refine j_callIN C [] [.ref (ad17 (N + 49)), .int (1), .ref (ad16 (N + 19))] (k_X7_init l (N + 50) kd ln ad17 (uR (rfX7_init (uR (rfX4_init (uR (rfX1_init (uR (rfX9_init (uR (rfX10_init (uR (uR (rfX5_init (uR (uR (rfX0_init rf N (N + 1)) k 0 N) k 1 (N + 14)) (N + 15) (N + 16)) k 2 (N + 15)) k 3 (N + 19)) (N + 20) (N + 21)) k 4 (N + 20)) (N + 21) (N + 22)) k 5 (N + 21)) (N + 26) (N + 27)) k 6 (N + 26)) (N + 41) (N + 42)) k 7 (N + 41)) (N + 47) (N + 48)) (N + 19) 0 (N + 47)) (vX7_init V (N + 47) (N + 48)) (N + 49) (by omega) ((hK 49 (by decide)).1) (Kn_sub (d := 50) hK (by decide +kernel)) (Fre.new (Fre.ref (fre_X7_init (Fre.new (Fre.ref (fre_X4_init (Fre.new (Fre.ref (fre_X1_init (Fre.new (Fre.ref (fre_X9_init (Fre.new (Fre.ref (fre_X10_init (Fre.new (Fre.ref (Fre.new (Fre.ref (fre_X5_init (Fre.new (Fre.ref (Fre.new (Fre.ref (fre_X0_init (Fre.new hF) (by omega)) (by omega) (by omega))) (by omega) (by omega))) (by omega)) (by omega) (by omega))) (by omega) (by omega))) (by omega)) (by omega) (by omega))) (by omega)) (by omega) (by omega))) (by omega)) (by omega) (by omega))) (by omega)) (by omega) (by omega))) (by omega)) (by omega) (by omega)))) in_RX11_65 ⟨rfl, rfl, Nat.le_of_ble_eq_true rfl, Nat.le_of_ble_eq_true rfl⟩ rfl hl.1 rfl (Nat.le_of_ble_eq_true rfl) ⟨Nat.le_of_ble_eq_true rfl, Nat.le_of_ble_eq_true rfl⟩ dX11_init_106 (kIn fun ad18 h_18_ => ?_)
  refine j_aastS (k := N + 19) (k2 := N + 49) (n := 4) (j := 1) C (by decide) (by omega) ((hK 19 (by decide)).1) ((hK 19 (by decide)).2) (show vp_in (nI 1) 4 from vp_in_nI (by decide) (by decide)) ((h_18_ _ (by omega)).trans (h_17_ _ (by omega))) (by omega) ((hK 49 (by decide)).1) ((h_18_ _ (by omega))) dX11_init_109 ?_
  refine j_iinc (v := 2) (lv2 := [(1, .int (2)), (0, .ref (ad k))]) C dX11_init_110 hl (k0 := 0) rfl (by decide) (by decide) rfl (fun ls hl => ?_)
  refine j_goto (tgt := 88) C dX11_init_113 (by decide) ?_
  refine j_iload_n C dX11_init_88 rfl (lv_at hl 0 rfl) ?_
  refine j_aload_n C dX11_init_89 rfl (lv_at hl 1 rfl) ?_
  refine j_getRa (k := k) (k2 := N + 19) C f_RX11_33_11 (by omega) (hkk) (by simp only [rfX0_init, rfX10_init, rfX1_init, rfX2_init, rfX4_init, rfX5_init, rfX7_init, rfX9_init]; repeat first | exact uR_s _ _ _ _ | rw [uR_o _ _ (by omega)]) ((h_18_ _ (by omega)).trans ((h_17_ _ (by omega)).trans ((h_16_ _ (by omega)).trans ((h_15_ _ (by omega)).trans ((h_14_ _ (by omega)).trans ((h_13_ _ (by omega)).trans ((h_12_ _ (by omega)).trans ((h_11_ _ (by omega)).trans ((h_10_ _ (by omega)).trans ((h_9_ _ (by omega)).trans ((h_8_ _ (by omega)).trans ((h_7_ _ (by omega)).trans ((h_6_ _ (by omega)).trans ((h_5_ _ (by omega)).trans ((h_4_ _ (by omega)).trans ((h_3_ _ (by omega)).trans ((h_2_ _ (by omega)).trans (h_1_ _ (by omega))))))))))))))))))) dX11_init_90 ?_
  refine j_alena (k := N + 19) (n := 4) C (by omega) (Or.inr (Or.inr (Or.inr ((hK 19 (by decide)).1)))) ((hK 19 (by decide)).2) (rfl) dX11_init_93 ?_
  refine j_icmp_ge (tgt := 116) C dX11_init_94 (by decide) (fun c_9_ => ?_) (fun c_9_ => ?_)
  · exact absurd c_9_ (by decide)
  refine j_aload_n C dX11_init_97 rfl (lv_at hl 1 rfl) ?_
  refine j_getRa (k := k) (k2 := N + 19) C f_RX11_33_11 (by omega) (hkk) (by simp only [rfX0_init, rfX10_init, rfX1_init, rfX2_init, rfX4_init, rfX5_init, rfX7_init, rfX9_init]; repeat first | exact uR_s _ _ _ _ | rw [uR_o _ _ (by omega)]) ((h_18_ _ (by omega)).trans ((h_17_ _ (by omega)).trans ((h_16_ _ (by omega)).trans ((h_15_ _ (by omega)).trans ((h_14_ _ (by omega)).trans ((h_13_ _ (by omega)).trans ((h_12_ _ (by omega)).trans ((h_11_ _ (by omega)).trans ((h_10_ _ (by omega)).trans ((h_9_ _ (by omega)).trans ((h_8_ _ (by omega)).trans ((h_7_ _ (by omega)).trans ((h_6_ _ (by omega)).trans ((h_5_ _ (by omega)).trans ((h_4_ _ (by omega)).trans ((h_3_ _ (by omega)).trans ((h_2_ _ (by omega)).trans (h_1_ _ (by omega))))))))))))))))))) dX11_init_98 ?_
  refine j_iload_n C dX11_init_101 rfl (lv_at hl 0 rfl) ?_
  refine j_new (N := N + 51) C nw_RX11_31 ((hK 51 (by decide)).1) (Fre.ref (fre_X7_init (Fre.new (Fre.ref (fre_X7_init (Fre.new (Fre.ref (fre_X4_init (Fre.new (Fre.ref (fre_X1_init (Fre.new (Fre.ref (fre_X9_init (Fre.new (Fre.ref (fre_X10_init (Fre.new (Fre.ref (Fre.new (Fre.ref (fre_X5_init (Fre.new (Fre.ref (Fre.new (Fre.ref (fre_X0_init (Fre.new hF) (by omega)) (by omega) (by omega))) (by omega) (by omega))) (by omega)) (by omega) (by omega))) (by omega) (by omega))) (by omega)) (by omega) (by omega))) (by omega)) (by omega) (by omega))) (by omega)) (by omega) (by omega))) (by omega)) (by omega) (by omega))) (by omega)) (by omega) (by omega))) (by omega)) (by omega) (by omega)) (Nat.le_of_ble_eq_true rfl) (Nat.le_of_ble_eq_true rfl) dX11_init_102 (fun ad19 h_19_ => ?_)
  refine j_dup C dX11_init_105 rfl ?_
  refine j_callIN C [] [.ref (ad19 (N + 51)), .int (2), .ref (ad18 (N + 19))] (k_X7_init l (N + 52) kd ln ad19 (uR (rfX7_init (uR (rfX7_init (uR (rfX4_init (uR (rfX1_init (uR (rfX9_init (uR (rfX10_init (uR (uR (rfX5_init (uR (uR (rfX0_init rf N (N + 1)) k 0 N) k 1 (N + 14)) (N + 15) (N + 16)) k 2 (N + 15)) k 3 (N + 19)) (N + 20) (N + 21)) k 4 (N + 20)) (N + 21) (N + 22)) k 5 (N + 21)) (N + 26) (N + 27)) k 6 (N + 26)) (N + 41) (N + 42)) k 7 (N + 41)) (N + 47) (N + 48)) (N + 19) 0 (N + 47)) (N + 49) (N + 50)) (N + 19) 1 (N + 49)) (vX7_init (vX7_init V (N + 47) (N + 48)) (N + 49) (N + 50)) (N + 51) (by omega) ((hK 51 (by decide)).1) (Kn_sub (d := 52) hK (by decide +kernel)) (Fre.new (Fre.ref (fre_X7_init (Fre.new (Fre.ref (fre_X7_init (Fre.new (Fre.ref (fre_X4_init (Fre.new (Fre.ref (fre_X1_init (Fre.new (Fre.ref (fre_X9_init (Fre.new (Fre.ref (fre_X10_init (Fre.new (Fre.ref (Fre.new (Fre.ref (fre_X5_init (Fre.new (Fre.ref (Fre.new (Fre.ref (fre_X0_init (Fre.new hF) (by omega)) (by omega) (by omega))) (by omega) (by omega))) (by omega)) (by omega) (by omega))) (by omega) (by omega))) (by omega)) (by omega) (by omega))) (by omega)) (by omega) (by omega))) (by omega)) (by omega) (by omega))) (by omega)) (by omega) (by omega))) (by omega)) (by omega) (by omega))) (by omega)) (by omega) (by omega)))) in_RX11_65 ⟨rfl, rfl, Nat.le_of_ble_eq_true rfl, Nat.le_of_ble_eq_true rfl⟩ rfl hl.1 rfl (Nat.le_of_ble_eq_true rfl) ⟨Nat.le_of_ble_eq_true rfl, Nat.le_of_ble_eq_true rfl⟩ dX11_init_106 (kIn fun ad20 h_20_ => ?_)
  refine j_aastS (k := N + 19) (k2 := N + 51) (n := 4) (j := 2) C (by decide) (by omega) ((hK 19 (by decide)).1) ((hK 19 (by decide)).2) (show vp_in (nI 2) 4 from vp_in_nI (by decide) (by decide)) ((h_20_ _ (by omega)).trans (h_19_ _ (by omega))) (by omega) ((hK 51 (by decide)).1) ((h_20_ _ (by omega))) dX11_init_109 ?_
  refine j_iinc (v := 3) (lv2 := [(1, .int (3)), (0, .ref (ad k))]) C dX11_init_110 hl (k0 := 0) rfl (by decide) (by decide) rfl (fun ls hl => ?_)
  refine j_goto (tgt := 88) C dX11_init_113 (by decide) ?_
  refine j_iload_n C dX11_init_88 rfl (lv_at hl 0 rfl) ?_
  refine j_aload_n C dX11_init_89 rfl (lv_at hl 1 rfl) ?_
  refine j_getRa (k := k) (k2 := N + 19) C f_RX11_33_11 (by omega) (hkk) (by simp only [rfX0_init, rfX10_init, rfX1_init, rfX2_init, rfX4_init, rfX5_init, rfX7_init, rfX9_init]; repeat first | exact uR_s _ _ _ _ | rw [uR_o _ _ (by omega)]) ((h_20_ _ (by omega)).trans ((h_19_ _ (by omega)).trans ((h_18_ _ (by omega)).trans ((h_17_ _ (by omega)).trans ((h_16_ _ (by omega)).trans ((h_15_ _ (by omega)).trans ((h_14_ _ (by omega)).trans ((h_13_ _ (by omega)).trans ((h_12_ _ (by omega)).trans ((h_11_ _ (by omega)).trans ((h_10_ _ (by omega)).trans ((h_9_ _ (by omega)).trans ((h_8_ _ (by omega)).trans ((h_7_ _ (by omega)).trans ((h_6_ _ (by omega)).trans ((h_5_ _ (by omega)).trans ((h_4_ _ (by omega)).trans ((h_3_ _ (by omega)).trans ((h_2_ _ (by omega)).trans (h_1_ _ (by omega))))))))))))))))))))) dX11_init_90 ?_
  refine j_alena (k := N + 19) (n := 4) C (by omega) (Or.inr (Or.inr (Or.inr ((hK 19 (by decide)).1)))) ((hK 19 (by decide)).2) (rfl) dX11_init_93 ?_
  refine j_icmp_ge (tgt := 116) C dX11_init_94 (by decide) (fun c_9_ => ?_) (fun c_9_ => ?_)
  · exact absurd c_9_ (by decide)
  refine j_aload_n C dX11_init_97 rfl (lv_at hl 1 rfl) ?_
  refine j_getRa (k := k) (k2 := N + 19) C f_RX11_33_11 (by omega) (hkk) (by simp only [rfX0_init, rfX10_init, rfX1_init, rfX2_init, rfX4_init, rfX5_init, rfX7_init, rfX9_init]; repeat first | exact uR_s _ _ _ _ | rw [uR_o _ _ (by omega)]) ((h_20_ _ (by omega)).trans ((h_19_ _ (by omega)).trans ((h_18_ _ (by omega)).trans ((h_17_ _ (by omega)).trans ((h_16_ _ (by omega)).trans ((h_15_ _ (by omega)).trans ((h_14_ _ (by omega)).trans ((h_13_ _ (by omega)).trans ((h_12_ _ (by omega)).trans ((h_11_ _ (by omega)).trans ((h_10_ _ (by omega)).trans ((h_9_ _ (by omega)).trans ((h_8_ _ (by omega)).trans ((h_7_ _ (by omega)).trans ((h_6_ _ (by omega)).trans ((h_5_ _ (by omega)).trans ((h_4_ _ (by omega)).trans ((h_3_ _ (by omega)).trans ((h_2_ _ (by omega)).trans (h_1_ _ (by omega))))))))))))))))))))) dX11_init_98 ?_
  refine j_iload_n C dX11_init_101 rfl (lv_at hl 0 rfl) ?_
  refine j_new (N := N + 53) C nw_RX11_31 ((hK 53 (by decide)).1) (Fre.ref (fre_X7_init (Fre.new (Fre.ref (fre_X7_init (Fre.new (Fre.ref (fre_X7_init (Fre.new (Fre.ref (fre_X4_init (Fre.new (Fre.ref (fre_X1_init (Fre.new (Fre.ref (fre_X9_init (Fre.new (Fre.ref (fre_X10_init (Fre.new (Fre.ref (Fre.new (Fre.ref (fre_X5_init (Fre.new (Fre.ref (Fre.new (Fre.ref (fre_X0_init (Fre.new hF) (by omega)) (by omega) (by omega))) (by omega) (by omega))) (by omega)) (by omega) (by omega))) (by omega) (by omega))) (by omega)) (by omega) (by omega))) (by omega)) (by omega) (by omega))) (by omega)) (by omega) (by omega))) (by omega)) (by omega) (by omega))) (by omega)) (by omega) (by omega))) (by omega)) (by omega) (by omega))) (by omega)) (by omega) (by omega)) (Nat.le_of_ble_eq_true rfl) (Nat.le_of_ble_eq_true rfl) dX11_init_102 (fun ad21 h_21_ => ?_)
  refine j_dup C dX11_init_105 rfl ?_
  refine j_callIN C [] [.ref (ad21 (N + 53)), .int (3), .ref (ad20 (N + 19))] (k_X7_init l (N + 54) kd ln ad21 (uR (rfX7_init (uR (rfX7_init (uR (rfX7_init (uR (rfX4_init (uR (rfX1_init (uR (rfX9_init (uR (rfX10_init (uR (uR (rfX5_init (uR (uR (rfX0_init rf N (N + 1)) k 0 N) k 1 (N + 14)) (N + 15) (N + 16)) k 2 (N + 15)) k 3 (N + 19)) (N + 20) (N + 21)) k 4 (N + 20)) (N + 21) (N + 22)) k 5 (N + 21)) (N + 26) (N + 27)) k 6 (N + 26)) (N + 41) (N + 42)) k 7 (N + 41)) (N + 47) (N + 48)) (N + 19) 0 (N + 47)) (N + 49) (N + 50)) (N + 19) 1 (N + 49)) (N + 51) (N + 52)) (N + 19) 2 (N + 51)) (vX7_init (vX7_init (vX7_init V (N + 47) (N + 48)) (N + 49) (N + 50)) (N + 51) (N + 52)) (N + 53) (by omega) ((hK 53 (by decide)).1) (Kn_sub (d := 54) hK (by decide +kernel)) (Fre.new (Fre.ref (fre_X7_init (Fre.new (Fre.ref (fre_X7_init (Fre.new (Fre.ref (fre_X7_init (Fre.new (Fre.ref (fre_X4_init (Fre.new (Fre.ref (fre_X1_init (Fre.new (Fre.ref (fre_X9_init (Fre.new (Fre.ref (fre_X10_init (Fre.new (Fre.ref (Fre.new (Fre.ref (fre_X5_init (Fre.new (Fre.ref (Fre.new (Fre.ref (fre_X0_init (Fre.new hF) (by omega)) (by omega) (by omega))) (by omega) (by omega))) (by omega)) (by omega) (by omega))) (by omega) (by omega))) (by omega)) (by omega) (by omega))) (by omega)) (by omega) (by omega))) (by omega)) (by omega) (by omega))) (by omega)) (by omega) (by omega))) (by omega)) (by omega) (by omega))) (by omega)) (by omega) (by omega))) (by omega)) (by omega) (by omega)))) in_RX11_65 ⟨rfl, rfl, Nat.le_of_ble_eq_true rfl, Nat.le_of_ble_eq_true rfl⟩ rfl hl.1 rfl (Nat.le_of_ble_eq_true rfl) ⟨Nat.le_of_ble_eq_true rfl, Nat.le_of_ble_eq_true rfl⟩ dX11_init_106 (kIn fun ad22 h_22_ => ?_)
  refine j_aastS (k := N + 19) (k2 := N + 53) (n := 4) (j := 3) C (by decide) (by omega) ((hK 19 (by decide)).1) ((hK 19 (by decide)).2) (show vp_in (nI 3) 4 from vp_in_nI (by decide) (by decide)) ((h_22_ _ (by omega)).trans (h_21_ _ (by omega))) (by omega) ((hK 53 (by decide)).1) ((h_22_ _ (by omega))) dX11_init_109 ?_
  refine j_iinc (v := 4) (lv2 := [(1, .int (4)), (0, .ref (ad k))]) C dX11_init_110 hl (k0 := 0) rfl (by decide) (by decide) rfl (fun ls hl => ?_)
  refine j_goto (tgt := 88) C dX11_init_113 (by decide) ?_
  refine j_iload_n C dX11_init_88 rfl (lv_at hl 0 rfl) ?_
  refine j_aload_n C dX11_init_89 rfl (lv_at hl 1 rfl) ?_
  refine j_getRa (k := k) (k2 := N + 19) C f_RX11_33_11 (by omega) (hkk) (by simp only [rfX0_init, rfX10_init, rfX1_init, rfX2_init, rfX4_init, rfX5_init, rfX7_init, rfX9_init]; repeat first | exact uR_s _ _ _ _ | rw [uR_o _ _ (by omega)]) ((h_22_ _ (by omega)).trans ((h_21_ _ (by omega)).trans ((h_20_ _ (by omega)).trans ((h_19_ _ (by omega)).trans ((h_18_ _ (by omega)).trans ((h_17_ _ (by omega)).trans ((h_16_ _ (by omega)).trans ((h_15_ _ (by omega)).trans ((h_14_ _ (by omega)).trans ((h_13_ _ (by omega)).trans ((h_12_ _ (by omega)).trans ((h_11_ _ (by omega)).trans ((h_10_ _ (by omega)).trans ((h_9_ _ (by omega)).trans ((h_8_ _ (by omega)).trans ((h_7_ _ (by omega)).trans ((h_6_ _ (by omega)).trans ((h_5_ _ (by omega)).trans ((h_4_ _ (by omega)).trans ((h_3_ _ (by omega)).trans ((h_2_ _ (by omega)).trans (h_1_ _ (by omega))))))))))))))))))))))) dX11_init_90 ?_
  refine j_alena (k := N + 19) (n := 4) C (by omega) (Or.inr (Or.inr (Or.inr ((hK 19 (by decide)).1)))) ((hK 19 (by decide)).2) (rfl) dX11_init_93 ?_
  refine j_icmp_ge (tgt := 116) C dX11_init_94 (by decide) (fun c_9_ => ?_) (fun c_9_ => ?_)
  rotate_left
  · exact absurd (by decide) c_9_
  exact j_vret C ⟨rfl, ad22, fun j hj => (h_22_ j (by omega)).trans ((h_21_ j (by omega)).trans ((h_20_ j (by omega)).trans ((h_19_ j (by omega)).trans ((h_18_ j (by omega)).trans ((h_17_ j (by omega)).trans ((h_16_ j (by omega)).trans ((h_15_ j (by omega)).trans ((h_14_ j (by omega)).trans ((h_13_ j (by omega)).trans ((h_12_ j (by omega)).trans ((h_11_ j (by omega)).trans ((h_10_ j (by omega)).trans ((h_9_ j (by omega)).trans ((h_8_ j (by omega)).trans ((h_7_ j (by omega)).trans ((h_6_ j (by omega)).trans ((h_5_ j (by omega)).trans ((h_4_ j (by omega)).trans ((h_3_ j (by omega)).trans ((h_2_ j (by omega)).trans ((h_1_ j (by omega))))))))))))))))))))))), rfl, rfl⟩ dX11_init_116
abbrev rm_X12_init : Room := { frames := 1, cells := 23, slots := 468, locals := 20 }
def LX12_init : List (Nat × Nat) := [(13, 4), (13, 4), (13, 240), (13, 4), (13, 4), (13, 5), (13, 5), (13, 4), (13, 32), (13, 32), (13, 8), (13, 10), (13, 4), (13, 32), (13, 32), (13, 5), (13, 5), (13, 5), (13, 4), (13, 5), (13, 8), (13, 8), (13, 8)]
def rfX12_init (rf : Nat → Nat → Option Nat) (k N : Nat) : Nat → Nat → Option Nat := (uR (uR (uR (uR (uR (uR (uR (uR (uR (uR (uR (uR (uR (uR (uR (uR (uR (uR (uR (uR (uR (uR (uR rf k 2 N) k 3 (N + 1)) k 4 (N + 2)) k 8 (N + 3)) k 9 (N + 4)) k 10 (N + 5)) k 11 (N + 6)) k 12 (N + 7)) k 13 (N + 8)) k 14 (N + 9)) k 19 (N + 10)) k 20 (N + 11)) k 22 (N + 12)) k 23 (N + 13)) k 24 (N + 14)) k 27 (N + 15)) k 28 (N + 16)) k 31 (N + 17)) k 32 (N + 18)) k 33 (N + 19)) k 35 (N + 20)) k 36 (N + 21)) k 37 (N + 22))
def vX12_init (V : Vt) (k N : Nat) : Vt := (up2 (up2 (up2 (up2 V N 0 (-9)) N 1 (-9)) N 2 (-9)) N 3 (-9))
theorem fre_X12_init {N k : Nat} {rf : Nat → Nat → Option Nat} {V : Vt} (hF : Fre N rf V) (hk : k < N) : Fre (N + 23) (rfX12_init rf k N) (vX12_init V k N) := (Fre.ref (Fre.new (Fre.ref (Fre.new (Fre.ref (Fre.new (Fre.ref (Fre.new (Fre.ref (Fre.new (Fre.ref (Fre.new (Fre.ref (Fre.new (Fre.ref (Fre.new (Fre.ref (Fre.new (Fre.ref (Fre.new (Fre.ref (Fre.new (Fre.ref (Fre.new (Fre.ref (Fre.new (Fre.ref (Fre.new (Fre.ref (Fre.new (Fre.ref (Fre.new (Fre.ref (Fre.new (Fre.ref (Fre.new (Fre.ref (Fre.new (Fre.ref (Fre.new (Fre.ref (Fre.new (Fre.ref (Fre.new (Fre.ref (Fre.up (Fre.up (Fre.up (Fre.up (Fre.new hF) (by omega)) (by omega)) (by omega)) (by omega)) (by omega) (by omega))) (by omega) (by omega))) (by omega) (by omega))) (by omega) (by omega))) (by omega) (by omega))) (by omega) (by omega))) (by omega) (by omega))) (by omega) (by omega))) (by omega) (by omega))) (by omega) (by omega))) (by omega) (by omega))) (by omega) (by omega))) (by omega) (by omega))) (by omega) (by omega))) (by omega) (by omega))) (by omega) (by omega))) (by omega) (by omega))) (by omega) (by omega))) (by omega) (by omega))) (by omega) (by omega))) (by omega) (by omega))) (by omega) (by omega))) (by omega) (by omega))
set_option maxHeartbeats 4000000 in
set_option maxRecDepth 100000 in
theorem k_X12_init (l : Launch) (N : Nat) (kd ln ad : Nat → Nat) (rf : Nat → Nat → Option Nat) (V : Vt) (k : Nat) (hk : k < N) (hkk : kd k = 12) (hK : Kn kd ln N LX12_init) (hF : Fre N rf V) : CtG l yX12_init cX12_init 1 none rm_X12_init 23 468 (N, kd, rf, ln, ad) V [.ref (ad k)] (iPost N (N + 23) kd ln ad (rfX12_init rf k N) (vX12_init V k N)) := by
  refine CtI_of (by decide) (Nat.le_of_ble_eq_true rfl) ?_
  intro p e s m below meth c A D cy ls hin C hl
  have hl : lv_has ls 1 [(0, .ref (ad k))] := hl
  refine j_aload_n C dX12_init_0 rfl (lv_at hl 0 rfl) ?_
  refine j_obj C wl_RX12_1 hl.1 (Nat.le_of_ble_eq_true rfl) (Nat.le_of_ble_eq_true rfl) dX12_init_1 ?_
  refine j_aload_n C dX12_init_4 rfl (lv_at hl 0 rfl) ?_
  refine j_iconst (v := 4) C dX12_init_5 (by decide) ?_
  refine j_newI (N := N) (n := 4) C rfl (by decide) ((hK 0 (by decide)).1) ((hK 0 (by decide)).2) hF (Nat.le_of_ble_eq_true rfl) (Nat.le_of_ble_eq_true rfl) dX12_init_6 (fun ad1 h_1_ => ?_)
  refine j_dup C dX12_init_8 rfl ?_
  refine j_iconst (v := 0) C dX12_init_9 (by decide) ?_
  refine j_bipush (v := (-9)) C dX12_init_10 (by decide) ?_
  refine j_iasta (k := N) (n := 4) (j := 0) C (by decide) (by omega) ((hK 0 (by decide)).1) ((hK 0 (by decide)).2) (show vp_in (nI 0) 4 from vp_in_nI (by decide) (by decide)) (rfl) dX12_init_12 ?_
  refine j_dup C dX12_init_13 rfl ?_
  refine j_iconst (v := 1) C dX12_init_14 (by decide) ?_
  refine j_bipush (v := (-9)) C dX12_init_15 (by decide) ?_
  refine j_iasta (k := N) (n := 4) (j := 1) C (by decide) (by omega) ((hK 0 (by decide)).1) ((hK 0 (by decide)).2) (show vp_in (nI 1) 4 from vp_in_nI (by decide) (by decide)) (rfl) dX12_init_17 ?_
  refine j_dup C dX12_init_18 rfl ?_
  refine j_iconst (v := 2) C dX12_init_19 (by decide) ?_
  refine j_bipush (v := (-9)) C dX12_init_20 (by decide) ?_
  refine j_iasta (k := N) (n := 4) (j := 2) C (by decide) (by omega) ((hK 0 (by decide)).1) ((hK 0 (by decide)).2) (show vp_in (nI 2) 4 from vp_in_nI (by decide) (by decide)) (rfl) dX12_init_22 ?_
  refine j_dup C dX12_init_23 rfl ?_
  refine j_iconst (v := 3) C dX12_init_24 (by decide) ?_
  refine j_bipush (v := (-9)) C dX12_init_25 (by decide) ?_
  refine j_iasta (k := N) (n := 4) (j := 3) C (by decide) (by omega) ((hK 0 (by decide)).1) ((hK 0 (by decide)).2) (show vp_in (nI 3) 4 from vp_in_nI (by decide) (by decide)) (rfl) dX12_init_27 ?_
  refine j_putRF (k := k) (k2 := N) C hin f_RX12_9_12 pf_12_2 ⟨rfl, rfl⟩ (by omega) (hkk) ((h_1_ _ (by omega))) (rfl) dX12_init_28 ?_
  refine j_aload_n C dX12_init_31 rfl (lv_at hl 0 rfl) ?_
  refine j_iconst (v := 4) C dX12_init_32 (by decide) ?_
  refine j_newI (N := N + 1) (n := 4) C rfl (by decide) ((hK 1 (by decide)).1) ((hK 1 (by decide)).2) (Fre.ref (Fre.up (Fre.up (Fre.up (Fre.up (Fre.new hF) (by omega)) (by omega)) (by omega)) (by omega)) (by omega) (by omega)) (Nat.le_of_ble_eq_true rfl) (Nat.le_of_ble_eq_true rfl) dX12_init_33 (fun ad2 h_2_ => ?_)
  refine j_putRF (k := k) (k2 := N + 1) C hin f_RX12_13_12 pf_12_3 ⟨rfl, rfl⟩ (by omega) (hkk) ((h_2_ _ (by omega)).trans (h_1_ _ (by omega))) (rfl) dX12_init_35 ?_
  refine j_aload_n C dX12_init_38 rfl (lv_at hl 0 rfl) ?_
  refine j_sipush (v := 240) C dX12_init_39 (by decide) ?_
  refine j_newI (N := N + 2) (n := 240) C rfl (by decide) ((hK 2 (by decide)).1) ((hK 2 (by decide)).2) (Fre.ref (Fre.new (Fre.ref (Fre.up (Fre.up (Fre.up (Fre.up (Fre.new hF) (by omega)) (by omega)) (by omega)) (by omega)) (by omega) (by omega))) (by omega) (by omega)) (Nat.le_of_ble_eq_true rfl) (Nat.le_of_ble_eq_true rfl) dX12_init_42 (fun ad3 h_3_ => ?_)
  refine j_putRF (k := k) (k2 := N + 2) C hin f_RX12_16_12 pf_12_4 ⟨rfl, rfl⟩ (by omega) (hkk) ((h_3_ _ (by omega)).trans ((h_2_ _ (by omega)).trans (h_1_ _ (by omega)))) (rfl) dX12_init_44 ?_
  refine j_aload_n C dX12_init_47 rfl (lv_at hl 0 rfl) ?_
  refine j_iconst (v := 4) C dX12_init_48 (by decide) ?_
  refine j_newI (N := N + 3) (n := 4) C rfl (by decide) ((hK 3 (by decide)).1) ((hK 3 (by decide)).2) (Fre.ref (Fre.new (Fre.ref (Fre.new (Fre.ref (Fre.up (Fre.up (Fre.up (Fre.up (Fre.new hF) (by omega)) (by omega)) (by omega)) (by omega)) (by omega) (by omega))) (by omega) (by omega))) (by omega) (by omega)) (Nat.le_of_ble_eq_true rfl) (Nat.le_of_ble_eq_true rfl) dX12_init_49 (fun ad4 h_4_ => ?_)
  refine j_putRF (k := k) (k2 := N + 3) C hin f_RX12_19_12 pf_12_8 ⟨rfl, rfl⟩ (by omega) (hkk) ((h_4_ _ (by omega)).trans ((h_3_ _ (by omega)).trans ((h_2_ _ (by omega)).trans (h_1_ _ (by omega))))) (rfl) dX12_init_51 ?_
  refine j_aload_n C dX12_init_54 rfl (lv_at hl 0 rfl) ?_
  refine j_iconst (v := 4) C dX12_init_55 (by decide) ?_
  refine j_newI (N := N + 4) (n := 4) C rfl (by decide) ((hK 4 (by decide)).1) ((hK 4 (by decide)).2) (Fre.ref (Fre.new (Fre.ref (Fre.new (Fre.ref (Fre.new (Fre.ref (Fre.up (Fre.up (Fre.up (Fre.up (Fre.new hF) (by omega)) (by omega)) (by omega)) (by omega)) (by omega) (by omega))) (by omega) (by omega))) (by omega) (by omega))) (by omega) (by omega)) (Nat.le_of_ble_eq_true rfl) (Nat.le_of_ble_eq_true rfl) dX12_init_56 (fun ad5 h_5_ => ?_)
  refine j_putRF (k := k) (k2 := N + 4) C hin f_RX12_22_12 pf_12_9 ⟨rfl, rfl⟩ (by omega) (hkk) ((h_5_ _ (by omega)).trans ((h_4_ _ (by omega)).trans ((h_3_ _ (by omega)).trans ((h_2_ _ (by omega)).trans (h_1_ _ (by omega)))))) (rfl) dX12_init_58 ?_
  refine j_aload_n C dX12_init_61 rfl (lv_at hl 0 rfl) ?_
  refine j_iconst (v := 5) C dX12_init_62 (by decide) ?_
  refine j_newI (N := N + 5) (n := 5) C rfl (by decide) ((hK 5 (by decide)).1) ((hK 5 (by decide)).2) (Fre.ref (Fre.new (Fre.ref (Fre.new (Fre.ref (Fre.new (Fre.ref (Fre.new (Fre.ref (Fre.up (Fre.up (Fre.up (Fre.up (Fre.new hF) (by omega)) (by omega)) (by omega)) (by omega)) (by omega) (by omega))) (by omega) (by omega))) (by omega) (by omega))) (by omega) (by omega))) (by omega) (by omega)) (Nat.le_of_ble_eq_true rfl) (Nat.le_of_ble_eq_true rfl) dX12_init_63 (fun ad6 h_6_ => ?_)
  refine j_putRF (k := k) (k2 := N + 5) C hin f_RX12_25_12 pf_12_10 ⟨rfl, rfl⟩ (by omega) (hkk) ((h_6_ _ (by omega)).trans ((h_5_ _ (by omega)).trans ((h_4_ _ (by omega)).trans ((h_3_ _ (by omega)).trans ((h_2_ _ (by omega)).trans (h_1_ _ (by omega))))))) (rfl) dX12_init_65 ?_
  refine j_aload_n C dX12_init_68 rfl (lv_at hl 0 rfl) ?_
  refine j_iconst (v := 5) C dX12_init_69 (by decide) ?_
  refine j_newI (N := N + 6) (n := 5) C rfl (by decide) ((hK 6 (by decide)).1) ((hK 6 (by decide)).2) (Fre.ref (Fre.new (Fre.ref (Fre.new (Fre.ref (Fre.new (Fre.ref (Fre.new (Fre.ref (Fre.new (Fre.ref (Fre.up (Fre.up (Fre.up (Fre.up (Fre.new hF) (by omega)) (by omega)) (by omega)) (by omega)) (by omega) (by omega))) (by omega) (by omega))) (by omega) (by omega))) (by omega) (by omega))) (by omega) (by omega))) (by omega) (by omega)) (Nat.le_of_ble_eq_true rfl) (Nat.le_of_ble_eq_true rfl) dX12_init_70 (fun ad7 h_7_ => ?_)
  refine j_putRF (k := k) (k2 := N + 6) C hin f_RX12_28_12 pf_12_11 ⟨rfl, rfl⟩ (by omega) (hkk) ((h_7_ _ (by omega)).trans ((h_6_ _ (by omega)).trans ((h_5_ _ (by omega)).trans ((h_4_ _ (by omega)).trans ((h_3_ _ (by omega)).trans ((h_2_ _ (by omega)).trans (h_1_ _ (by omega)))))))) (rfl) dX12_init_72 ?_
  refine j_aload_n C dX12_init_75 rfl (lv_at hl 0 rfl) ?_
  refine j_iconst (v := 4) C dX12_init_76 (by decide) ?_
  refine j_newI (N := N + 7) (n := 4) C rfl (by decide) ((hK 7 (by decide)).1) ((hK 7 (by decide)).2) (Fre.ref (Fre.new (Fre.ref (Fre.new (Fre.ref (Fre.new (Fre.ref (Fre.new (Fre.ref (Fre.new (Fre.ref (Fre.new (Fre.ref (Fre.up (Fre.up (Fre.up (Fre.up (Fre.new hF) (by omega)) (by omega)) (by omega)) (by omega)) (by omega) (by omega))) (by omega) (by omega))) (by omega) (by omega))) (by omega) (by omega))) (by omega) (by omega))) (by omega) (by omega))) (by omega) (by omega)) (Nat.le_of_ble_eq_true rfl) (Nat.le_of_ble_eq_true rfl) dX12_init_77 (fun ad8 h_8_ => ?_)
  refine j_putRF (k := k) (k2 := N + 7) C hin f_RX12_31_12 pf_12_12 ⟨rfl, rfl⟩ (by omega) (hkk) ((h_8_ _ (by omega)).trans ((h_7_ _ (by omega)).trans ((h_6_ _ (by omega)).trans ((h_5_ _ (by omega)).trans ((h_4_ _ (by omega)).trans ((h_3_ _ (by omega)).trans ((h_2_ _ (by omega)).trans (h_1_ _ (by omega))))))))) (rfl) dX12_init_79 ?_
  refine j_aload_n C dX12_init_82 rfl (lv_at hl 0 rfl) ?_
  refine j_bipush (v := 32) C dX12_init_83 (by decide) ?_
  refine j_newI (N := N + 8) (n := 32) C rfl (by decide) ((hK 8 (by decide)).1) ((hK 8 (by decide)).2) (Fre.ref (Fre.new (Fre.ref (Fre.new (Fre.ref (Fre.new (Fre.ref (Fre.new (Fre.ref (Fre.new (Fre.ref (Fre.new (Fre.ref (Fre.new (Fre.ref (Fre.up (Fre.up (Fre.up (Fre.up (Fre.new hF) (by omega)) (by omega)) (by omega)) (by omega)) (by omega) (by omega))) (by omega) (by omega))) (by omega) (by omega))) (by omega) (by omega))) (by omega) (by omega))) (by omega) (by omega))) (by omega) (by omega))) (by omega) (by omega)) (Nat.le_of_ble_eq_true rfl) (Nat.le_of_ble_eq_true rfl) dX12_init_85 (fun ad9 h_9_ => ?_)
  refine j_putRF (k := k) (k2 := N + 8) C hin f_RX12_34_12 pf_12_13 ⟨rfl, rfl⟩ (by omega) (hkk) ((h_9_ _ (by omega)).trans ((h_8_ _ (by omega)).trans ((h_7_ _ (by omega)).trans ((h_6_ _ (by omega)).trans ((h_5_ _ (by omega)).trans ((h_4_ _ (by omega)).trans ((h_3_ _ (by omega)).trans ((h_2_ _ (by omega)).trans (h_1_ _ (by omega)))))))))) (rfl) dX12_init_87 ?_
  refine j_aload_n C dX12_init_90 rfl (lv_at hl 0 rfl) ?_
  refine j_bipush (v := 32) C dX12_init_91 (by decide) ?_
  refine j_newI (N := N + 9) (n := 32) C rfl (by decide) ((hK 9 (by decide)).1) ((hK 9 (by decide)).2) (Fre.ref (Fre.new (Fre.ref (Fre.new (Fre.ref (Fre.new (Fre.ref (Fre.new (Fre.ref (Fre.new (Fre.ref (Fre.new (Fre.ref (Fre.new (Fre.ref (Fre.new (Fre.ref (Fre.up (Fre.up (Fre.up (Fre.up (Fre.new hF) (by omega)) (by omega)) (by omega)) (by omega)) (by omega) (by omega))) (by omega) (by omega))) (by omega) (by omega))) (by omega) (by omega))) (by omega) (by omega))) (by omega) (by omega))) (by omega) (by omega))) (by omega) (by omega))) (by omega) (by omega)) (Nat.le_of_ble_eq_true rfl) (Nat.le_of_ble_eq_true rfl) dX12_init_93 (fun ad10 h_10_ => ?_)
  refine j_putRF (k := k) (k2 := N + 9) C hin f_RX12_37_12 pf_12_14 ⟨rfl, rfl⟩ (by omega) (hkk) ((h_10_ _ (by omega)).trans ((h_9_ _ (by omega)).trans ((h_8_ _ (by omega)).trans ((h_7_ _ (by omega)).trans ((h_6_ _ (by omega)).trans ((h_5_ _ (by omega)).trans ((h_4_ _ (by omega)).trans ((h_3_ _ (by omega)).trans ((h_2_ _ (by omega)).trans (h_1_ _ (by omega))))))))))) (rfl) dX12_init_95 ?_
  refine j_aload_n C dX12_init_98 rfl (lv_at hl 0 rfl) ?_
  refine j_bipush (v := 8) C dX12_init_99 (by decide) ?_
  refine j_newI (N := N + 10) (n := 8) C rfl (by decide) ((hK 10 (by decide)).1) ((hK 10 (by decide)).2) (Fre.ref (Fre.new (Fre.ref (Fre.new (Fre.ref (Fre.new (Fre.ref (Fre.new (Fre.ref (Fre.new (Fre.ref (Fre.new (Fre.ref (Fre.new (Fre.ref (Fre.new (Fre.ref (Fre.new (Fre.ref (Fre.up (Fre.up (Fre.up (Fre.up (Fre.new hF) (by omega)) (by omega)) (by omega)) (by omega)) (by omega) (by omega))) (by omega) (by omega))) (by omega) (by omega))) (by omega) (by omega))) (by omega) (by omega))) (by omega) (by omega))) (by omega) (by omega))) (by omega) (by omega))) (by omega) (by omega))) (by omega) (by omega)) (Nat.le_of_ble_eq_true rfl) (Nat.le_of_ble_eq_true rfl) dX12_init_101 (fun ad11 h_11_ => ?_)
  refine j_putRF (k := k) (k2 := N + 10) C hin f_RX12_40_12 pf_12_19 ⟨rfl, rfl⟩ (by omega) (hkk) ((h_11_ _ (by omega)).trans ((h_10_ _ (by omega)).trans ((h_9_ _ (by omega)).trans ((h_8_ _ (by omega)).trans ((h_7_ _ (by omega)).trans ((h_6_ _ (by omega)).trans ((h_5_ _ (by omega)).trans ((h_4_ _ (by omega)).trans ((h_3_ _ (by omega)).trans ((h_2_ _ (by omega)).trans (h_1_ _ (by omega)))))))))))) (rfl) dX12_init_103 ?_
  refine j_aload_n C dX12_init_106 rfl (lv_at hl 0 rfl) ?_
  refine j_bipush (v := 10) C dX12_init_107 (by decide) ?_
  refine j_newI (N := N + 11) (n := 10) C rfl (by decide) ((hK 11 (by decide)).1) ((hK 11 (by decide)).2) (Fre.ref (Fre.new (Fre.ref (Fre.new (Fre.ref (Fre.new (Fre.ref (Fre.new (Fre.ref (Fre.new (Fre.ref (Fre.new (Fre.ref (Fre.new (Fre.ref (Fre.new (Fre.ref (Fre.new (Fre.ref (Fre.new (Fre.ref (Fre.up (Fre.up (Fre.up (Fre.up (Fre.new hF) (by omega)) (by omega)) (by omega)) (by omega)) (by omega) (by omega))) (by omega) (by omega))) (by omega) (by omega))) (by omega) (by omega))) (by omega) (by omega))) (by omega) (by omega))) (by omega) (by omega))) (by omega) (by omega))) (by omega) (by omega))) (by omega) (by omega))) (by omega) (by omega)) (Nat.le_of_ble_eq_true rfl) (Nat.le_of_ble_eq_true rfl) dX12_init_109 (fun ad12 h_12_ => ?_)
  refine j_putRF (k := k) (k2 := N + 11) C hin f_RX12_43_12 pf_12_20 ⟨rfl, rfl⟩ (by omega) (hkk) ((h_12_ _ (by omega)).trans ((h_11_ _ (by omega)).trans ((h_10_ _ (by omega)).trans ((h_9_ _ (by omega)).trans ((h_8_ _ (by omega)).trans ((h_7_ _ (by omega)).trans ((h_6_ _ (by omega)).trans ((h_5_ _ (by omega)).trans ((h_4_ _ (by omega)).trans ((h_3_ _ (by omega)).trans ((h_2_ _ (by omega)).trans (h_1_ _ (by omega))))))))))))) (rfl) dX12_init_111 ?_
  refine j_aload_n C dX12_init_114 rfl (lv_at hl 0 rfl) ?_
  refine j_iconst (v := 4) C dX12_init_115 (by decide) ?_
  refine j_newI (N := N + 12) (n := 4) C rfl (by decide) ((hK 12 (by decide)).1) ((hK 12 (by decide)).2) (Fre.ref (Fre.new (Fre.ref (Fre.new (Fre.ref (Fre.new (Fre.ref (Fre.new (Fre.ref (Fre.new (Fre.ref (Fre.new (Fre.ref (Fre.new (Fre.ref (Fre.new (Fre.ref (Fre.new (Fre.ref (Fre.new (Fre.ref (Fre.new (Fre.ref (Fre.up (Fre.up (Fre.up (Fre.up (Fre.new hF) (by omega)) (by omega)) (by omega)) (by omega)) (by omega) (by omega))) (by omega) (by omega))) (by omega) (by omega))) (by omega) (by omega))) (by omega) (by omega))) (by omega) (by omega))) (by omega) (by omega))) (by omega) (by omega))) (by omega) (by omega))) (by omega) (by omega))) (by omega) (by omega))) (by omega) (by omega)) (Nat.le_of_ble_eq_true rfl) (Nat.le_of_ble_eq_true rfl) dX12_init_116 (fun ad13 h_13_ => ?_)
  refine j_putRF (k := k) (k2 := N + 12) C hin f_RX12_46_12 pf_12_22 ⟨rfl, rfl⟩ (by omega) (hkk) ((h_13_ _ (by omega)).trans ((h_12_ _ (by omega)).trans ((h_11_ _ (by omega)).trans ((h_10_ _ (by omega)).trans ((h_9_ _ (by omega)).trans ((h_8_ _ (by omega)).trans ((h_7_ _ (by omega)).trans ((h_6_ _ (by omega)).trans ((h_5_ _ (by omega)).trans ((h_4_ _ (by omega)).trans ((h_3_ _ (by omega)).trans ((h_2_ _ (by omega)).trans (h_1_ _ (by omega)))))))))))))) (rfl) dX12_init_118 ?_
  refine j_aload_n C dX12_init_121 rfl (lv_at hl 0 rfl) ?_
  refine j_bipush (v := 32) C dX12_init_122 (by decide) ?_
  refine j_newI (N := N + 13) (n := 32) C rfl (by decide) ((hK 13 (by decide)).1) ((hK 13 (by decide)).2) (Fre.ref (Fre.new (Fre.ref (Fre.new (Fre.ref (Fre.new (Fre.ref (Fre.new (Fre.ref (Fre.new (Fre.ref (Fre.new (Fre.ref (Fre.new (Fre.ref (Fre.new (Fre.ref (Fre.new (Fre.ref (Fre.new (Fre.ref (Fre.new (Fre.ref (Fre.new (Fre.ref (Fre.up (Fre.up (Fre.up (Fre.up (Fre.new hF) (by omega)) (by omega)) (by omega)) (by omega)) (by omega) (by omega))) (by omega) (by omega))) (by omega) (by omega))) (by omega) (by omega))) (by omega) (by omega))) (by omega) (by omega))) (by omega) (by omega))) (by omega) (by omega))) (by omega) (by omega))) (by omega) (by omega))) (by omega) (by omega))) (by omega) (by omega))) (by omega) (by omega)) (Nat.le_of_ble_eq_true rfl) (Nat.le_of_ble_eq_true rfl) dX12_init_124 (fun ad14 h_14_ => ?_)
  refine j_putRF (k := k) (k2 := N + 13) C hin f_RX12_49_12 pf_12_23 ⟨rfl, rfl⟩ (by omega) (hkk) ((h_14_ _ (by omega)).trans ((h_13_ _ (by omega)).trans ((h_12_ _ (by omega)).trans ((h_11_ _ (by omega)).trans ((h_10_ _ (by omega)).trans ((h_9_ _ (by omega)).trans ((h_8_ _ (by omega)).trans ((h_7_ _ (by omega)).trans ((h_6_ _ (by omega)).trans ((h_5_ _ (by omega)).trans ((h_4_ _ (by omega)).trans ((h_3_ _ (by omega)).trans ((h_2_ _ (by omega)).trans (h_1_ _ (by omega))))))))))))))) (rfl) dX12_init_126 ?_
  refine j_aload_n C dX12_init_129 rfl (lv_at hl 0 rfl) ?_
  refine j_bipush (v := 32) C dX12_init_130 (by decide) ?_
  refine j_newI (N := N + 14) (n := 32) C rfl (by decide) ((hK 14 (by decide)).1) ((hK 14 (by decide)).2) (Fre.ref (Fre.new (Fre.ref (Fre.new (Fre.ref (Fre.new (Fre.ref (Fre.new (Fre.ref (Fre.new (Fre.ref (Fre.new (Fre.ref (Fre.new (Fre.ref (Fre.new (Fre.ref (Fre.new (Fre.ref (Fre.new (Fre.ref (Fre.new (Fre.ref (Fre.new (Fre.ref (Fre.new (Fre.ref (Fre.up (Fre.up (Fre.up (Fre.up (Fre.new hF) (by omega)) (by omega)) (by omega)) (by omega)) (by omega) (by omega))) (by omega) (by omega))) (by omega) (by omega))) (by omega) (by omega))) (by omega) (by omega))) (by omega) (by omega))) (by omega) (by omega))) (by omega) (by omega))) (by omega) (by omega))) (by omega) (by omega))) (by omega) (by omega))) (by omega) (by omega))) (by omega) (by omega))) (by omega) (by omega)) (Nat.le_of_ble_eq_true rfl) (Nat.le_of_ble_eq_true rfl) dX12_init_132 (fun ad15 h_15_ => ?_)
  refine j_putRF (k := k) (k2 := N + 14) C hin f_RX12_52_12 pf_12_24 ⟨rfl, rfl⟩ (by omega) (hkk) ((h_15_ _ (by omega)).trans ((h_14_ _ (by omega)).trans ((h_13_ _ (by omega)).trans ((h_12_ _ (by omega)).trans ((h_11_ _ (by omega)).trans ((h_10_ _ (by omega)).trans ((h_9_ _ (by omega)).trans ((h_8_ _ (by omega)).trans ((h_7_ _ (by omega)).trans ((h_6_ _ (by omega)).trans ((h_5_ _ (by omega)).trans ((h_4_ _ (by omega)).trans ((h_3_ _ (by omega)).trans ((h_2_ _ (by omega)).trans (h_1_ _ (by omega)))))))))))))))) (rfl) dX12_init_134 ?_
  refine j_aload_n C dX12_init_137 rfl (lv_at hl 0 rfl) ?_
  refine j_iconst (v := 5) C dX12_init_138 (by decide) ?_
  refine j_newI (N := N + 15) (n := 5) C rfl (by decide) ((hK 15 (by decide)).1) ((hK 15 (by decide)).2) (Fre.ref (Fre.new (Fre.ref (Fre.new (Fre.ref (Fre.new (Fre.ref (Fre.new (Fre.ref (Fre.new (Fre.ref (Fre.new (Fre.ref (Fre.new (Fre.ref (Fre.new (Fre.ref (Fre.new (Fre.ref (Fre.new (Fre.ref (Fre.new (Fre.ref (Fre.new (Fre.ref (Fre.new (Fre.ref (Fre.new (Fre.ref (Fre.up (Fre.up (Fre.up (Fre.up (Fre.new hF) (by omega)) (by omega)) (by omega)) (by omega)) (by omega) (by omega))) (by omega) (by omega))) (by omega) (by omega))) (by omega) (by omega))) (by omega) (by omega))) (by omega) (by omega))) (by omega) (by omega))) (by omega) (by omega))) (by omega) (by omega))) (by omega) (by omega))) (by omega) (by omega))) (by omega) (by omega))) (by omega) (by omega))) (by omega) (by omega))) (by omega) (by omega)) (Nat.le_of_ble_eq_true rfl) (Nat.le_of_ble_eq_true rfl) dX12_init_139 (fun ad16 h_16_ => ?_)
  refine j_putRF (k := k) (k2 := N + 15) C hin f_RX12_55_12 pf_12_27 ⟨rfl, rfl⟩ (by omega) (hkk) ((h_16_ _ (by omega)).trans ((h_15_ _ (by omega)).trans ((h_14_ _ (by omega)).trans ((h_13_ _ (by omega)).trans ((h_12_ _ (by omega)).trans ((h_11_ _ (by omega)).trans ((h_10_ _ (by omega)).trans ((h_9_ _ (by omega)).trans ((h_8_ _ (by omega)).trans ((h_7_ _ (by omega)).trans ((h_6_ _ (by omega)).trans ((h_5_ _ (by omega)).trans ((h_4_ _ (by omega)).trans ((h_3_ _ (by omega)).trans ((h_2_ _ (by omega)).trans (h_1_ _ (by omega))))))))))))))))) (rfl) dX12_init_141 ?_
  refine j_aload_n C dX12_init_144 rfl (lv_at hl 0 rfl) ?_
  refine j_iconst (v := 5) C dX12_init_145 (by decide) ?_
  refine j_newI (N := N + 16) (n := 5) C rfl (by decide) ((hK 16 (by decide)).1) ((hK 16 (by decide)).2) (Fre.ref (Fre.new (Fre.ref (Fre.new (Fre.ref (Fre.new (Fre.ref (Fre.new (Fre.ref (Fre.new (Fre.ref (Fre.new (Fre.ref (Fre.new (Fre.ref (Fre.new (Fre.ref (Fre.new (Fre.ref (Fre.new (Fre.ref (Fre.new (Fre.ref (Fre.new (Fre.ref (Fre.new (Fre.ref (Fre.new (Fre.ref (Fre.new (Fre.ref (Fre.up (Fre.up (Fre.up (Fre.up (Fre.new hF) (by omega)) (by omega)) (by omega)) (by omega)) (by omega) (by omega))) (by omega) (by omega))) (by omega) (by omega))) (by omega) (by omega))) (by omega) (by omega))) (by omega) (by omega))) (by omega) (by omega))) (by omega) (by omega))) (by omega) (by omega))) (by omega) (by omega))) (by omega) (by omega))) (by omega) (by omega))) (by omega) (by omega))) (by omega) (by omega))) (by omega) (by omega))) (by omega) (by omega)) (Nat.le_of_ble_eq_true rfl) (Nat.le_of_ble_eq_true rfl) dX12_init_146 (fun ad17 h_17_ => ?_)
  refine j_putRF (k := k) (k2 := N + 16) C hin f_RX12_58_12 pf_12_28 ⟨rfl, rfl⟩ (by omega) (hkk) ((h_17_ _ (by omega)).trans ((h_16_ _ (by omega)).trans ((h_15_ _ (by omega)).trans ((h_14_ _ (by omega)).trans ((h_13_ _ (by omega)).trans ((h_12_ _ (by omega)).trans ((h_11_ _ (by omega)).trans ((h_10_ _ (by omega)).trans ((h_9_ _ (by omega)).trans ((h_8_ _ (by omega)).trans ((h_7_ _ (by omega)).trans ((h_6_ _ (by omega)).trans ((h_5_ _ (by omega)).trans ((h_4_ _ (by omega)).trans ((h_3_ _ (by omega)).trans ((h_2_ _ (by omega)).trans (h_1_ _ (by omega)))))))))))))))))) (rfl) dX12_init_148 ?_
  refine j_aload_n C dX12_init_151 rfl (lv_at hl 0 rfl) ?_
  refine j_iconst (v := 5) C dX12_init_152 (by decide) ?_
  refine j_newI (N := N + 17) (n := 5) C rfl (by decide) ((hK 17 (by decide)).1) ((hK 17 (by decide)).2) (Fre.ref (Fre.new (Fre.ref (Fre.new (Fre.ref (Fre.new (Fre.ref (Fre.new (Fre.ref (Fre.new (Fre.ref (Fre.new (Fre.ref (Fre.new (Fre.ref (Fre.new (Fre.ref (Fre.new (Fre.ref (Fre.new (Fre.ref (Fre.new (Fre.ref (Fre.new (Fre.ref (Fre.new (Fre.ref (Fre.new (Fre.ref (Fre.new (Fre.ref (Fre.new (Fre.ref (Fre.up (Fre.up (Fre.up (Fre.up (Fre.new hF) (by omega)) (by omega)) (by omega)) (by omega)) (by omega) (by omega))) (by omega) (by omega))) (by omega) (by omega))) (by omega) (by omega))) (by omega) (by omega))) (by omega) (by omega))) (by omega) (by omega))) (by omega) (by omega))) (by omega) (by omega))) (by omega) (by omega))) (by omega) (by omega))) (by omega) (by omega))) (by omega) (by omega))) (by omega) (by omega))) (by omega) (by omega))) (by omega) (by omega))) (by omega) (by omega)) (Nat.le_of_ble_eq_true rfl) (Nat.le_of_ble_eq_true rfl) dX12_init_153 (fun ad18 h_18_ => ?_)
  refine j_putRF (k := k) (k2 := N + 17) C hin f_RX12_61_12 pf_12_31 ⟨rfl, rfl⟩ (by omega) (hkk) ((h_18_ _ (by omega)).trans ((h_17_ _ (by omega)).trans ((h_16_ _ (by omega)).trans ((h_15_ _ (by omega)).trans ((h_14_ _ (by omega)).trans ((h_13_ _ (by omega)).trans ((h_12_ _ (by omega)).trans ((h_11_ _ (by omega)).trans ((h_10_ _ (by omega)).trans ((h_9_ _ (by omega)).trans ((h_8_ _ (by omega)).trans ((h_7_ _ (by omega)).trans ((h_6_ _ (by omega)).trans ((h_5_ _ (by omega)).trans ((h_4_ _ (by omega)).trans ((h_3_ _ (by omega)).trans ((h_2_ _ (by omega)).trans (h_1_ _ (by omega))))))))))))))))))) (rfl) dX12_init_155 ?_
  refine j_aload_n C dX12_init_158 rfl (lv_at hl 0 rfl) ?_
  refine j_iconst (v := 4) C dX12_init_159 (by decide) ?_
  refine j_newI (N := N + 18) (n := 4) C rfl (by decide) ((hK 18 (by decide)).1) ((hK 18 (by decide)).2) (Fre.ref (Fre.new (Fre.ref (Fre.new (Fre.ref (Fre.new (Fre.ref (Fre.new (Fre.ref (Fre.new (Fre.ref (Fre.new (Fre.ref (Fre.new (Fre.ref (Fre.new (Fre.ref (Fre.new (Fre.ref (Fre.new (Fre.ref (Fre.new (Fre.ref (Fre.new (Fre.ref (Fre.new (Fre.ref (Fre.new (Fre.ref (Fre.new (Fre.ref (Fre.new (Fre.ref (Fre.new (Fre.ref (Fre.up (Fre.up (Fre.up (Fre.up (Fre.new hF) (by omega)) (by omega)) (by omega)) (by omega)) (by omega) (by omega))) (by omega) (by omega))) (by omega) (by omega))) (by omega) (by omega))) (by omega) (by omega))) (by omega) (by omega))) (by omega) (by omega))) (by omega) (by omega))) (by omega) (by omega))) (by omega) (by omega))) (by omega) (by omega))) (by omega) (by omega))) (by omega) (by omega))) (by omega) (by omega))) (by omega) (by omega))) (by omega) (by omega))) (by omega) (by omega))) (by omega) (by omega)) (Nat.le_of_ble_eq_true rfl) (Nat.le_of_ble_eq_true rfl) dX12_init_160 (fun ad19 h_19_ => ?_)
  refine j_putRF (k := k) (k2 := N + 18) C hin f_RX12_64_12 pf_12_32 ⟨rfl, rfl⟩ (by omega) (hkk) ((h_19_ _ (by omega)).trans ((h_18_ _ (by omega)).trans ((h_17_ _ (by omega)).trans ((h_16_ _ (by omega)).trans ((h_15_ _ (by omega)).trans ((h_14_ _ (by omega)).trans ((h_13_ _ (by omega)).trans ((h_12_ _ (by omega)).trans ((h_11_ _ (by omega)).trans ((h_10_ _ (by omega)).trans ((h_9_ _ (by omega)).trans ((h_8_ _ (by omega)).trans ((h_7_ _ (by omega)).trans ((h_6_ _ (by omega)).trans ((h_5_ _ (by omega)).trans ((h_4_ _ (by omega)).trans ((h_3_ _ (by omega)).trans ((h_2_ _ (by omega)).trans (h_1_ _ (by omega)))))))))))))))))))) (rfl) dX12_init_162 ?_
  refine j_aload_n C dX12_init_165 rfl (lv_at hl 0 rfl) ?_
  refine j_iconst (v := 5) C dX12_init_166 (by decide) ?_
  refine j_newI (N := N + 19) (n := 5) C rfl (by decide) ((hK 19 (by decide)).1) ((hK 19 (by decide)).2) (Fre.ref (Fre.new (Fre.ref (Fre.new (Fre.ref (Fre.new (Fre.ref (Fre.new (Fre.ref (Fre.new (Fre.ref (Fre.new (Fre.ref (Fre.new (Fre.ref (Fre.new (Fre.ref (Fre.new (Fre.ref (Fre.new (Fre.ref (Fre.new (Fre.ref (Fre.new (Fre.ref (Fre.new (Fre.ref (Fre.new (Fre.ref (Fre.new (Fre.ref (Fre.new (Fre.ref (Fre.new (Fre.ref (Fre.new (Fre.ref (Fre.up (Fre.up (Fre.up (Fre.up (Fre.new hF) (by omega)) (by omega)) (by omega)) (by omega)) (by omega) (by omega))) (by omega) (by omega))) (by omega) (by omega))) (by omega) (by omega))) (by omega) (by omega))) (by omega) (by omega))) (by omega) (by omega))) (by omega) (by omega))) (by omega) (by omega))) (by omega) (by omega))) (by omega) (by omega))) (by omega) (by omega))) (by omega) (by omega))) (by omega) (by omega))) (by omega) (by omega))) (by omega) (by omega))) (by omega) (by omega))) (by omega) (by omega))) (by omega) (by omega)) (Nat.le_of_ble_eq_true rfl) (Nat.le_of_ble_eq_true rfl) dX12_init_167 (fun ad20 h_20_ => ?_)
  refine j_putRF (k := k) (k2 := N + 19) C hin f_RX12_67_12 pf_12_33 ⟨rfl, rfl⟩ (by omega) (hkk) ((h_20_ _ (by omega)).trans ((h_19_ _ (by omega)).trans ((h_18_ _ (by omega)).trans ((h_17_ _ (by omega)).trans ((h_16_ _ (by omega)).trans ((h_15_ _ (by omega)).trans ((h_14_ _ (by omega)).trans ((h_13_ _ (by omega)).trans ((h_12_ _ (by omega)).trans ((h_11_ _ (by omega)).trans ((h_10_ _ (by omega)).trans ((h_9_ _ (by omega)).trans ((h_8_ _ (by omega)).trans ((h_7_ _ (by omega)).trans ((h_6_ _ (by omega)).trans ((h_5_ _ (by omega)).trans ((h_4_ _ (by omega)).trans ((h_3_ _ (by omega)).trans ((h_2_ _ (by omega)).trans (h_1_ _ (by omega))))))))))))))))))))) (rfl) dX12_init_169 ?_
  refine j_aload_n C dX12_init_172 rfl (lv_at hl 0 rfl) ?_
  refine j_bipush (v := 8) C dX12_init_173 (by decide) ?_
  refine j_newI (N := N + 20) (n := 8) C rfl (by decide) ((hK 20 (by decide)).1) ((hK 20 (by decide)).2) (Fre.ref (Fre.new (Fre.ref (Fre.new (Fre.ref (Fre.new (Fre.ref (Fre.new (Fre.ref (Fre.new (Fre.ref (Fre.new (Fre.ref (Fre.new (Fre.ref (Fre.new (Fre.ref (Fre.new (Fre.ref (Fre.new (Fre.ref (Fre.new (Fre.ref (Fre.new (Fre.ref (Fre.new (Fre.ref (Fre.new (Fre.ref (Fre.new (Fre.ref (Fre.new (Fre.ref (Fre.new (Fre.ref (Fre.new (Fre.ref (Fre.new (Fre.ref (Fre.up (Fre.up (Fre.up (Fre.up (Fre.new hF) (by omega)) (by omega)) (by omega)) (by omega)) (by omega) (by omega))) (by omega) (by omega))) (by omega) (by omega))) (by omega) (by omega))) (by omega) (by omega))) (by omega) (by omega))) (by omega) (by omega))) (by omega) (by omega))) (by omega) (by omega))) (by omega) (by omega))) (by omega) (by omega))) (by omega) (by omega))) (by omega) (by omega))) (by omega) (by omega))) (by omega) (by omega))) (by omega) (by omega))) (by omega) (by omega))) (by omega) (by omega))) (by omega) (by omega))) (by omega) (by omega)) (Nat.le_of_ble_eq_true rfl) (Nat.le_of_ble_eq_true rfl) dX12_init_175 (fun ad21 h_21_ => ?_)
  refine j_putRF (k := k) (k2 := N + 20) C hin f_RX12_70_12 pf_12_35 ⟨rfl, rfl⟩ (by omega) (hkk) ((h_21_ _ (by omega)).trans ((h_20_ _ (by omega)).trans ((h_19_ _ (by omega)).trans ((h_18_ _ (by omega)).trans ((h_17_ _ (by omega)).trans ((h_16_ _ (by omega)).trans ((h_15_ _ (by omega)).trans ((h_14_ _ (by omega)).trans ((h_13_ _ (by omega)).trans ((h_12_ _ (by omega)).trans ((h_11_ _ (by omega)).trans ((h_10_ _ (by omega)).trans ((h_9_ _ (by omega)).trans ((h_8_ _ (by omega)).trans ((h_7_ _ (by omega)).trans ((h_6_ _ (by omega)).trans ((h_5_ _ (by omega)).trans ((h_4_ _ (by omega)).trans ((h_3_ _ (by omega)).trans ((h_2_ _ (by omega)).trans (h_1_ _ (by omega)))))))))))))))))))))) (rfl) dX12_init_177 ?_
  refine j_aload_n C dX12_init_180 rfl (lv_at hl 0 rfl) ?_
  refine j_bipush (v := 8) C dX12_init_181 (by decide) ?_
  refine j_newI (N := N + 21) (n := 8) C rfl (by decide) ((hK 21 (by decide)).1) ((hK 21 (by decide)).2) (Fre.ref (Fre.new (Fre.ref (Fre.new (Fre.ref (Fre.new (Fre.ref (Fre.new (Fre.ref (Fre.new (Fre.ref (Fre.new (Fre.ref (Fre.new (Fre.ref (Fre.new (Fre.ref (Fre.new (Fre.ref (Fre.new (Fre.ref (Fre.new (Fre.ref (Fre.new (Fre.ref (Fre.new (Fre.ref (Fre.new (Fre.ref (Fre.new (Fre.ref (Fre.new (Fre.ref (Fre.new (Fre.ref (Fre.new (Fre.ref (Fre.new (Fre.ref (Fre.new (Fre.ref (Fre.up (Fre.up (Fre.up (Fre.up (Fre.new hF) (by omega)) (by omega)) (by omega)) (by omega)) (by omega) (by omega))) (by omega) (by omega))) (by omega) (by omega))) (by omega) (by omega))) (by omega) (by omega))) (by omega) (by omega))) (by omega) (by omega))) (by omega) (by omega))) (by omega) (by omega))) (by omega) (by omega))) (by omega) (by omega))) (by omega) (by omega))) (by omega) (by omega))) (by omega) (by omega))) (by omega) (by omega))) (by omega) (by omega))) (by omega) (by omega))) (by omega) (by omega))) (by omega) (by omega))) (by omega) (by omega))) (by omega) (by omega)) (Nat.le_of_ble_eq_true rfl) (Nat.le_of_ble_eq_true rfl) dX12_init_183 (fun ad22 h_22_ => ?_)
  refine j_putRF (k := k) (k2 := N + 21) C hin f_RX12_73_12 pf_12_36 ⟨rfl, rfl⟩ (by omega) (hkk) ((h_22_ _ (by omega)).trans ((h_21_ _ (by omega)).trans ((h_20_ _ (by omega)).trans ((h_19_ _ (by omega)).trans ((h_18_ _ (by omega)).trans ((h_17_ _ (by omega)).trans ((h_16_ _ (by omega)).trans ((h_15_ _ (by omega)).trans ((h_14_ _ (by omega)).trans ((h_13_ _ (by omega)).trans ((h_12_ _ (by omega)).trans ((h_11_ _ (by omega)).trans ((h_10_ _ (by omega)).trans ((h_9_ _ (by omega)).trans ((h_8_ _ (by omega)).trans ((h_7_ _ (by omega)).trans ((h_6_ _ (by omega)).trans ((h_5_ _ (by omega)).trans ((h_4_ _ (by omega)).trans ((h_3_ _ (by omega)).trans ((h_2_ _ (by omega)).trans (h_1_ _ (by omega))))))))))))))))))))))) (rfl) dX12_init_185 ?_
  refine j_aload_n C dX12_init_188 rfl (lv_at hl 0 rfl) ?_
  refine j_bipush (v := 8) C dX12_init_189 (by decide) ?_
  refine j_newI (N := N + 22) (n := 8) C rfl (by decide) ((hK 22 (by decide)).1) ((hK 22 (by decide)).2) (Fre.ref (Fre.new (Fre.ref (Fre.new (Fre.ref (Fre.new (Fre.ref (Fre.new (Fre.ref (Fre.new (Fre.ref (Fre.new (Fre.ref (Fre.new (Fre.ref (Fre.new (Fre.ref (Fre.new (Fre.ref (Fre.new (Fre.ref (Fre.new (Fre.ref (Fre.new (Fre.ref (Fre.new (Fre.ref (Fre.new (Fre.ref (Fre.new (Fre.ref (Fre.new (Fre.ref (Fre.new (Fre.ref (Fre.new (Fre.ref (Fre.new (Fre.ref (Fre.new (Fre.ref (Fre.new (Fre.ref (Fre.up (Fre.up (Fre.up (Fre.up (Fre.new hF) (by omega)) (by omega)) (by omega)) (by omega)) (by omega) (by omega))) (by omega) (by omega))) (by omega) (by omega))) (by omega) (by omega))) (by omega) (by omega))) (by omega) (by omega))) (by omega) (by omega))) (by omega) (by omega))) (by omega) (by omega))) (by omega) (by omega))) (by omega) (by omega))) (by omega) (by omega))) (by omega) (by omega))) (by omega) (by omega))) (by omega) (by omega))) (by omega) (by omega))) (by omega) (by omega))) (by omega) (by omega))) (by omega) (by omega))) (by omega) (by omega))) (by omega) (by omega))) (by omega) (by omega)) (Nat.le_of_ble_eq_true rfl) (Nat.le_of_ble_eq_true rfl) dX12_init_191 (fun ad23 h_23_ => ?_)
  refine j_putRF (k := k) (k2 := N + 22) C hin f_RX12_76_12 pf_12_37 ⟨rfl, rfl⟩ (by omega) (hkk) ((h_23_ _ (by omega)).trans ((h_22_ _ (by omega)).trans ((h_21_ _ (by omega)).trans ((h_20_ _ (by omega)).trans ((h_19_ _ (by omega)).trans ((h_18_ _ (by omega)).trans ((h_17_ _ (by omega)).trans ((h_16_ _ (by omega)).trans ((h_15_ _ (by omega)).trans ((h_14_ _ (by omega)).trans ((h_13_ _ (by omega)).trans ((h_12_ _ (by omega)).trans ((h_11_ _ (by omega)).trans ((h_10_ _ (by omega)).trans ((h_9_ _ (by omega)).trans ((h_8_ _ (by omega)).trans ((h_7_ _ (by omega)).trans ((h_6_ _ (by omega)).trans ((h_5_ _ (by omega)).trans ((h_4_ _ (by omega)).trans ((h_3_ _ (by omega)).trans ((h_2_ _ (by omega)).trans (h_1_ _ (by omega)))))))))))))))))))))))) (rfl) dX12_init_193 ?_
  exact j_vret C ⟨rfl, ad23, fun j hj => (h_23_ j (by omega)).trans ((h_22_ j (by omega)).trans ((h_21_ j (by omega)).trans ((h_20_ j (by omega)).trans ((h_19_ j (by omega)).trans ((h_18_ j (by omega)).trans ((h_17_ j (by omega)).trans ((h_16_ j (by omega)).trans ((h_15_ j (by omega)).trans ((h_14_ j (by omega)).trans ((h_13_ j (by omega)).trans ((h_12_ j (by omega)).trans ((h_11_ j (by omega)).trans ((h_10_ j (by omega)).trans ((h_9_ j (by omega)).trans ((h_8_ j (by omega)).trans ((h_7_ j (by omega)).trans ((h_6_ j (by omega)).trans ((h_5_ j (by omega)).trans ((h_4_ j (by omega)).trans ((h_3_ j (by omega)).trans ((h_2_ j (by omega)).trans ((h_1_ j (by omega)))))))))))))))))))))))), rfl, rfl⟩ dX12_init_196
