/-! THE CLAIM OUT OF ONE WALK OF THE LAW'S BODY. Your part is whole_start (and what it stands on); all else here is the same for every law, but numbers. -/
def R_law : String := "QuoitFeastLaw"
def lw_P (b : Addr) (xs : List Int32) (args : Array Value) (s : State) : Prop := args = #[.ref b] ∧ s.IntsAt b xs ∧ xs.length ≤ 384 ∧ (Jvm.Cond.and given_1 narrow_1).before args s = true
def lw_Q (_ : Array Value) (s : State) (o : Outcome) (t : State) : Prop := o = .returned (some (.int 1)) ∧ Framed s o t [] 600000 7302250
def lw_Z (below : List Frame) (a : Array Value) (s : State) : State → Prop := fun t => ∃ o, t.status = .running ∧ Ended t below o ∧ lw_Q a s o t
/-- the law's own end, with 1 on the stack, nothing written that was there before, its room as the claim has it -/
theorem lw_ret {p : Program} {l : Launch} {e : Env} {s : State} {m : MethodId} {below : List Frame} {meth : Method} {c : Code} {b : Nat} (hx : p.tables.exec = Jvm.exec) (hb : c.code = code) (hr : meth.sig.returnType = ret) (hlocks : meth.locks = false) {pc : Nat} {H : Heap} {ls : Array Slot} (hdg : decode code pc = .ok (.ireturn, 1)) : W p l e room_1 s m #[Value.ref b] below meth c H [] 600000 7302250 (lw_Z below #[Value.ref b] s) (F0 m pc ls [.int 1]) := by
  intro T hT X
  obtain ⟨fs, hret, hrun, hended, hW, hframe⟩ := X.leave (v := some (.int 1)) (hlocks := hlocks) (fun h => by rw [hr] at h; cases h)
  have hmeth' : T.vm.method? m = some meth := X.method'
  refine ⟨T.setFrames fs, ?_, .returned (some (.int 1)), hrun, hended, rfl, ⟨_, rfl⟩, hW, hframe⟩
  jvm_step X.here [X.here.top, hx, hb, hdg, hmeth', hr, ret, narrow_b1]
  (try refine ⟨rfl, ?_⟩); (try refine ⟨rfl, ?_⟩)
  first | (intro acts; rw [hret _ acts rfl rfl rfl]) | rw [hret _ _ rfl rfl rfl]
  exact Steps.refl _
/-- what holds at the law's entry: the machine, the code, the tables' words (any of lw_tbl by 'hts w (by decide +kernel)'), the script of L ints xs at the cell b, what the Statement gives of the start (any of its parts by flat_of_before) -/
def lw_At (p : Program) (s : State) (m : MethodId) (meth : Method) (c : Code) (b L : Nat) (xs : Nat → Int32) : Prop :=
  p.tables.exec = Jvm.exec ∧ c.code = code ∧ meth.sig.returnType = ret ∧ c.maxLocals = 4 ∧ s.vm.findClass R_law = some m.cls ∧ (∀ w ∈ lw_tbl, w.before #[Value.ref b] s = true) ∧ va_X b L xs s s.heap ∧ b < s.heap.size ∧ meth.locks = false ∧ (Jvm.Cond.and given_1 narrow_1).before #[Value.ref b] s = true
theorem nw_in : ∀ w ∈ NWL, w ∈ tables_1 := by
  unfold NWL
  exact List.forall_mem_cons.mpr ⟨wo_RX2, List.forall_mem_cons.mpr ⟨wn_RX0_17, List.forall_mem_cons.mpr ⟨wo_RX6, List.forall_mem_cons.mpr ⟨wn_RX11_26, List.forall_mem_cons.mpr ⟨wo_RX7, List.forall_mem_cons.mpr ⟨wn_RX11_39, List.forall_mem_cons.mpr ⟨wn_RX11_46, List.forall_mem_cons.mpr ⟨wn_RX11_53, List.forall_mem_cons.mpr ⟨wn_RX11_60, List.forall_mem_cons.mpr ⟨wn_RX11_65, List.forall_mem_cons.mpr ⟨wn_RX9_75, List.forall_mem_cons.mpr ⟨wn_RX6_22, List.forall_mem_cons.mpr ⟨wn_RX2_42, List.forall_mem_cons.mpr ⟨wn_RX4_38, List.forall_mem_cons.mpr ⟨wb_RX8_RX3, List.forall_mem_cons.mpr ⟨wb_RX3_RX6, List.forall_mem_cons.mpr ⟨wb_RX8_RX6, fun w h => absurd h List.not_mem_nil⟩⟩⟩⟩⟩⟩⟩⟩⟩⟩⟩⟩⟩⟩⟩⟩⟩
set_option maxHeartbeats 4000000 in
/-- what stands fast in the law -/
theorem cx_start {p : Program} {s : State} {m : MethodId} {meth : Method} {c : Code} {b L : Nat} {xs : Nat → Int32} (Cz : lw_At p s m meth c b L xs) : ∃ (D : va_G) (cy : Nat → ClassId), Cx p s m #[Value.ref b] meth c (fun q : Nat => s.heap.size ≤ q) D cy RL cL_law 4 ret := by
  obtain ⟨hx, hb, hr, hml, hown, hts, hX, hbl, hlocks, hgv⟩ := Cz
  have hW : ∀ w ∈ WALL, w.before #[Value.ref b] s = true := fun w h => hts w (List.mem_filter.mp h).1
  have hT : ∀ w ∈ tables_1, w.before #[Value.ref b] s = true := fun w h => hts w (wx_tbl h)
  have hfl := flat_of_before _ hgv
  obtain ⟨kz0, iz0, hz0⟩ := u_known (C := RX0) (T := TX0) (N := 3) (n := 3) hW inW0 (hW _ wk_RX0)
  obtain ⟨kz1, iz1, hz1⟩ := u_known (C := RX1) (T := TX1) (N := 4) (n := 4) hW inW1 (hW _ wk_RX1)
  obtain ⟨kz2, iz2, hz2⟩ := u_known (C := RX2) (T := TX2) (N := 5) (n := 5) hW inW2 (hW _ wk_RX2)
  obtain ⟨kz3, iz3, hz3⟩ := u_known (C := RX3) (T := TX3) (N := 2) (n := 2) hW inW3 (hW _ wk_RX3)
  obtain ⟨kz4, iz4, hz4⟩ := u_known (C := RX4) (T := TX4) (N := 7) (n := 7) hW inW4 (hW _ wk_RX4)
  obtain ⟨kz5, iz5, hz5⟩ := u_known (C := RX5) (T := TX5) (N := 4) (n := 4) hW inW5 (hW _ wk_RX5)
  obtain ⟨kz6, iz6, hz6⟩ := u_known (C := RX6) (T := TX6) (N := 2) (n := 2) hW inW6 (hW _ wk_RX6)
  obtain ⟨kz7, iz7, hz7⟩ := u_known (C := RX7) (T := TX7) (N := 3) (n := 3) hW inW7 (hW _ wk_RX7)
  obtain ⟨kz8, iz8, hz8⟩ := u_known (C := RX8) (T := TX8) (N := 2) (n := 2) hW inW8 (hW _ wk_RX8)
  obtain ⟨kz9, iz9, hz9⟩ := u_known (C := RX9) (T := TX9) (N := 8) (n := 8) hW inW9 (hW _ wk_RX9)
  obtain ⟨kz10, iz10, hz10⟩ := u_known (C := RX10) (T := TX10) (N := 1) (n := 1) hW inW10 (hW _ wk_RX10)
  obtain ⟨kz11, iz11, hz11⟩ := u_known (C := RX11) (T := TX11) (N := 10) (n := 10) hW inW11 (hW _ wk_RX11)
  obtain ⟨kz12, iz12, hz12⟩ := u_known (C := RX12) (T := TX12) (N := 38) (n := 38) hW inW12 (hW _ wk_RX12)
  have kn : ∀ k : Nat, ∃ (cC : ClassId) (iS : Nat → Nat), ∀ q : vw_C, vwCl[k]? = some q → u_Kn s q.1 q.2.1 q.2.2 cC iS := by
    intro k
    match k with
    | 0 => exact ⟨kz0, iz0, fun q hq => by cases hq; exact hz0⟩
    | 1 => exact ⟨kz1, iz1, fun q hq => by cases hq; exact hz1⟩
    | 2 => exact ⟨kz2, iz2, fun q hq => by cases hq; exact hz2⟩
    | 3 => exact ⟨kz3, iz3, fun q hq => by cases hq; exact hz3⟩
    | 4 => exact ⟨kz4, iz4, fun q hq => by cases hq; exact hz4⟩
    | 5 => exact ⟨kz5, iz5, fun q hq => by cases hq; exact hz5⟩
    | 6 => exact ⟨kz6, iz6, fun q hq => by cases hq; exact hz6⟩
    | 7 => exact ⟨kz7, iz7, fun q hq => by cases hq; exact hz7⟩
    | 8 => exact ⟨kz8, iz8, fun q hq => by cases hq; exact hz8⟩
    | 9 => exact ⟨kz9, iz9, fun q hq => by cases hq; exact hz9⟩
    | 10 => exact ⟨kz10, iz10, fun q hq => by cases hq; exact hz10⟩
    | 11 => exact ⟨kz11, iz11, fun q hq => by cases hq; exact hz11⟩
    | 12 => exact ⟨kz12, iz12, fun q hq => by cases hq; exact hz12⟩
    | k + 13 => exact ⟨kz0, iz0, fun q hq => absurd (vwCl_lt hq) (by omega)⟩
  obtain ⟨cza, aza, mza, fza, gza, eza⟩ := Cond.arrayClass_spec (hW _ wa_int)
  obtain ⟨mzb, czb, azb, fzb, -, gzb, ezb, nzb⟩ := Cond.arrayOver_spec (hT _ wo_RX2)
  obtain ⟨mzc, czc, azc, fzc, -, gzc, ezc, nzc⟩ := Cond.arrayOver_spec (hT _ wo_RX6)
  obtain ⟨mzd, czd, azd, fzd, -, gzd, ezd, nzd⟩ := Cond.arrayOver_spec (hT _ wo_RX7)
  refine ⟨(fun k => Classical.choose (kn k), fun k => Classical.choose (Classical.choose_spec (kn k))), fun k => if k = 13 then cza else if k = 14 then czb else if k = 15 then czc else czd, hx, hb, hml, hown, hW, ⟨fun k q hq => Classical.choose_spec (Classical.choose_spec (kn k)) q hq, fun k q hq => ?_⟩, ?_, hlocks, hr, fun _ h => h⟩
  · match k, hq with
    | 0, hq =>
      obtain rfl := Option.some.inj (show some ((cza, .int) : ClassId × FieldType) = some q from hq)
      exact ⟨fun n z => ⟨fun k h => (by cases h), aza, gza, mza, eza⟩, fza⟩
    | 1, hq =>
      obtain rfl := Option.some.inj (show some ((czb, .object RX2) : ClassId × FieldType) = some q from hq)
      exact ⟨fun n z => ⟨fun k h => (by cases h), azb, gzb, mzb, ezb⟩, azb, mzb, gzb, ezb, fzb, nzb⟩
    | 2, hq =>
      obtain rfl := Option.some.inj (show some ((czc, .object RX6) : ClassId × FieldType) = some q from hq)
      exact ⟨fun n z => ⟨fun k h => (by cases h), azc, gzc, mzc, ezc⟩, azc, mzc, gzc, ezc, fzc, nzc⟩
    | 3, hq =>
      obtain rfl := Option.some.inj (show some ((czd, .object RX7) : ClassId × FieldType) = some q from hq)
      exact ⟨fun n z => ⟨fun k h => (by cases h), azd, gzd, mzd, ezd⟩, azd, mzd, gzd, ezd, fzd, nzd⟩
    | k + 4, hq => simp [tysL] at hq
  · exact ⟨fun w hw => va_Nw.of (NWn_tab w hw) (hT w (nw_in w (List.mem_filter.mp hw).1)), ⟨va_AO.of (hT _ wo_RX2), va_AO.of (hT _ wo_RX6), va_AO.of (hT _ wo_RX7)⟩, ⟨va_Nw.of rfl (hT _ wb_RX8_RX3), va_Nw.of rfl (hT _ wb_RX3_RX6), va_Nw.of rfl (hT _ wb_RX8_RX6)⟩, va_Nc.of (hfl (.not (.castable RX6 RX3)) (by decide +kernel)), va_Nc.of (hfl (.not (.castable RX6 RX8)) (by decide +kernel)), va_Nc.of (hfl (.not (.castable RX3 RX8)) (by decide +kernel))⟩
section JLoop
variable {p : Program} {l : Launch} {e : Env} {s : State} {m : MethodId} {args : Array Value} {below : List Frame} {meth : Method} {c : Code} {A : Nat → Prop} {D : va_G} {cy : Nat → ClassId} {Q : State → Prop} {ret : Option FieldType} 
theorem lw_more {L i : Nat} (hL : L ≤ 384) (hi : i ≤ L) : (nI L - 6 < nI i → L < i + 6) ∧ (¬ nI L - 6 < nI i → i + 6 ≤ L) := by
  have e : (nI L - 6).toInt = (L : Int) - 6 := pk_sub_toInt (b := 6) (by omega) (by omega)
  have q : (nI i).toInt = (i : Int) := nI_toInt (by omega)
  rw [Int32.lt_iff_toInt_lt, e, q]
  omega
set_option maxHeartbeats 4000000 in
set_option maxRecDepth 100000 in
/-- THE LAW'S LOOP -/
theorem law_loop (C : Cx p s m args meth c A D cy RL cL_law 4 ret) {b L : Nat} {xs : Nat → Int32} (X : LX A b L xs s) (hend : ∀ (cells slots : Nat) (σ τ : Sh) (V M : Vt) (ls : Array Slot), cells ≤ 600000 → slots ≤ 7302250 → J2 p l e room_1 s m args below meth c A D cy cells slots Q σ V τ M (F0 m 1237 ls [])) : ∀ (n_9_ i cells slots nt : Nat) (ad tk am : Nat → Nat) (V M : Vt) (ls : Array Slot), RLo tk nt V M → i ≤ L → L - i < 6 * n_9_ → cells + 5 * n_9_ ≤ 600000 → slots + 10 * n_9_ ≤ 7302250 → lv_has ls 4 (lwl b (ad 55) (am 0) i) → J2 p l e room_1 s m args below meth c A D cy cells slots Q (xS ad tk nt) V (mS am) M (F0 m 18 ls []) := by
  intro n_9_
  induction n_9_ with
  | zero =>
    intro i cells slots nt ad tk am V M ls hR hi hm
    exact absurd hm (by omega)
  | succ n_9_ ih =>
    intro i cells slots nt ad tk am V M ls hR hi hm hc hs hl
    have hL := X.2.2.2
    have hcs : cells + 5 ≤ room_1.cells ∧ slots + 10 ≤ room_1.slots := ⟨show cells + 5 ≤ 600000 by omega, show slots + 10 ≤ 7302250 by omega⟩
    refine g_iload_n C dL_law_18 rfl (lv_at hl 3 rfl) ?_
    refine g_aload_n C dL_law_19 rfl (lv_at hl 0 rfl) ?_
    refine g_slen C X dL_law_20 ?_
    refine g_bipush (v := 6) C dL_law_21 (by decide) ?_
    refine g_isub C dL_law_23 ?_
    refine g_icmp_gt (tgt := 1237) C dL_law_24 (by decide) (fun _ => hend _ _ _ _ _ _ _ (by omega) (by omega)) (fun cg => ?_)
    have hi6 := (lw_more hL hi).2 cg
    have nxt : ∀ (ad2 tk2 : Nat → Nat) (nt2 : Nat) (V2 M2 : Vt), ad2 55 = ad 55 → RLo tk2 nt2 V2 M2 → J2 p l e room_1 s m args below meth c A D cy (cells + 5) (slots + 10) Q (xS ad2 tk2 nt2) V2 (mS am) M2 (F0 m 1231 ls []) := by
      intro ad2 tk2 nt2 V2 M2 ha hR2
      refine g_iinc (v := nI (i + 6)) (lv2 := [(3, .int (nI (i + 6))), (0, .ref b), (1, .ref (ad 55)), (2, .ref (am 0))]) C dL_law_1231 hl (k0 := 3) rfl (nI_add i 6) (by decide) rfl (fun ls hl => ?_)
      refine g_goto (tgt := 18) C dL_law_1234 (by decide) ?_
      refine ih (i + 6) (cells + 5) (slots + 10) nt2 ad2 tk2 am V2 M2 ls hR2 (by omega) (by omega) (by omega) (by omega) ?_
      rw [ha]
      exact lv_sub hl [1, 2, 3, 0] rfl
    refine g_aload_n C dL_law_27 rfl (lv_at hl 0 rfl) ?_
    refine g_iload_n C dL_law_28 rfl (lv_at hl 3 rfl) ?_
    refine g_sld C X rfl (by omega) dL_law_29 ?_
    refine g_bipush (v := 63) C dL_law_30 (by decide) ?_
    refine g_iand C dL_law_32 ?_
    rcases sw_in (xs i &&& 63) 33 (by decide) with ⟨js, hjs, es⟩ | es
    · rcases (show js = 0 ∨ js = 1 ∨ js = 2 ∨ js = 3 ∨ js = 4 ∨ js = 5 ∨ js = 6 ∨ js = 7 ∨ js = 8 ∨ js = 9 ∨ js = 10 ∨ js = 11 ∨ js = 12 ∨ js = 13 ∨ js = 14 ∨ js = 15 ∨ js = 16 ∨ js = 17 ∨ js = 18 ∨ js = 19 ∨ js = 20 ∨ js = 21 ∨ js = 22 ∨ js = 23 ∨ js = 24 ∨ js = 25 ∨ js = 26 ∨ js = 27 ∨ js = 28 ∨ js = 29 ∨ js = 30 ∨ js = 31 ∨ js = 32 by omega) with rfl | rfl | rfl | rfl | rfl | rfl | rfl | rfl | rfl | rfl | rfl | rfl | rfl | rfl | rfl | rfl | rfl | rfl | rfl | rfl | rfl | rfl | rfl | rfl | rfl | rfl | rfl | rfl | rfl | rfl | rfl | rfl | rfl
      · exact g_tableIn (off := 147) (tgt := 180) C dL_law_33 (by rw [es]; decide) (by rw [es]; decide) (by rw [es]; rfl) (by decide) (lc_dale C X hi6 hR hl hcs nxt)
      · exact g_tableIn (off := 200) (tgt := 233) C dL_law_33 (by rw [es]; decide) (by rw [es]; decide) (by rw [es]; rfl) (by decide) (lc_ofGirl C X hi6 hR hl hcs nxt)
      · exact g_tableIn (off := 233) (tgt := 266) C dL_law_33 (by rw [es]; decide) (by rw [es]; decide) (by rw [es]; rfl) (by decide) (lc_ofThrower C X hi6 hR hl hcs nxt)
      · exact g_tableIn (off := 266) (tgt := 299) C dL_law_33 (by rw [es]; decide) (by rw [es]; decide) (by rw [es]; rfl) (by decide) (lc_freeze C X hi6 hR hl hcs nxt)
      · exact g_tableIn (off := 289) (tgt := 322) C dL_law_33 (by rw [es]; decide) (by rw [es]; decide) (by rw [es]; rfl) (by decide) (lc_lean C X hi6 hR hl hcs nxt)
      · exact g_tableIn (off := 322) (tgt := 355) C dL_law_33 (by rw [es]; decide) (by rw [es]; decide) (by rw [es]; rfl) (by decide) (lc_place C X hi6 hR hl hcs nxt)
      · exact g_tableIn (off := 355) (tgt := 388) C dL_law_33 (by rw [es]; decide) (by rw [es]; decide) (by rw [es]; rfl) (by decide) (lc_train C X hi6 hR hl hcs nxt)
      · exact g_tableIn (off := 388) (tgt := 421) C dL_law_33 (by rw [es]; decide) (by rw [es]; decide) (by rw [es]; rfl) (by decide) (lc_measure C X hi6 hR hl hcs nxt)
      · exact g_tableIn (off := 421) (tgt := 454) C dL_law_33 (by rw [es]; decide) (by rw [es]; decide) (by rw [es]; rfl) (by decide) (lc_hurl C X hi6 hR hl hcs nxt)
      · exact g_tableIn (off := 454) (tgt := 487) C dL_law_33 (by rw [es]; decide) (by rw [es]; decide) (by rw [es]; rfl) (by decide) (lc_lift C X hi6 hR hl hcs nxt)
      · exact g_tableIn (off := 477) (tgt := 510) C dL_law_33 (by rw [es]; decide) (by rw [es]; decide) (by rw [es]; rfl) (by decide) (lc_clear C X hi6 hR hl hcs nxt)
      · exact g_tableIn (off := 500) (tgt := 533) C dL_law_33 (by rw [es]; decide) (by rw [es]; decide) (by rw [es]; rfl) (by decide) (lc_feast C X hi6 hR hl hcs nxt)
      · exact g_tableIn (off := 563) (tgt := 596) C dL_law_33 (by rw [es]; decide) (by rw [es]; decide) (by rw [es]; rfl) (by decide) (lc_wins C X hi6 hR hl hcs nxt)
      · exact g_tableIn (off := 586) (tgt := 619) C dL_law_33 (by rw [es]; decide) (by rw [es]; decide) (by rw [es]; rfl) (by decide) (lc_match C X hi6 hR hl hcs nxt)
      · exact g_tableIn (off := 609) (tgt := 642) C dL_law_33 (by rw [es]; decide) (by rw [es]; decide) (by rw [es]; rfl) (by decide) (lc_weds C X hi6 hR hl hcs nxt)
      · exact g_tableIn (off := 632) (tgt := 665) C dL_law_33 (by rw [es]; decide) (by rw [es]; decide) (by rw [es]; rfl) (by decide) (lc_even C X hi6 hR hl hcs nxt)
      · exact g_tableIn (off := 675) (tgt := 708) C dL_law_33 (by rw [es]; decide) (by rw [es]; decide) (by rw [es]; rfl) (by decide) (lc_reading C X hi6 hR hl hcs nxt)
      · exact g_tableIn (off := 718) (tgt := 751) C dL_law_33 (by rw [es]; decide) (by rw [es]; decide) (by rw [es]; rfl) (by decide) (lc_back C X hi6 hR hl hcs nxt)
      · exact g_tableIn (off := 741) (tgt := 774) C dL_law_33 (by rw [es]; decide) (by rw [es]; decide) (by rw [es]; rfl) (by decide) (lc_leans C X hi6 hR hl hcs nxt)
      · exact g_tableIn (off := 764) (tgt := 797) C dL_law_33 (by rw [es]; decide) (by rw [es]; decide) (by rw [es]; rfl) (by decide) (lc_arms C X hi6 hR hl hcs nxt)
      · exact g_tableIn (off := 787) (tgt := 820) C dL_law_33 (by rw [es]; decide) (by rw [es]; decide) (by rw [es]; rfl) (by decide) (lc_kinds C X hi6 hR hl hcs nxt)
      · exact g_tableIn (off := 810) (tgt := 843) C dL_law_33 (by rw [es]; decide) (by rw [es]; decide) (by rw [es]; rfl) (by decide) (lc_odds C X hi6 hR hl hcs nxt)
      · exact g_tableIn (off := 854) (tgt := 887) C dL_law_33 (by rw [es]; decide) (by rw [es]; decide) (by rw [es]; rfl) (by decide) (lc_sheet C X hi6 hR hl hcs nxt)
      · exact g_tableIn (off := 897) (tgt := 930) C dL_law_33 (by rw [es]; decide) (by rw [es]; decide) (by rw [es]; rfl) (by decide) (lc_lose C X hi6 hR hl hcs nxt)
      · exact g_tableIn (off := 920) (tgt := 953) C dL_law_33 (by rw [es]; decide) (by rw [es]; decide) (by rw [es]; rfl) (by decide) (lc_put C X hi6 hR hl hcs nxt)
      · exact g_tableIn (off := 963) (tgt := 996) C dL_law_33 (by rw [es]; decide) (by rw [es]; decide) (by rw [es]; rfl) (by decide) (lc_cell C X hi6 hR hl hcs nxt)
      · exact g_tableIn (off := 1007) (tgt := 1040) C dL_law_33 (by rw [es]; decide) (by rw [es]; decide) (by rw [es]; rfl) (by decide) (lc_copy C X hi6 hR hl hcs nxt)
      · exact g_tableIn (off := 1070) (tgt := 1103) C dL_law_33 (by rw [es]; decide) (by rw [es]; decide) (by rw [es]; rfl) (by decide) (lc_tell C X hi6 hR hl hcs nxt)
      · exact g_tableIn (off := 1093) (tgt := 1126) C dL_law_33 (by rw [es]; decide) (by rw [es]; decide) (by rw [es]; rfl) (by decide) (lc_cheer C X hi6 hR hl hcs nxt)
      · exact g_tableIn (off := 1116) (tgt := 1149) C dL_law_33 (by rw [es]; decide) (by rw [es]; decide) (by rw [es]; rfl) (by decide) (lc_as C X hi6 hR hl hcs nxt)
      · exact g_tableIn (off := 1149) (tgt := 1182) C dL_law_33 (by rw [es]; decide) (by rw [es]; decide) (by rw [es]; rfl) (by decide) (lc_trace C X hi6 hR hl hcs nxt)
      · exact g_tableIn (off := 1162) (tgt := 1195) C dL_law_33 (by rw [es]; decide) (by rw [es]; decide) (by rw [es]; rfl) (by decide) (lc_fault C X hi6 hR hl hcs nxt)
      · exact g_tableIn (off := 1175) (tgt := 1208) C dL_law_33 (by rw [es]; decide) (by rw [es]; decide) (by rw [es]; rfl) (by decide) (lc_many C X hi6 hR hl hcs nxt)
    · exact g_tableOut (tgt := 1231) C dL_law_33 (by omega) (by decide) (g_more (by omega) (by omega) (nxt ad tk nt V M rfl hR))
end JLoop
