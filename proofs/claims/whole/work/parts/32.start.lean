/-! ===== the law's body, from its entry ===== -/
theorem st_K {s : State} {args : Array Value} (hts : ∀ w ∈ TB, w.before args s = true) (ho1 : (Cond.arrayOver (.object RX1)).before args s = true) (ho2 : (Cond.arrayOver (.object RX2)).before args s = true) : ∃ (D : va_G) (C : Nat → ClassId), va_K D vwCl [(C 0, .int), (C 1, .boolean), (C 2, .object RX1), (C 3, .object RX2), (C 4, .long)] s := by
  obtain ⟨c0, i0, k0⟩ := u_known hts inX0 (hts _ tk_30)
  obtain ⟨c1, i1, k1⟩ := u_known hts inX1 (hts _ tk_52)
  obtain ⟨c2, i2, k2⟩ := u_known hts inX2 (hts _ tk_91)
  obtain ⟨c3, i3, k3⟩ := u_known hts inX3 (hts _ tk_15)
  obtain ⟨c4, i4, k4⟩ := u_known hts inX4 (hts _ tk_547)
  obtain ⟨b0, kb0, m0, f0, g0, h0⟩ := Cond.arrayClass_spec (hts _ tk_49)
  obtain ⟨b1, kb1, m1, f1, g1, h1⟩ := Cond.arrayClass_spec (hts _ tk_620)
  obtain ⟨b4, kb4, m4, f4, g4, h4⟩ := Cond.arrayClass_spec (hts _ tk_780)
  obtain ⟨m2, b2, kb2, e2, _, g2, h2, f2⟩ := Cond.arrayOver_spec ho1
  obtain ⟨m3, b3, kb3, e3, _, g3, h3, f3⟩ := Cond.arrayOver_spec ho2
  refine ⟨(fun k => match k with | 0 => c0 | 1 => c1 | 2 => c2 | 3 => c3 | _ => c4, fun k => match k with | 0 => i0 | 1 => i1 | 2 => i2 | 3 => i3 | _ => i4), fun k => match k with | 0 => b0 | 1 => b1 | 2 => b2 | 3 => b3 | _ => b4, fun c q hq => ?_, fun k q hk => ?_⟩
  · match c, hq with
    | 0, hq => cases hq; exact k0
    | 1, hq => cases hq; exact k1
    | 2, hq => cases hq; exact k2
    | 3, hq => cases hq; exact k3
    | 4, hq => cases hq; exact k4
    | _ + 5, hq => simp at hq
  · match k, hk with
    | 0, hk => cases hk; exact ⟨fun n z => ⟨fun k h => (by cases h), kb0, g0, m0, h0⟩, f0⟩
    | 1, hk => cases hk; exact ⟨fun n z => ⟨fun k h => (by cases h), kb1, g1, m1, h1⟩, f1⟩
    | 2, hk => cases hk; exact ⟨fun n z => ⟨fun k h => (by cases h), kb2, g2, m2, h2⟩, kb2, m2, g2, h2, e2, f2⟩
    | 3, hk => cases hk; exact ⟨fun n z => ⟨fun k h => (by cases h), kb3, g3, m3, h3⟩, kb3, m3, g3, h3, e3, f3⟩
    | 4, hk => cases hk; exact ⟨fun n z => ⟨fun k h => (by cases h), kb4, g4, m4, h4⟩, f4⟩
    | _ + 5, hk => simp at hk
theorem w_ao1 : Cond.arrayOver (.object RX1) ∈ lw_tbl := by decide +kernel
theorem w_ao2 : Cond.arrayOver (.object RX2) ∈ lw_tbl := by decide +kernel
theorem w_st1 : Cond.laysStatic Bundle.tN "UNASSIGNED_STACK" Bundle.steD ∈ lw_tbl := by decide +kernel
theorem w_st2 : Cond.laysStatic Bundle.tN "SUPPRESSED_SENTINEL" Bundle.listD ∈ lw_tbl := by decide +kernel
theorem w_nc : ∀ q ∈ ncs, Cond.not (.castable q.1 q.2) ∈ flatC (Jvm.Cond.and given_1 narrow_1) := by decide +kernel
theorem w_r1 : Cond.isRef (.static Bundle.tN "UNASSIGNED_STACK" Bundle.steD) ∈ flatC (Jvm.Cond.and given_1 narrow_1) := by decide +kernel
theorem w_r2 : Cond.isRef (.static Bundle.tN "SUPPRESSED_SENTINEL" Bundle.listD) ∈ flatC (Jvm.Cond.and given_1 narrow_1) := by decide +kernel
set_option maxHeartbeats 4000000 in
set_option maxRecDepth 100000 in
theorem whole_start {p : Program} {e : Env} {s : State} {m : MethodId} {below : List Frame} {meth : Method} {c : Code} (l : Launch) (hst : l.stackTraces = false) {b L : Nat} {xs : Nat → Int32} (hL : L ≤ 2049) (C0 : lw_At p s m meth c b L xs) : W p l e room_1 s m #[Value.ref b] below meth c s.heap [] 0 0 (lw_Z below #[Value.ref b] s) (entryFrame m ([Value.ref b] : List Value).toArray 7) := by
  obtain ⟨hx, hb, hr, hml, hown, hts0, hX, hbl, hlocks, hgv⟩ := C0
  have hts : ∀ w ∈ TB, w.before #[Value.ref b] s = true := fun w hw => hts0 w (List.mem_filter.mp hw).1
  have htt : ∀ w ∈ tables_1, w.before #[Value.ref b] s = true := fun w hw => hts0 w (List.mem_append_right _ hw)
  obtain ⟨D, C, hK⟩ := st_K hts (hts0 _ w_ao1) (hts0 _ w_ao2)
  let F : Nat → Prop := fun q => s.heap.size ≤ q
  let G0 : GT := (D, C, fun _ => 0, F)
  have hbA : ¬ gF G0 b := Nat.not_le.mpr hbl
  have hns : ∀ w ∈ nst, va_Nw w s := fun w hw => va_Nw.of (nst_tab w hw) (htt w (nst_in w hw))
  have hC : Kc G0 s := ⟨hK, hns, va_AO.of (hts0 _ w_ao1), va_AO.of (hts0 _ w_ao2), fun q hq => hq⟩
  have hl := lv_entry [Value.ref b] (n := 7) (Nat.le_of_ble_eq_true rfl)
  have hl : lv_has _ 7 [(0, .ref b)] := hl
  rw [lg_entry_eq]
  have hS : va_S (gF G0) s.heap s.heap [] := va_S.rf
  have hP : va_P (gD G0) vwCl [] s.heap := fun k q h => by simp at h
  have hD : va_D (gF G0) [] := ⟨fun i j p q h => by simp at h, fun k q h => by simp at h⟩
  -- the class
  refine va_new hx hb hts inX3 tyX3 tyX3_ok hown (hts _ tk_14) (hts _ tk_15) (hts _ tk_1) hK hP hD hS hC.2.2.2.2 (ci := 3) rfl (fs := [.int 0, .null, .null, .null, .int 0, .null, .int 0, .null]) (by decide) (Nat.le_of_ble_eq_true rfl) (Nat.le_of_ble_eq_true rfl) dL_law_0 (fun h0 H hP hD hS => ?_)
  refine lv_dup hx hb dL_law_3 rfl ?_
  refine lv_aload_n hx hb dL_law_4 rfl (lv_at hl 0 rfl) ?_
  refine lv_iconst (v := 0) hx hb dL_law_5 (by decide) ?_
  refine kCell hx hb hml hown hts hL hX hbl hbA tk_174 tk_172 tk_173 tk_0 ⟨Nat.le_of_ble_eq_true rfl, Nat.le_of_ble_eq_true rfl⟩ hP hS hl.1 rfl (Nat.le_of_ble_eq_true rfl) dL_law_6 ⟨Nat.le_of_ble_eq_true rfl, Nat.le_of_ble_eq_true rfl⟩ (fun H locs hP hS => ?_)
  refine kIL hx hb hml hown hts hC (k_X3_init (l := l) (G := G0)) tk_18 tk_16 tk_17 tk_1 rfl (n := 1) (by decide +kernel) rfl ⟨Nat.le_of_ble_eq_true rfl, Nat.le_of_ble_eq_true rfl⟩ hP hD hS hl.1 rfl (Nat.le_of_ble_eq_true rfl) dL_law_9 ⟨Nat.le_of_ble_eq_true rfl, Nat.le_of_ble_eq_true rfl⟩ (fun ws3 H locs hB hP hD hS => ?_)
  obtain ⟨d, a1, a2, a3, a5, oA, vA, t, tm, fo, fv, Os, Vs, hO, hV, hw3⟩ := hB
  refine lv_astore_n (lv' := [(1, .ref h0), (0, .ref b)]) hx hb dL_law_12 rfl hl (by decide) rfl (fun ls hl => ?_)
  -- the reference
  refine va_new hx hb hts inX4 tyX4 tyX4_ok hown (hts _ tk_546) (hts _ tk_547) (hts _ tk_6) hK hP hD hS hC.2.2.2.2 (ci := 4) rfl (fs := [.int 0, .int 0, .int 0, .null, .null, .null, .null, .null, .null, .null, .null, .int 0, .int 0, .null, .null, .null, .int 0, .null, .null, .null, .null, .null]) (by decide) (Nat.le_of_ble_eq_true rfl) (Nat.le_of_ble_eq_true rfl) dL_law_13 (fun h8 H hP hD hS => ?_)
  refine lv_dup hx hb dL_law_16 rfl ?_
  refine lv_aload_n hx hb dL_law_17 rfl (lv_at hl 1 rfl) ?_
  refine lv_iconst (v := 0) hx hb dL_law_18 (by decide) ?_
  refine kCell hx hb hml hown hts hL hX hbl hbA tk_174 tk_172 tk_173 tk_0 ⟨Nat.le_of_ble_eq_true rfl, Nat.le_of_ble_eq_true rfl⟩ hP hS hl.1 rfl (Nat.le_of_ble_eq_true rfl) dL_law_19 ⟨Nat.le_of_ble_eq_true rfl, Nat.le_of_ble_eq_true rfl⟩ (fun H locs hP hS => ?_)
  refine kIL hx hb hml hown hts hC (k_X4_init (l := l) (G := G0) (w0 := ws3)) tk_550 tk_548 tk_549 tk_6 rfl (n := 1) (by decide +kernel) rfl ⟨Nat.le_of_ble_eq_true rfl, Nat.le_of_ble_eq_true rfl⟩ hP hD hS hl.1 rfl (Nat.le_of_ble_eq_true rfl) dL_law_22 ⟨Nat.le_of_ble_eq_true rfl, Nat.le_of_ble_eq_true rfl⟩ (fun ws4 H locs hB hP hD hS => ?_)
  obtain ⟨A, hw4⟩ := hB
  refine lv_astore_n (lv' := [(2, .ref h8), (1, .ref h0), (0, .ref b)]) hx hb dL_law_25 rfl hl (by decide) rfl (fun ls hl => ?_)
  -- the array
  refine lv_iconst (v := 1) hx hb dL_law_26 (by decide) ?_
  refine va_newa (atype := .long) (ty := .long) hx hb (hts _ tk_780) rfl hK hP hD hS hC.2.2.2.2 (a0 := (1, .inr (.inl fun _ => 0))) (fun cA => rfl) (by decide) (N' := 1) (by decide) (by decide) (Nat.le_of_ble_eq_true rfl) (Nat.le_of_ble_eq_true rfl) dL_law_27 (fun a25 cA H hK1 hP hD hS => ?_)
  have hcA : cA = C 4 := zk_eq (ty := .long) (c1 := cA) (c2 := C 4) (i := 5) (j := 4) hK1 rfl rfl
  subst hcA
  refine lv_astore_n (lv' := [(3, .ref a25), (2, .ref h8), (1, .ref h0), (0, .ref b)]) hx hb dL_law_29 rfl hl (by decide) rfl (fun ls hl => ?_)
  refine lv_iconst (v := 1) hx hb dL_law_30 (by decide) ?_
  refine lv_istore (lv' := [(4, .int 1), (3, .ref a25), (2, .ref h8), (1, .ref h0), (0, .ref b)]) hx hb dL_law_31 hl (by decide) rfl (fun ls hl => ?_)
  -- the loop
  have hz := czz_m (cl0 L xs)
  rw [← hz] at hw4
  have hw : ws4 ++ [(a25, .inl (C 4, 1, .inr (.inl fun _ => 0)))] = W92 G0 (czz (cl0 L xs)) h0 d a1 a2 a3 a5 oA vA t tm h8 a25 fo fv Os Vs A := by
    rw [hw4, hw3]
    simp only [W92, YY, List.cons_append, List.append_assoc, List.nil_append]
    rfl
  obtain ⟨n1, n2, n3, n4, n5⟩ := w92 (G := G0) hO hV hw hP hD (F := F) rfl
  generalize ws4 ++ [(a25, .inl (C 4, 1, .inr (.inl fun _ => 0)))] = ws at *
  let G : GT := (D, C, adr ws, F)
  have hk3 : s.vm.findClass RX3 = some (D.1 3) := (hK.1 3 _ rfl).2.1
  have hCx : Cx G s := by
    refine ⟨n2, hK, hns, fun q hq => ?_, vx_Zqof (hts0 _ w_st1) (hts _ tk_7) (flat_of_before _ hgv _ w_r1) (fun a ha => Nat.not_le.mpr ha), vx_Zqof (hts0 _ w_st2) (hts _ tk_7) (flat_of_before _ hgv _ w_r2) (fun a ha => Nat.not_le.mpr ha)⟩
    have hw1 := htt _ (strs_in q hq)
    obtain ⟨_, _, _, sa, _, _, _, _, _, hev⟩ := Cond.stringRef_spec hk3 hw1
    exact ⟨sa, vk_R.of hw1 hev⟩
  have hFl : Fl p l s #[Value.ref b] m c G := ⟨hx, hb, hml, hown, hts, hCx, fun q hq => va_Nc.of (flat_of_before _ hgv _ (w_nc q hq)), hst⟩
  refine W.widen (k := 1000 + 2 * 1) (n := 20000 + 8 * 1) (Nat.le_of_ble_eq_true rfl) (Nat.le_of_ble_eq_true rfl) ?_
  refine law_loop PSok Inv.mon hFl hr hlocks rfl hX hbl hL (L + 2) 1 (fun _ => 0) (s0 (czz (cl0 L xs))) (by omega) (by omega) (Inv.beg (czz_b _) 1) H _ n1 hS ls ?_
  have hl2 := lv_sub hl [4, 3, 2, 1, 0] rfl
  show lv_has ls 7 [(0, .ref b), (1, .ref (adr ws 0)), (2, .ref (adr ws 8)), (3, .ref (adr ws 25)), (4, .int (nI 1))]
  rw [n3, n4, n5]; exact hl2
