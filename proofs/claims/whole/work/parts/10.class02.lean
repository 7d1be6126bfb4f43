/-! ===== X3_lacks ===== -/
def f_X3_lacks (σ : St) (x1 : Int32) (x2 : Int32) : Option RV :=
  qp (f_X3_requireWave σ x1) (fun E => some (.inr E)) (fun q1_ =>
    if kd q1_ = 2 then
      qv (f_X3_requireRange σ x2 0 9) (fun E => some (.inr E)) (
        ri (f_X3_lackOf σ x1 x2) (fun x3_ =>
          some (.inl (some (.inl x3_)))))
    else none)
set_option maxHeartbeats 4000000 in
set_option maxRecDepth 100000 in
theorem c_X3_lacks {l : Launch} {G : GT} {σ : St} {x1 : Int32} {x2 : Int32} {r : RV} (hm : f_X3_lacks σ x1 x2 = some r) : MC l G yX3_lacks cX3_lacks 3 (some .int) 7 112 2 12 [.inr 0, .inl x1, .inl x2] σ (r, σ) := by
  refine xbody (by decide) (Nat.le_of_ble_eq_true rfl) ?_
  intro lo p e s m args below meth c F hP ls hl
  have F : Fx p l s args m meth c G cX3_lacks 3 (some .int) RX3 := F
  obtain ⟨hx, hb, hrt, hml, hown, hts, hlocks, hC, htab, hst⟩ := id F
  have hS : va_S (gF G) s.heap s.heap [] := va_S.rf
  have hl : lv_has ls 3 [(0, .ref (gA G 0)), (1, .int x1), (2, .int x2)] := hl
  unfold f_X3_lacks at hm
  refine lv_aload_n hx hb dX3_lacks_0 rfl (lv_at hl 0 rfl) ?_
  refine lv_iload_n hx hb dX3_lacks_1 rfl (lv_at hl 1 rfl) ?_
  rcases qp_inv hm with ⟨q1_, h1, hm⟩ | ⟨E1, h1, hm⟩
  · refine xV F (c_X3_requireWave h1) tk_418 tk_415 tk_417 tu_21 tk_1 rfl 1 (by decide +kernel) rfl ⟨Nat.le_of_ble_eq_true rfl, Nat.le_of_ble_eq_true rfl⟩ hP hS (kd_k kdc_0 (by decide)) (wc3 kdc_0) rfl hl.1 rfl (Nat.le_of_ble_eq_true rfl) dX3_lacks_2 ⟨Nat.le_of_ble_eq_true rfl, Nat.le_of_ble_eq_true rfl⟩ (fun v hv H locs hP hS => ?_) (fun E hE => by cases hE)
    cases hv
    replace hP : va_P (gD G) vwCl (wld G lo σ) H := hP
    refine W.eq (g2 := F0 m 5 ls [.ref (gA G q1_)]) rfl ?_
    by_cases k1_ : kd q1_ = 2
    · rw [if_pos k1_] at hm
      refine lv_pop hx hb dX3_lacks_5 rfl ?_
      refine lv_iload_n hx hb dX3_lacks_6 rfl (lv_at hl 2 rfl) ?_
      refine lv_iconst (v := 0) hx hb dX3_lacks_7 (by decide) ?_
      refine lv_bipush (v := 9) hx hb dX3_lacks_8 (by decide) ?_
      rcases qv_inv hm with ⟨h2, hm⟩ | ⟨E2, h2, hm⟩
      · refine xSt F (c_X3_requireRange h2) tk_187 tk_185 tk_186 tk_1 rfl 3 (by decide +kernel) rfl ⟨Nat.le_of_ble_eq_true rfl, Nat.le_of_ble_eq_true rfl⟩ hP hS hl.1 rfl (Nat.le_of_ble_eq_true rfl) dX3_lacks_10 ⟨Nat.le_of_ble_eq_true rfl, Nat.le_of_ble_eq_true rfl⟩ (fun v hv H locs hP hS => ?_) (fun E hE => by cases hE)
        cases hv
        replace hP : va_P (gD G) vwCl (wld G lo σ) H := hP
        refine W.eq (g2 := F0 m 13 ls []) rfl ?_
        refine lv_aload_n hx hb dX3_lacks_13 rfl (lv_at hl 0 rfl) ?_
        refine lv_iload_n hx hb dX3_lacks_14 rfl (lv_at hl 1 rfl) ?_
        refine lv_iload_n hx hb dX3_lacks_15 rfl (lv_at hl 2 rfl) ?_
        obtain ⟨x3_, h3, hm⟩ := ri_inv hm
        refine xV F (c_X3_lackOf h3) tk_459 tk_456 tk_458 tu_26 tk_1 rfl 2 (by decide +kernel) rfl ⟨Nat.le_of_ble_eq_true rfl, Nat.le_of_ble_eq_true rfl⟩ hP hS (kd_k kdc_0 (by decide)) (wc3 kdc_0) rfl hl.1 rfl (Nat.le_of_ble_eq_true rfl) dX3_lacks_16 ⟨Nat.le_of_ble_eq_true rfl, Nat.le_of_ble_eq_true rfl⟩ (fun v hv H locs hP hS => ?_) (fun E hE => by cases hE)
        cases hv
        replace hP : va_P (gD G) vwCl (wld G lo σ) H := hP
        refine W.eq (g2 := F0 m 19 ls [.int x3_]) rfl ?_
        exact xir F hP hS (congrArg (fun z => (z, σ)) (Option.some.inj hm).symm) (by decide) (by decide) dX3_lacks_19
      · refine xSt F (c_X3_requireRange h2) tk_187 tk_185 tk_186 tk_1 rfl 3 (by decide +kernel) rfl ⟨Nat.le_of_ble_eq_true rfl, Nat.le_of_ble_eq_true rfl⟩ hP hS hl.1 rfl (Nat.le_of_ble_eq_true rfl) dX3_lacks_10 ⟨Nat.le_of_ble_eq_true rfl, Nat.le_of_ble_eq_true rfl⟩ (fun v hv => by cases hv) (fun E hE H locs q9 ce hP hS e1 e2 e3 => ?_)
        cases hE
        exact xto F hP hS (congrArg (fun z => (z, σ)) (Option.some.inj hm).symm) (by decide) (by decide) e1 e2 e3
    · rw [if_neg k1_] at hm
      cases hm
  · refine xV F (c_X3_requireWave h1) tk_418 tk_415 tk_417 tu_21 tk_1 rfl 1 (by decide +kernel) rfl ⟨Nat.le_of_ble_eq_true rfl, Nat.le_of_ble_eq_true rfl⟩ hP hS (kd_k kdc_0 (by decide)) (wc3 kdc_0) rfl hl.1 rfl (Nat.le_of_ble_eq_true rfl) dX3_lacks_2 ⟨Nat.le_of_ble_eq_true rfl, Nat.le_of_ble_eq_true rfl⟩ (fun v hv => by cases hv) (fun E hE H locs q9 ce hP hS e1 e2 e3 => ?_)
    cases hE
    exact xto F hP hS (congrArg (fun z => (z, σ)) (Option.some.inj hm).symm) (by decide) (by decide) e1 e2 e3
/-! ===== X3_requirePlanned ===== -/
def f_X3_requirePlanned (σ : St) (q0 : Nat) : Option RV :=
  if (σ q0 3) = 0 then
    some (.inl none)
  else
    some (.inr "java/lang/IllegalStateException")
set_option maxHeartbeats 4000000 in
set_option maxRecDepth 100000 in
theorem c_X3_requirePlanned {l : Launch} {G : GT} {σ : St} {q0 : Nat} (k0 : kd q0 = 2) {r : RV} (hm : f_X3_requirePlanned σ q0 = some r) : MC l G yX3_requirePlanned cX3_requirePlanned 1 none 6 90 1 6 [.inr q0] σ (r, σ) := by
  refine xbody (by decide) (Nat.le_of_ble_eq_true rfl) ?_
  intro lo p e s m args below meth c F hP ls hl
  have F : Fx p l s args m meth c G cX3_requirePlanned 1 none RX3 := F
  obtain ⟨hx, hb, hrt, hml, hown, hts, hlocks, hC, htab, hst⟩ := id F
  have hS : va_S (gF G) s.heap s.heap [] := va_S.rf
  have hl : lv_has ls 1 [(0, .ref (gA G q0))] := hl
  unfold f_X3_requirePlanned at hm
  refine lv_aload_n hx hb dX3_requirePlanned_0 rfl (lv_at hl 0 rfl) ?_
  refine xgN F 3 inX2 hP (kd_k k0 (by decide)) (wc2 k0) rfl (by decide) tn_16 rfl rfl dX3_requirePlanned_1 ?_
  refine lv_if_eq (tgt := 17) hx hb dX3_requirePlanned_4 (by decide) (fun b1 => ?_) (fun b1 => ?_)
  · rw [if_pos b1] at hm
    exact xvr F hP hS (congrArg (fun z => (z, σ)) (Option.some.inj hm).symm) (by decide) (by decide) dX3_requirePlanned_17
  · rw [if_neg b1] at hm
    exact xthr F hP hS (congrArg (fun z => (z, σ)) (Option.some.inj hm).symm) (by decide) (by decide) hl.1 (by decide +kernel) tk_305 tk_13 (List.mem_of_getElem? (i := 12) rfl) xt_91_1 xt_91_2 xt_91_87 dX3_requirePlanned_7 dX3_requirePlanned_10 dX3_requirePlanned_11 dX3_requirePlanned_13 dX3_requirePlanned_16 (Nat.le_of_ble_eq_true rfl) (Nat.le_of_ble_eq_true rfl) (Nat.le_of_ble_eq_true rfl) (Nat.le_of_ble_eq_true rfl)
/-! ===== X3_allFit ===== -/
def f_X3_allFit_2 (σ : St) (q1 : Nat) : Nat → Int32 → Option RV
  | 0, _ => none
  | n + 1, x2 =>
    if (σ q1 1) ≤ x2 then
      some (.inl (some (.inl 1)))
    else
      if x2 < 0 ∨ 16 ≤ x2.toNatClampNeg then none
      else
        if (σ (q1 + 1) x2.toNatClampNeg) < 0 ∨ 16 ≤ (σ (q1 + 1) x2.toNatClampNeg).toNatClampNeg then none
        else
          ri (f_X3_fits σ (26 + 2 * (σ (q1 + 1) x2.toNatClampNeg).toNatClampNeg)) (fun x4_ =>
            if x4_ = 0 then
              some (.inl (some (.inl 0)))
            else
              f_X3_allFit_2 σ q1 n (x2 + 1))
set_option maxHeartbeats 4000000 in
set_option maxRecDepth 100000 in
theorem w_X3_allFit_2 {p : Program} {l : Launch} {e : Env} {s : State} {m : MethodId} {args : Array Value} {below : List Frame} {meth : Method} {c : Code} {G : GT} {lo : Nat → Int64} (F : Fx p l s args m meth c G cX3_allFit 3 (some .boolean) RX3) {σ : St} {q1 : Nat} (k1 : kd q1 = 2) : ∀ (n : Nat) {x2 : Int32} {r : RV}, f_X3_allFit_2 σ q1 n x2 = some r → ∀ {H : Heap} {locs : List Loc}, va_P (gD G) vwCl (wld G lo σ) H → va_S (gF G) s.heap H locs → ∀ {ls : Array Slot}, lv_has ls 3 [(0, .ref (gA G 0)), (1, .ref (gA G q1)), (2, .int x2)] → W p l e (RM 2 44 0 0) s m args below meth c H locs 0 0 (vx_MQ below (QCr G lo (r, σ)) (XCr G lo (r, σ)) args s 0 0 (gF G)) (F0 m 2 ls []) := by
  obtain ⟨hx, hb, hrt, hml, hown, hts, hlocks, hC, htab, hst⟩ := id F
  intro n
  induction n with
  | zero =>
    intro x2 r hm
    simp only [f_X3_allFit_2] at hm
    cases hm
  | succ n ih =>
    intro x2 r hm H locs hP hS ls hl
    rw [f_X3_allFit_2] at hm
    refine lv_iload_n hx hb dX3_allFit_2 rfl (lv_at hl 2 rfl) ?_
    refine lv_aload_n hx hb dX3_allFit_3 rfl (lv_at hl 1 rfl) ?_
    refine xgN F 1 inX2 hP (kd_k k1 (by decide)) (wc2 k1) rfl (by decide) tn_14 rfl rfl dX3_allFit_4 ?_
    refine lv_icmp_ge (tgt := 36) hx hb dX3_allFit_7 (by decide) (fun b1 => ?_) (fun b1 => ?_)
    · rw [if_pos b1] at hm
      refine lv_iconst (v := 1) hx hb dX3_allFit_36 (by decide) ?_
      exact xzr F hP hS rfl (congrArg (fun z => (z, σ)) (Option.some.inj hm).symm) (by decide) (by decide) dX3_allFit_37
    · rw [if_neg b1] at hm
      refine lv_aload_n hx hb dX3_allFit_10 rfl (lv_at hl 0 rfl) ?_
      refine lv_aload_n hx hb dX3_allFit_11 rfl (lv_at hl 0 rfl) ?_
      refine xg F 3 inX3 hP (kd_k kdc_0 (by decide)) (wc3 kdc_0) rfl (by decide) tk_114 rfl rfl dX3_allFit_12 ?_
      refine lv_aload_n hx hb dX3_allFit_15 rfl (lv_at hl 1 rfl) ?_
      refine xgN F 0 inX2 hP (kd_k k1 (by decide)) (wc2 k1) rfl (by decide) tn_13 rfl rfl dX3_allFit_16 ?_
      refine lv_iload_n hx hb dX3_allFit_19 rfl (lv_at hl 2 rfl) ?_
      by_cases b2 : (x2 < 0 ∨ 16 ≤ x2.toNatClampNeg)
      · rw [if_pos b2] at hm
        cases hm
      · rw [if_neg b2] at hm
        refine xil F hP ((kd_wavA _ k1).1) ((kd_wavA _ k1).2) b2 dX3_allFit_20 ?_
        by_cases b3 : ((σ (q1 + 1) x2.toNatClampNeg) < 0 ∨ 16 ≤ (σ (q1 + 1) x2.toNatClampNeg).toNatClampNeg)
        · rw [if_pos b3] at hm
          cases hm
        · rw [if_neg b3] at hm
          refine xol F hP kdc_6 b3 dX3_allFit_21 ?_
          obtain ⟨x4_, h4, hm⟩ := ri_inv hm
          refine xV F (c_X3_fits (kd_ord b3) h4) tk_375 tk_372 tk_374 tu_14 tk_1 rfl 1 (by decide +kernel) rfl ⟨Nat.le_of_ble_eq_true rfl, Nat.le_of_ble_eq_true rfl⟩ hP hS (kd_k kdc_0 (by decide)) (wc3 kdc_0) rfl hl.1 rfl (Nat.le_of_ble_eq_true rfl) dX3_allFit_22 ⟨Nat.le_of_ble_eq_true rfl, Nat.le_of_ble_eq_true rfl⟩ (fun v hv H locs hP hS => ?_) (fun E hE => by cases hE)
          cases hv
          replace hP : va_P (gD G) vwCl (wld G lo σ) H := hP
          refine W.eq (g2 := F0 m 25 ls [.int x4_]) rfl ?_
          refine lv_if_ne (tgt := 30) hx hb dX3_allFit_25 (by decide) (fun b5 => ?_) (fun b5 => ?_)
          · rw [if_neg b5] at hm
            refine lv_iinc (v := (x2 + 1)) (lv' := [(2, .int (x2 + 1)), (0, .ref (gA G 0)), (1, .ref (gA G q1))]) hx hb dX3_allFit_30 hl (k := 2) rfl rfl (by decide) rfl (fun ls hl => ?_)
            refine lv_goto (tgt := 2) hx hb dX3_allFit_33 (by decide) ?_
            exact ih hm hP hS (lv_sub hl [1, 2, 0] rfl)
          · rw [if_pos b5] at hm
            refine lv_iconst (v := 0) hx hb dX3_allFit_28 (by decide) ?_
            exact xzr F hP hS rfl (congrArg (fun z => (z, σ)) (Option.some.inj hm).symm) (by decide) (by decide) dX3_allFit_29
def f_X3_allFit (σ : St) (q1 : Nat) : Option RV :=
  f_X3_allFit_2 σ q1 40 0
set_option maxHeartbeats 4000000 in
set_option maxRecDepth 100000 in
theorem c_X3_allFit {l : Launch} {G : GT} {σ : St} {q1 : Nat} (k1 : kd q1 = 2) {r : RV} (hm : f_X3_allFit σ q1 = some r) : MC l G yX3_allFit cX3_allFit 3 (some .boolean) 2 44 0 0 [.inr 0, .inr q1] σ (r, σ) := by
  refine xbody (by decide) (Nat.le_of_ble_eq_true rfl) ?_
  intro lo p e s m args below meth c F hP ls hl
  have F : Fx p l s args m meth c G cX3_allFit 3 (some .boolean) RX3 := F
  obtain ⟨hx, hb, hrt, hml, hown, hts, hlocks, hC, htab, hst⟩ := id F
  have hS : va_S (gF G) s.heap s.heap [] := va_S.rf
  have hl : lv_has ls 3 [(0, .ref (gA G 0)), (1, .ref (gA G q1))] := hl
  unfold f_X3_allFit at hm
  refine lv_iconst (v := 0) hx hb dX3_allFit_0 (by decide) ?_
  refine lv_istore_n (lv' := [(2, .int 0), (0, .ref (gA G 0)), (1, .ref (gA G q1))]) hx hb dX3_allFit_1 rfl hl (by decide) rfl (fun ls hl => ?_)
  exact w_X3_allFit_2 F k1 40 hm hP hS (lv_sub hl [1, 2, 0] rfl)
/-! ===== X3_release ===== -/
def f_X3_release (σ : St) (x1 : Int32) : Option (RV × St) :=
  qp (f_X3_requireWave σ x1) (fun E => some (.inr E, σ)) (fun q1_ =>
    if kd q1_ = 2 then
      qv (f_X3_requirePlanned σ q1_) (fun E => some (.inr E, σ)) (
        ri (f_X3_allFit σ q1_) (fun x3_ =>
          if x3_ = 0 then
            some (.inl (some (.inl 1)), σ)
          else
            ri (f_X3_lackedGood σ x1 0) (fun x5_ =>
              if x5_ = (-1) then
                some (.inl (some (.inl 0)), (up2 σ q1_ 3 1))
              else
                some (.inl (some (.inl 2)), σ))))
    else none)
set_option maxHeartbeats 4000000 in
set_option maxRecDepth 100000 in
theorem c_X3_release {l : Launch} {G : GT} {σ : St} {x1 : Int32} {r : RV × St} (hm : f_X3_release σ x1 = some r) : MC l G yX3_release cX3_release 3 (some .int) 7 111 2 12 [.inr 0, .inl x1] σ r := by
  refine xbody (by decide) (Nat.le_of_ble_eq_true rfl) ?_
  intro lo p e s m args below meth c F hP ls hl
  have F : Fx p l s args m meth c G cX3_release 3 (some .int) RX3 := F
  obtain ⟨hx, hb, hrt, hml, hown, hts, hlocks, hC, htab, hst⟩ := id F
  have hS : va_S (gF G) s.heap s.heap [] := va_S.rf
  have hl : lv_has ls 3 [(0, .ref (gA G 0)), (1, .int x1)] := hl
  unfold f_X3_release at hm
  refine lv_aload_n hx hb dX3_release_0 rfl (lv_at hl 0 rfl) ?_
  refine lv_iload_n hx hb dX3_release_1 rfl (lv_at hl 1 rfl) ?_
  rcases qp_inv hm with ⟨q1_, h1, hm⟩ | ⟨E1, h1, hm⟩
  · refine xV F (c_X3_requireWave h1) tk_418 tk_415 tk_417 tu_21 tk_1 rfl 1 (by decide +kernel) rfl ⟨Nat.le_of_ble_eq_true rfl, Nat.le_of_ble_eq_true rfl⟩ hP hS (kd_k kdc_0 (by decide)) (wc3 kdc_0) rfl hl.1 rfl (Nat.le_of_ble_eq_true rfl) dX3_release_2 ⟨Nat.le_of_ble_eq_true rfl, Nat.le_of_ble_eq_true rfl⟩ (fun v hv H locs hP hS => ?_) (fun E hE => by cases hE)
    cases hv
    replace hP : va_P (gD G) vwCl (wld G lo σ) H := hP
    refine W.eq (g2 := F0 m 5 ls [.ref (gA G q1_)]) rfl ?_
    by_cases k1_ : kd q1_ = 2
    · rw [if_pos k1_] at hm
      refine lv_astore_n (lv' := [(2, .ref (gA G q1_)), (0, .ref (gA G 0)), (1, .int x1)]) hx hb dX3_release_5 rfl hl (by decide) rfl (fun ls hl => ?_)
      refine lv_aload_n hx hb dX3_release_6 rfl (lv_at hl 0 rfl) ?_
      rcases qv_inv hm with ⟨h2, hm⟩ | ⟨E2, h2, hm⟩
      · refine xSt F (c_X3_requirePlanned k1_ h2) tk_480 tk_478 tk_479 tk_1 rfl 1 (by decide +kernel) rfl ⟨Nat.le_of_ble_eq_true rfl, Nat.le_of_ble_eq_true rfl⟩ hP hS hl.1 rfl (Nat.le_of_ble_eq_true rfl) dX3_release_7 ⟨Nat.le_of_ble_eq_true rfl, Nat.le_of_ble_eq_true rfl⟩ (fun v hv H locs hP hS => ?_) (fun E hE => by cases hE)
        cases hv
        replace hP : va_P (gD G) vwCl (wld G lo σ) H := hP
        refine W.eq (g2 := F0 m 10 ls []) rfl ?_
        refine lv_aload_n hx hb dX3_release_10 rfl (lv_at hl 1 rfl) ?_
        refine lv_aload_n hx hb dX3_release_11 rfl (lv_at hl 0 rfl) ?_
        obtain ⟨x3_, h3, hm⟩ := ri_inv hm
        refine xV F (c_X3_allFit k1_ h3) tk_485 tk_482 tk_484 tu_28 tk_1 rfl 1 (by decide +kernel) rfl ⟨Nat.le_of_ble_eq_true rfl, Nat.le_of_ble_eq_true rfl⟩ hP hS (kd_k kdc_0 (by decide)) (wc3 kdc_0) rfl hl.1 rfl (Nat.le_of_ble_eq_true rfl) dX3_release_12 ⟨Nat.le_of_ble_eq_true rfl, Nat.le_of_ble_eq_true rfl⟩ (fun v hv H locs hP hS => ?_) (fun E hE => by cases hE)
        cases hv
        replace hP : va_P (gD G) vwCl (wld G lo σ) H := hP
        refine W.eq (g2 := F0 m 15 ls [.int x3_]) rfl ?_
        refine lv_if_ne (tgt := 20) hx hb dX3_release_15 (by decide) (fun b4 => ?_) (fun b4 => ?_)
        · rw [if_neg b4] at hm
          refine lv_aload_n hx hb dX3_release_20 rfl (lv_at hl 1 rfl) ?_
          refine lv_iload_n hx hb dX3_release_21 rfl (lv_at hl 2 rfl) ?_
          refine lv_iconst (v := 0) hx hb dX3_release_22 (by decide) ?_
          obtain ⟨x5_, h5, hm⟩ := ri_inv hm
          refine xV F (c_X3_lackedGood h5) tk_455 tk_452 tk_454 tu_25 tk_1 rfl 2 (by decide +kernel) rfl ⟨Nat.le_of_ble_eq_true rfl, Nat.le_of_ble_eq_true rfl⟩ hP hS (kd_k kdc_0 (by decide)) (wc3 kdc_0) rfl hl.1 rfl (Nat.le_of_ble_eq_true rfl) dX3_release_23 ⟨Nat.le_of_ble_eq_true rfl, Nat.le_of_ble_eq_true rfl⟩ (fun v hv H locs hP hS => ?_) (fun E hE => by cases hE)
          cases hv
          replace hP : va_P (gD G) vwCl (wld G lo σ) H := hP
          refine W.eq (g2 := F0 m 26 ls [.int x5_]) rfl ?_
          refine lv_iconst (v := (-1)) hx hb dX3_release_26 (by decide) ?_
          refine lv_icmp_eq (tgt := 32) hx hb dX3_release_27 (by decide) (fun b6 => ?_) (fun b6 => ?_)
          · rw [if_pos b6] at hm
            refine lv_aload_n hx hb dX3_release_32 rfl (lv_at hl 0 rfl) ?_
            refine lv_iconst (v := 1) hx hb dX3_release_33 (by decide) ?_
            refine xpN F (v := 1) (ty := .boolean) 3 inX2 tyX2_ok nmX2 hP hS (kd_k k1_ (by decide)) (wc2 k1_) (wu2_3 k1_) rfl (by decide) tn_16 rfl rfl rfl rfl rfl (Nat.le_of_ble_eq_true rfl) dX3_release_34 (fun H locs hP hS => ?_)
            refine lv_iconst (v := 0) hx hb dX3_release_37 (by decide) ?_
            exact xir F hP hS (Option.some.inj hm).symm (by decide) (by decide) dX3_release_38
          · rw [if_neg b6] at hm
            refine lv_iconst (v := 2) hx hb dX3_release_30 (by decide) ?_
            exact xir F hP hS (Option.some.inj hm).symm (by decide) (by decide) dX3_release_31
        · rw [if_pos b4] at hm
          refine lv_iconst (v := 1) hx hb dX3_release_18 (by decide) ?_
          exact xir F hP hS (Option.some.inj hm).symm (by decide) (by decide) dX3_release_19
      · refine xSt F (c_X3_requirePlanned k1_ h2) tk_480 tk_478 tk_479 tk_1 rfl 1 (by decide +kernel) rfl ⟨Nat.le_of_ble_eq_true rfl, Nat.le_of_ble_eq_true rfl⟩ hP hS hl.1 rfl (Nat.le_of_ble_eq_true rfl) dX3_release_7 ⟨Nat.le_of_ble_eq_true rfl, Nat.le_of_ble_eq_true rfl⟩ (fun v hv => by cases hv) (fun E hE H locs q9 ce hP hS e1 e2 e3 => ?_)
        cases hE
        exact xto F hP hS (Option.some.inj hm).symm (by decide) (by decide) e1 e2 e3
    · rw [if_neg k1_] at hm
      cases hm
  · refine xV F (c_X3_requireWave h1) tk_418 tk_415 tk_417 tu_21 tk_1 rfl 1 (by decide +kernel) rfl ⟨Nat.le_of_ble_eq_true rfl, Nat.le_of_ble_eq_true rfl⟩ hP hS (kd_k kdc_0 (by decide)) (wc3 kdc_0) rfl hl.1 rfl (Nat.le_of_ble_eq_true rfl) dX3_release_2 ⟨Nat.le_of_ble_eq_true rfl, Nat.le_of_ble_eq_true rfl⟩ (fun v hv => by cases hv) (fun E hE H locs q9 ce hP hS e1 e2 e3 => ?_)
    cases hE
    exact xto F hP hS (Option.some.inj hm).symm (by decide) (by decide) e1 e2 e3
/-! ===== X3_isReleased ===== -/
def f_X3_isReleased (σ : St) (q1 : Nat) : Option RV :=
  if (σ q1 6) < 1 then
    some (.inl (some (.inl 0)))
  else
    if (σ 0 6) < (σ q1 6) then
      some (.inl (some (.inl 0)))
    else
      if ((σ q1 6) - 1) < 0 ∨ 16 ≤ ((σ q1 6) - 1).toNatClampNeg then none
      else
        if (σ (58 + 2 * ((σ q1 6) - 1).toNatClampNeg) 3) = 0 then
          some (.inl (some (.inl 0)))
        else
          some (.inl (some (.inl 1)))
set_option maxHeartbeats 4000000 in
set_option maxRecDepth 100000 in
theorem c_X3_isReleased {l : Launch} {G : GT} {σ : St} {q1 : Nat} (k1 : kd q1 = 1) {r : RV} (hm : f_X3_isReleased σ q1 = some r) : MC l G yX3_isReleased cX3_isReleased 2 (some .boolean) 0 0 0 0 [.inr 0, .inr q1] σ (r, σ) := by
  refine xbody (by decide) (Nat.le_of_ble_eq_true rfl) ?_
  intro lo p e s m args below meth c F hP ls hl
  have F : Fx p l s args m meth c G cX3_isReleased 2 (some .boolean) RX3 := F
  obtain ⟨hx, hb, hrt, hml, hown, hts, hlocks, hC, htab, hst⟩ := id F
  have hS : va_S (gF G) s.heap s.heap [] := va_S.rf
  have hl : lv_has ls 2 [(0, .ref (gA G 0)), (1, .ref (gA G q1))] := hl
  unfold f_X3_isReleased at hm
  refine lv_aload_n hx hb dX3_isReleased_0 rfl (lv_at hl 1 rfl) ?_
  refine xgN F 6 inX1 hP (kd_k k1 (by decide)) (wc1 k1) rfl (by decide) tn_9 rfl rfl dX3_isReleased_1 ?_
  refine lv_iconst (v := 1) hx hb dX3_isReleased_4 (by decide) ?_
  refine lv_icmp_lt (tgt := 40) hx hb dX3_isReleased_5 (by decide) (fun b1 => ?_) (fun b1 => ?_)
  · rw [if_pos b1] at hm
    refine lv_iconst (v := 0) hx hb dX3_isReleased_40 (by decide) ?_
    exact xzr F hP hS rfl (congrArg (fun z => (z, σ)) (Option.some.inj hm).symm) (by decide) (by decide) dX3_isReleased_41
  · rw [if_neg b1] at hm
    refine lv_aload_n hx hb dX3_isReleased_8 rfl (lv_at hl 1 rfl) ?_
    refine xgN F 6 inX1 hP (kd_k k1 (by decide)) (wc1 k1) rfl (by decide) tn_9 rfl rfl dX3_isReleased_9 ?_
    refine lv_aload_n hx hb dX3_isReleased_12 rfl (lv_at hl 0 rfl) ?_
    refine xg F 6 inX3 hP (kd_k kdc_0 (by decide)) (wc3 kdc_0) rfl (by decide) tk_117 rfl rfl dX3_isReleased_13 ?_
    refine lv_icmp_gt (tgt := 40) hx hb dX3_isReleased_16 (by decide) (fun b2 => ?_) (fun b2 => ?_)
    · rw [if_pos b2] at hm
      refine lv_iconst (v := 0) hx hb dX3_isReleased_40 (by decide) ?_
      exact xzr F hP hS rfl (congrArg (fun z => (z, σ)) (Option.some.inj hm).symm) (by decide) (by decide) dX3_isReleased_41
    · rw [if_neg b2] at hm
      refine lv_aload_n hx hb dX3_isReleased_19 rfl (lv_at hl 0 rfl) ?_
      refine xg F 5 inX3 hP (kd_k kdc_0 (by decide)) (wc3 kdc_0) rfl (by decide) tk_116 rfl rfl dX3_isReleased_20 ?_
      refine lv_aload_n hx hb dX3_isReleased_23 rfl (lv_at hl 1 rfl) ?_
      refine xgN F 6 inX1 hP (kd_k k1 (by decide)) (wc1 k1) rfl (by decide) tn_9 rfl rfl dX3_isReleased_24 ?_
      refine lv_iconst (v := 1) hx hb dX3_isReleased_27 (by decide) ?_
      refine lv_isub hx hb dX3_isReleased_28 ?_
      by_cases b3 : (((σ q1 6) - 1) < 0 ∨ 16 ≤ ((σ q1 6) - 1).toNatClampNeg)
      · rw [if_pos b3] at hm
        cases hm
      · rw [if_neg b3] at hm
        refine xwl F hP kdc_7 b3 dX3_isReleased_29 ?_
        refine xgN F 3 inX2 hP (kd_k (kd_wav b3) (by decide)) (wc2 (kd_wav b3)) rfl (by decide) tn_16 rfl rfl dX3_isReleased_30 ?_
        refine lv_if_eq (tgt := 40) hx hb dX3_isReleased_33 (by decide) (fun b4 => ?_) (fun b4 => ?_)
        · rw [if_pos b4] at hm
          refine lv_iconst (v := 0) hx hb dX3_isReleased_40 (by decide) ?_
          exact xzr F hP hS rfl (congrArg (fun z => (z, σ)) (Option.some.inj hm).symm) (by decide) (by decide) dX3_isReleased_41
        · rw [if_neg b4] at hm
          refine lv_iconst (v := 1) hx hb dX3_isReleased_36 (by decide) ?_
          refine lv_goto (tgt := 41) hx hb dX3_isReleased_37 (by decide) ?_
          exact xzr F hP hS rfl (congrArg (fun z => (z, σ)) (Option.some.inj hm).symm) (by decide) (by decide) dX3_isReleased_41
/-! ===== X3_takeFromStock ===== -/
def f_X3_takeFromStock_2 (q1 : Nat) : Nat → St → Int32 → Option (RV × St)
  | 0, _, _ => none
  | n + 1, σ, x2 =>
    if 10 ≤ x2 then
      some (.inl none, σ)
    else
      if x2 < 0 ∨ 10 ≤ x2.toNatClampNeg then none
      else
        f_X3_takeFromStock_2 q1 n (up2 σ 5 x2.toNatClampNeg (if 0 < ((σ 5 x2.toNatClampNeg) - (σ (q1 + 1) x2.toNatClampNeg)) then ((σ 5 x2.toNatClampNeg) - (σ (q1 + 1) x2.toNatClampNeg)) else 0)) (x2 + 1)
set_option maxHeartbeats 4000000 in
set_option maxRecDepth 100000 in
theorem w_X3_takeFromStock_2 {p : Program} {l : Launch} {e : Env} {s : State} {m : MethodId} {args : Array Value} {below : List Frame} {meth : Method} {c : Code} {G : GT} {lo : Nat → Int64} (F : Fx p l s args m meth c G cX3_takeFromStock 3 none RX3) {q1 : Nat} (k1 : kd q1 = 1) : ∀ (n : Nat) {σ : St} {x2 : Int32} {r : RV × St}, f_X3_takeFromStock_2 q1 n σ x2 = some r → ∀ {H : Heap} {locs : List Loc}, va_P (gD G) vwCl (wld G lo σ) H → va_S (gF G) s.heap H locs → ∀ {ls : Array Slot}, lv_has ls 3 [(0, .ref (gA G 0)), (1, .ref (gA G q1)), (2, .int x2)] → W p l e (RM 1 21 0 0) s m args below meth c H locs 0 0 (vx_MQ below (QCr G lo r) (XCr G lo r) args s 0 0 (gF G)) (F0 m 2 ls []) := by
  obtain ⟨hx, hb, hrt, hml, hown, hts, hlocks, hC, htab, hst⟩ := id F
  intro n
  induction n with
  | zero =>
    intro σ x2 r hm
    simp only [f_X3_takeFromStock_2] at hm
    cases hm
  | succ n ih =>
    intro σ x2 r hm H locs hP hS ls hl
    rw [f_X3_takeFromStock_2] at hm
    refine lv_iload_n hx hb dX3_takeFromStock_2 rfl (lv_at hl 2 rfl) ?_
    refine lv_bipush (v := 10) hx hb dX3_takeFromStock_3 (by decide) ?_
    refine lv_icmp_ge (tgt := 37) hx hb dX3_takeFromStock_5 (by decide) (fun b1 => ?_) (fun b1 => ?_)
    · rw [if_pos b1] at hm
      exact xvr F hP hS (Option.some.inj hm).symm (by decide) (by decide) dX3_takeFromStock_37
    · rw [if_neg b1] at hm
      refine lv_aload_n hx hb dX3_takeFromStock_8 rfl (lv_at hl 0 rfl) ?_
      refine xg F 2 inX3 hP (kd_k kdc_0 (by decide)) (wc3 kdc_0) rfl (by decide) tk_113 rfl rfl dX3_takeFromStock_9 ?_
      refine lv_iload_n hx hb dX3_takeFromStock_12 rfl (lv_at hl 2 rfl) ?_
      refine lv_iconst (v := 0) hx hb dX3_takeFromStock_13 (by decide) ?_
      refine lv_aload_n hx hb dX3_takeFromStock_14 rfl (lv_at hl 0 rfl) ?_
      refine xg F 2 inX3 hP (kd_k kdc_0 (by decide)) (wc3 kdc_0) rfl (by decide) tk_113 rfl rfl dX3_takeFromStock_15 ?_
      refine lv_iload_n hx hb dX3_takeFromStock_18 rfl (lv_at hl 2 rfl) ?_
      by_cases b2 : (x2 < 0 ∨ 10 ≤ x2.toNatClampNeg)
      · rw [if_pos b2] at hm
        cases hm
      · rw [if_neg b2] at hm
        refine xil F hP kdc_5 lnc_5 b2 dX3_takeFromStock_19 ?_
        refine lv_aload_n hx hb dX3_takeFromStock_20 rfl (lv_at hl 1 rfl) ?_
        refine xgN F 5 inX1 hP (kd_k k1 (by decide)) (wc1 k1) rfl (by decide) tn_8 rfl rfl dX3_takeFromStock_21 ?_
        refine lv_iload_n hx hb dX3_takeFromStock_24 rfl (lv_at hl 2 rfl) ?_
        refine xil F hP ((kd_ordA _ k1).1) ((kd_ordA _ k1).2) b2 dX3_takeFromStock_25 ?_
        refine lv_isub hx hb dX3_takeFromStock_26 ?_
        refine xmx F tk_26 tk_27 tk_2 tk_28 hl.1 (by decide) (Nat.le_of_ble_eq_true rfl) (by decide) (by decide) dX3_takeFromStock_27 ?_
        refine xis F (v := (if 0 < ((σ 5 x2.toNatClampNeg) - (σ (q1 + 1) x2.toNatClampNeg)) then ((σ 5 x2.toNatClampNeg) - (σ (q1 + 1) x2.toNatClampNeg)) else 0)) hP hS kdc_5 lnc_5 b2 dX3_takeFromStock_30 (fun H locs hP hS => ?_)
        refine lv_iinc (v := (x2 + 1)) (lv' := [(2, .int (x2 + 1)), (0, .ref (gA G 0)), (1, .ref (gA G q1))]) hx hb dX3_takeFromStock_31 hl (k := 2) rfl rfl (by decide) rfl (fun ls hl => ?_)
        refine lv_goto (tgt := 2) hx hb dX3_takeFromStock_34 (by decide) ?_
        exact ih hm hP hS (lv_sub hl [1, 2, 0] rfl)
def f_X3_takeFromStock (σ : St) (q1 : Nat) : Option (RV × St) :=
  f_X3_takeFromStock_2 q1 40 σ 0
set_option maxHeartbeats 4000000 in
set_option maxRecDepth 100000 in
theorem c_X3_takeFromStock {l : Launch} {G : GT} {σ : St} {q1 : Nat} (k1 : kd q1 = 1) {r : RV × St} (hm : f_X3_takeFromStock σ q1 = some r) : MC l G yX3_takeFromStock cX3_takeFromStock 3 none 1 21 0 0 [.inr 0, .inr q1] σ r := by
  refine xbody (by decide) (Nat.le_of_ble_eq_true rfl) ?_
  intro lo p e s m args below meth c F hP ls hl
  have F : Fx p l s args m meth c G cX3_takeFromStock 3 none RX3 := F
  obtain ⟨hx, hb, hrt, hml, hown, hts, hlocks, hC, htab, hst⟩ := id F
  have hS : va_S (gF G) s.heap s.heap [] := va_S.rf
  have hl : lv_has ls 3 [(0, .ref (gA G 0)), (1, .ref (gA G q1))] := hl
  unfold f_X3_takeFromStock at hm
  refine lv_iconst (v := 0) hx hb dX3_takeFromStock_0 (by decide) ?_
  refine lv_istore_n (lv' := [(2, .int 0), (0, .ref (gA G 0)), (1, .ref (gA G q1))]) hx hb dX3_takeFromStock_1 rfl hl (by decide) rfl (fun ls hl => ?_)
  exact w_X3_takeFromStock_2 F k1 40 hm hP hS (lv_sub hl [1, 2, 0] rfl)
/-! ===== X3_done ===== -/
def f_X3_done (σ : St) (x1 : Int32) : Option (RV × St) :=
  qp (f_X3_requireOrder σ x1) (fun E => some (.inr E, σ)) (fun q1_ =>
    if kd q1_ = 1 then
      ri (f_X3_isReleased σ q1_) (fun x2_ =>
        if x2_ = 0 then
          some (.inr "java/lang/IllegalStateException", σ)
        else
          if (σ q1_ 7) = 0 then
            nv (f_X3_takeFromStock (up2 σ q1_ 7 1) q1_) (fun σ5 =>
              if ((σ5 q1_ 6) - 1) < 0 ∨ 16 ≤ ((σ5 q1_ 6) - 1).toNatClampNeg then none
              else
                ri (f_X3_finishedOf σ5 (58 + 2 * ((σ5 q1_ 6) - 1).toNatClampNeg)) (fun x7_ =>
                  some (.inl (some (.inl ((σ5 (58 + 2 * ((σ5 q1_ 6) - 1).toNatClampNeg) 1) - x7_))), σ5)))
          else
            some (.inr "java/lang/IllegalStateException", σ))
    else none)
set_option maxHeartbeats 4000000 in
set_option maxRecDepth 100000 in
theorem c_X3_done {l : Launch} {G : GT} {σ : St} {x1 : Int32} {r : RV × St} (hm : f_X3_done σ x1 = some r) : MC l G yX3_done cX3_done 4 (some .int) 7 111 2 12 [.inr 0, .inl x1] σ r := by
  refine xbody (by decide) (Nat.le_of_ble_eq_true rfl) ?_
  intro lo p e s m args below meth c F hP ls hl
  have F : Fx p l s args m meth c G cX3_done 4 (some .int) RX3 := F
  obtain ⟨hx, hb, hrt, hml, hown, hts, hlocks, hC, htab, hst⟩ := id F
  have hS : va_S (gF G) s.heap s.heap [] := va_S.rf
  have hl : lv_has ls 4 [(0, .ref (gA G 0)), (1, .int x1)] := hl
  unfold f_X3_done at hm
  refine lv_aload_n hx hb dX3_done_0 rfl (lv_at hl 0 rfl) ?_
  refine lv_iload_n hx hb dX3_done_1 rfl (lv_at hl 1 rfl) ?_
  rcases qp_inv hm with ⟨q1_, h1, hm⟩ | ⟨E1, h1, hm⟩
  · refine xV F (c_X3_requireOrder h1) tk_285 tk_282 tk_284 tu_8 tk_1 rfl 1 (by decide +kernel) rfl ⟨Nat.le_of_ble_eq_true rfl, Nat.le_of_ble_eq_true rfl⟩ hP hS (kd_k kdc_0 (by decide)) (wc3 kdc_0) rfl hl.1 rfl (Nat.le_of_ble_eq_true rfl) dX3_done_2 ⟨Nat.le_of_ble_eq_true rfl, Nat.le_of_ble_eq_true rfl⟩ (fun v hv H locs hP hS => ?_) (fun E hE => by cases hE)
    cases hv
    replace hP : va_P (gD G) vwCl (wld G lo σ) H := hP
    refine W.eq (g2 := F0 m 5 ls [.ref (gA G q1_)]) rfl ?_
    by_cases k1_ : kd q1_ = 1
    · rw [if_pos k1_] at hm
      refine lv_astore_n (lv' := [(2, .ref (gA G q1_)), (0, .ref (gA G 0)), (1, .int x1)]) hx hb dX3_done_5 rfl hl (by decide) rfl (fun ls hl => ?_)
      refine lv_aload_n hx hb dX3_done_6 rfl (lv_at hl 1 rfl) ?_
      refine lv_aload_n hx hb dX3_done_7 rfl (lv_at hl 0 rfl) ?_
      obtain ⟨x2_, h2, hm⟩ := ri_inv hm
      refine xV F (c_X3_isReleased k1_ h2) tk_496 tk_493 tk_495 tu_29 tk_1 rfl 1 (by decide +kernel) rfl ⟨Nat.le_of_ble_eq_true rfl, Nat.le_of_ble_eq_true rfl⟩ hP hS (kd_k kdc_0 (by decide)) (wc3 kdc_0) rfl hl.1 rfl (Nat.le_of_ble_eq_true rfl) dX3_done_8 ⟨Nat.le_of_ble_eq_true rfl, Nat.le_of_ble_eq_true rfl⟩ (fun v hv H locs hP hS => ?_) (fun E hE => by cases hE)
      cases hv
      replace hP : va_P (gD G) vwCl (wld G lo σ) H := hP
      refine W.eq (g2 := F0 m 11 ls [.int x2_]) rfl ?_
      refine lv_if_eq (tgt := 21) hx hb dX3_done_11 (by decide) (fun b3 => ?_) (fun b3 => ?_)
      · rw [if_pos b3] at hm
        exact xthr F hP hS (Option.some.inj hm).symm (by decide) (by decide) hl.1 (by decide +kernel) tk_305 tk_13 (List.mem_of_getElem? (i := 13) rfl) xt_91_1 xt_91_2 xt_91_87 dX3_done_21 dX3_done_24 dX3_done_25 dX3_done_27 dX3_done_30 (Nat.le_of_ble_eq_true rfl) (Nat.le_of_ble_eq_true rfl) (Nat.le_of_ble_eq_true rfl) (Nat.le_of_ble_eq_true rfl)
      · rw [if_neg b3] at hm
        refine lv_aload_n hx hb dX3_done_14 rfl (lv_at hl 0 rfl) ?_
        refine xgN F 7 inX1 hP (kd_k k1_ (by decide)) (wc1 k1_) rfl (by decide) tn_10 rfl rfl dX3_done_15 ?_
        refine lv_if_eq (tgt := 31) hx hb dX3_done_18 (by decide) (fun b4 => ?_) (fun b4 => ?_)
        · rw [if_pos b4] at hm
          refine lv_aload_n hx hb dX3_done_31 rfl (lv_at hl 0 rfl) ?_
          refine lv_iconst (v := 1) hx hb dX3_done_32 (by decide) ?_
          refine xpN F (v := 1) (ty := .boolean) 7 inX1 tyX1_ok nmX1 hP hS (kd_k k1_ (by decide)) (wc1 k1_) (wu1_7 k1_) rfl (by decide) tn_10 rfl rfl rfl rfl rfl (Nat.le_of_ble_eq_true rfl) dX3_done_33 (fun H locs hP hS => ?_)
          refine lv_aload_n hx hb dX3_done_36 rfl (lv_at hl 1 rfl) ?_
          refine lv_aload_n hx hb dX3_done_37 rfl (lv_at hl 0 rfl) ?_
          obtain ⟨σ5, h5, hm⟩ := nv_inv hm
          refine xV F (c_X3_takeFromStock k1_ h5) tk_501 tk_498 tk_500 tu_30 tk_1 rfl 1 (by decide +kernel) rfl ⟨Nat.le_of_ble_eq_true rfl, Nat.le_of_ble_eq_true rfl⟩ hP hS (kd_k kdc_0 (by decide)) (wc3 kdc_0) rfl hl.1 rfl (Nat.le_of_ble_eq_true rfl) dX3_done_38 ⟨Nat.le_of_ble_eq_true rfl, Nat.le_of_ble_eq_true rfl⟩ (fun v hv H locs hP hS => ?_) (fun E hE => by cases hE)
          cases hv
          replace hP : va_P (gD G) vwCl (wld G lo σ5) H := hP
          refine W.eq (g2 := F0 m 41 ls []) rfl ?_
          refine lv_aload_n hx hb dX3_done_41 rfl (lv_at hl 1 rfl) ?_
          refine xg F 5 inX3 hP (kd_k kdc_0 (by decide)) (wc3 kdc_0) rfl (by decide) tk_116 rfl rfl dX3_done_42 ?_
          refine lv_aload_n hx hb dX3_done_45 rfl (lv_at hl 0 rfl) ?_
          refine xgN F 6 inX1 hP (kd_k k1_ (by decide)) (wc1 k1_) rfl (by decide) tn_9 rfl rfl dX3_done_46 ?_
          refine lv_iconst (v := 1) hx hb dX3_done_49 (by decide) ?_
          refine lv_isub hx hb dX3_done_50 ?_
          by_cases b6 : (((σ5 q1_ 6) - 1) < 0 ∨ 16 ≤ ((σ5 q1_ 6) - 1).toNatClampNeg)
          · rw [if_pos b6] at hm
            cases hm
          · rw [if_neg b6] at hm
            refine xwl F hP kdc_7 b6 dX3_done_51 ?_
            refine lv_astore_n (lv' := [(3, .ref (gA G (58 + 2 * ((σ5 q1_ 6) - 1).toNatClampNeg))), (2, .ref (gA G q1_)), (0, .ref (gA G 0)), (1, .int x1)]) hx hb dX3_done_52 rfl hl (by decide) rfl (fun ls hl => ?_)
            refine lv_aload_n hx hb dX3_done_53 rfl (lv_at hl 0 rfl) ?_
            refine xgN F 1 inX2 hP (kd_k (kd_wav b6) (by decide)) (wc2 (kd_wav b6)) rfl (by decide) tn_14 rfl rfl dX3_done_54 ?_
            refine lv_aload_n hx hb dX3_done_57 rfl (lv_at hl 2 rfl) ?_
            refine lv_aload_n hx hb dX3_done_58 rfl (lv_at hl 0 rfl) ?_
            obtain ⟨x7_, h7, hm⟩ := ri_inv hm
            refine xV F (c_X3_finishedOf (kd_wav b6) h7) tk_431 tk_428 tk_430 tu_24 tk_1 rfl 1 (by decide +kernel) rfl ⟨Nat.le_of_ble_eq_true rfl, Nat.le_of_ble_eq_true rfl⟩ hP hS (kd_k kdc_0 (by decide)) (wc3 kdc_0) rfl hl.1 rfl (Nat.le_of_ble_eq_true rfl) dX3_done_59 ⟨Nat.le_of_ble_eq_true rfl, Nat.le_of_ble_eq_true rfl⟩ (fun v hv H locs hP hS => ?_) (fun E hE => by cases hE)
            cases hv
            replace hP : va_P (gD G) vwCl (wld G lo σ5) H := hP
            refine W.eq (g2 := F0 m 62 ls [.int x7_, .int (σ5 (58 + 2 * ((σ5 q1_ 6) - 1).toNatClampNeg) 1)]) rfl ?_
            refine lv_isub hx hb dX3_done_62 ?_
            exact xir F hP hS (Option.some.inj hm).symm (by decide) (by decide) dX3_done_63
        · rw [if_neg b4] at hm
          exact xthr F hP hS (Option.some.inj hm).symm (by decide) (by decide) hl.1 (by decide +kernel) tk_305 tk_13 (List.mem_of_getElem? (i := 13) rfl) xt_91_1 xt_91_2 xt_91_87 dX3_done_21 dX3_done_24 dX3_done_25 dX3_done_27 dX3_done_30 (Nat.le_of_ble_eq_true rfl) (Nat.le_of_ble_eq_true rfl) (Nat.le_of_ble_eq_true rfl) (Nat.le_of_ble_eq_true rfl)
    · rw [if_neg k1_] at hm
      cases hm
  · refine xV F (c_X3_requireOrder h1) tk_285 tk_282 tk_284 tu_8 tk_1 rfl 1 (by decide +kernel) rfl ⟨Nat.le_of_ble_eq_true rfl, Nat.le_of_ble_eq_true rfl⟩ hP hS (kd_k kdc_0 (by decide)) (wc3 kdc_0) rfl hl.1 rfl (Nat.le_of_ble_eq_true rfl) dX3_done_2 ⟨Nat.le_of_ble_eq_true rfl, Nat.le_of_ble_eq_true rfl⟩ (fun v hv => by cases hv) (fun E hE H locs q9 ce hP hS e1 e2 e3 => ?_)
    cases hE
    exact xto F hP hS (Option.some.inj hm).symm (by decide) (by decide) e1 e2 e3
/-! ===== X3_takeOut ===== -/
def f_X3_takeOut (σ : St) (x1 : Int32) (x2 : Int32) : Option (RV × St) :=
  if x1 < 0 ∨ 16 ≤ x1.toNatClampNeg then none
  else
    if (σ (26 + 2 * x1.toNatClampNeg) 6) < 1 then
      some (.inl none, (up2 σ (26 + 2 * x1.toNatClampNeg) 6 x2))
    else
      if (σ 0 6) < (σ (26 + 2 * x1.toNatClampNeg) 6) then
        some (.inl none, (up2 σ (26 + 2 * x1.toNatClampNeg) 6 x2))
      else
        if ((σ (26 + 2 * x1.toNatClampNeg) 6) - 1) < 0 ∨ 16 ≤ ((σ (26 + 2 * x1.toNatClampNeg) 6) - 1).toNatClampNeg then none
        else
          nv (f_X2_remove σ (58 + 2 * ((σ (26 + 2 * x1.toNatClampNeg) 6) - 1).toNatClampNeg) x1) (fun σ5 =>
            some (.inl none, (up2 σ5 (26 + 2 * x1.toNatClampNeg) 6 x2)))
set_option maxHeartbeats 4000000 in
set_option maxRecDepth 100000 in
theorem c_X3_takeOut {l : Launch} {G : GT} {σ : St} {x1 : Int32} {x2 : Int32} {r : RV × St} (hm : f_X3_takeOut σ x1 x2 = some r) : MC l G yX3_takeOut cX3_takeOut 4 none 1 23 0 0 [.inr 0, .inl x1, .inl x2] σ r := by
  refine xbody (by decide) (Nat.le_of_ble_eq_true rfl) ?_
  intro lo p e s m args below meth c F hP ls hl
  have F : Fx p l s args m meth c G cX3_takeOut 4 none RX3 := F
  obtain ⟨hx, hb, hrt, hml, hown, hts, hlocks, hC, htab, hst⟩ := id F
  have hS : va_S (gF G) s.heap s.heap [] := va_S.rf
  have hl : lv_has ls 4 [(0, .ref (gA G 0)), (1, .int x1), (2, .int x2)] := hl
  unfold f_X3_takeOut at hm
  refine lv_aload_n hx hb dX3_takeOut_0 rfl (lv_at hl 0 rfl) ?_
  refine xg F 3 inX3 hP (kd_k kdc_0 (by decide)) (wc3 kdc_0) rfl (by decide) tk_114 rfl rfl dX3_takeOut_1 ?_
  refine lv_iload_n hx hb dX3_takeOut_4 rfl (lv_at hl 1 rfl) ?_
  by_cases b1 : (x1 < 0 ∨ 16 ≤ x1.toNatClampNeg)
  · rw [if_pos b1] at hm
    cases hm
  · rw [if_neg b1] at hm
    refine xol F hP kdc_6 b1 dX3_takeOut_5 ?_
    refine lv_astore_n (lv' := [(3, .ref (gA G (26 + 2 * x1.toNatClampNeg))), (0, .ref (gA G 0)), (1, .int x1), (2, .int x2)]) hx hb dX3_takeOut_6 rfl hl (by decide) rfl (fun ls hl => ?_)
    refine lv_aload_n hx hb dX3_takeOut_7 rfl (lv_at hl 0 rfl) ?_
    refine xgN F 6 inX1 hP (kd_k (kd_ord b1) (by decide)) (wc1 (kd_ord b1)) rfl (by decide) tn_9 rfl rfl dX3_takeOut_8 ?_
    refine lv_iconst (v := 1) hx hb dX3_takeOut_11 (by decide) ?_
    refine lv_icmp_lt (tgt := 41) hx hb dX3_takeOut_12 (by decide) (fun b2 => ?_) (fun b2 => ?_)
    · rw [if_pos b2] at hm
      refine lv_aload_n hx hb dX3_takeOut_41 rfl (lv_at hl 0 rfl) ?_
      refine lv_iload_n hx hb dX3_takeOut_42 rfl (lv_at hl 3 rfl) ?_
      refine xpN F (v := x2) (ty := .int) 6 inX1 tyX1_ok nmX1 hP hS (kd_k (kd_ord b1) (by decide)) (wc1 (kd_ord b1)) (wu1_6 (kd_ord b1)) rfl (by decide) tn_9 rfl rfl rfl rfl rfl (Nat.le_of_ble_eq_true rfl) dX3_takeOut_43 (fun H locs hP hS => ?_)
      exact xvr F hP hS (Option.some.inj hm).symm (by decide) (by decide) dX3_takeOut_46
    · rw [if_neg b2] at hm
      refine lv_aload_n hx hb dX3_takeOut_15 rfl (lv_at hl 0 rfl) ?_
      refine xgN F 6 inX1 hP (kd_k (kd_ord b1) (by decide)) (wc1 (kd_ord b1)) rfl (by decide) tn_9 rfl rfl dX3_takeOut_16 ?_
      refine lv_aload_n hx hb dX3_takeOut_19 rfl (lv_at hl 1 rfl) ?_
      refine xg F 6 inX3 hP (kd_k kdc_0 (by decide)) (wc3 kdc_0) rfl (by decide) tk_117 rfl rfl dX3_takeOut_20 ?_
      refine lv_icmp_gt (tgt := 41) hx hb dX3_takeOut_23 (by decide) (fun b3 => ?_) (fun b3 => ?_)
      · rw [if_pos b3] at hm
        refine lv_aload_n hx hb dX3_takeOut_41 rfl (lv_at hl 0 rfl) ?_
        refine lv_iload_n hx hb dX3_takeOut_42 rfl (lv_at hl 3 rfl) ?_
        refine xpN F (v := x2) (ty := .int) 6 inX1 tyX1_ok nmX1 hP hS (kd_k (kd_ord b1) (by decide)) (wc1 (kd_ord b1)) (wu1_6 (kd_ord b1)) rfl (by decide) tn_9 rfl rfl rfl rfl rfl (Nat.le_of_ble_eq_true rfl) dX3_takeOut_43 (fun H locs hP hS => ?_)
        exact xvr F hP hS (Option.some.inj hm).symm (by decide) (by decide) dX3_takeOut_46
      · rw [if_neg b3] at hm
        refine lv_aload_n hx hb dX3_takeOut_26 rfl (lv_at hl 1 rfl) ?_
        refine xg F 5 inX3 hP (kd_k kdc_0 (by decide)) (wc3 kdc_0) rfl (by decide) tk_116 rfl rfl dX3_takeOut_27 ?_
        refine lv_aload_n hx hb dX3_takeOut_30 rfl (lv_at hl 0 rfl) ?_
        refine xgN F 6 inX1 hP (kd_k (kd_ord b1) (by decide)) (wc1 (kd_ord b1)) rfl (by decide) tn_9 rfl rfl dX3_takeOut_31 ?_
        refine lv_iconst (v := 1) hx hb dX3_takeOut_34 (by decide) ?_
        refine lv_isub hx hb dX3_takeOut_35 ?_
        by_cases b4 : (((σ (26 + 2 * x1.toNatClampNeg) 6) - 1) < 0 ∨ 16 ≤ ((σ (26 + 2 * x1.toNatClampNeg) 6) - 1).toNatClampNeg)
        · rw [if_pos b4] at hm
          cases hm
        · rw [if_neg b4] at hm
          refine xwl F hP kdc_7 b4 dX3_takeOut_36 ?_
          refine lv_iload_n hx hb dX3_takeOut_37 rfl (lv_at hl 2 rfl) ?_
          obtain ⟨σ5, h5, hm⟩ := nv_inv hm
          refine xVN F (c_X2_remove (kd_wav b4) h5) rfl tk_517 tn_33 tk_516 tu_32 tk_5 rfl 1 (by decide +kernel) rfl ⟨Nat.le_of_ble_eq_true rfl, Nat.le_of_ble_eq_true rfl⟩ hP hS (kd_k (kd_wav b4) (by decide)) (wc2 (kd_wav b4)) rfl hl.1 rfl (Nat.le_of_ble_eq_true rfl) dX3_takeOut_38 ⟨Nat.le_of_ble_eq_true rfl, Nat.le_of_ble_eq_true rfl⟩ (fun H locs hP hS => ?_)
          replace hP : va_P (gD G) vwCl (wld G lo σ5) H := hP
          refine W.eq (g2 := F0 m 41 ls []) rfl ?_
          refine lv_aload_n hx hb dX3_takeOut_41 rfl (lv_at hl 0 rfl) ?_
          refine lv_iload_n hx hb dX3_takeOut_42 rfl (lv_at hl 3 rfl) ?_
          refine xpN F (v := x2) (ty := .int) 6 inX1 tyX1_ok nmX1 hP hS (kd_k (kd_ord b1) (by decide)) (wc1 (kd_ord b1)) (wu1_6 (kd_ord b1)) rfl (by decide) tn_9 rfl rfl rfl rfl rfl (Nat.le_of_ble_eq_true rfl) dX3_takeOut_43 (fun H locs hP hS => ?_)
          exact xvr F hP hS (Option.some.inj hm).symm (by decide) (by decide) dX3_takeOut_46
/-! ===== X3_change ===== -/
def f_X3_change_70 (σ : St) (x1 : Int32) : Option (RV × St) :=
  some (.inl (some (.inl 0)), σ)
set_option maxHeartbeats 4000000 in
set_option maxRecDepth 100000 in
theorem w_X3_change_70 {p : Program} {l : Launch} {e : Env} {s : State} {m : MethodId} {args : Array Value} {below : List Frame} {meth : Method} {c : Code} {G : GT} {lo : Nat → Int64} (F : Fx p l s args m meth c G cX3_change 5 (some .boolean) RX3) {σ : St} {x1 : Int32} {r : RV × St} (hm : f_X3_change_70 σ x1 = some r) {H : Heap} {locs : List Loc} (hP : va_P (gD G) vwCl (wld G lo σ) H) (hS : va_S (gF G) s.heap H locs) {ls : Array Slot} (hl : lv_has ls 5 [(0, .ref (gA G 0)), (1, .int x1)]) : W p l e (RM 7 112 3 18) s m args below meth c H locs 2 12 (vx_MQ below (QCr G lo r) (XCr G lo r) args s 3 18 (gF G)) (F0 m 70 ls []) := by
  obtain ⟨hx, hb, hrt, hml, hown, hts, hlocks, hC, htab, hst⟩ := id F
  unfold f_X3_change_70 at hm
  refine lv_iconst (v := 0) hx hb dX3_change_70 (by decide) ?_
  refine lv_istore (lv' := [(4, .int 0), (0, .ref (gA G 0)), (1, .int x1)]) hx hb dX3_change_71 hl (by decide) rfl (fun ls hl => ?_)
  refine lv_iload hx hb dX3_change_73 (lv_at hl 0 rfl) ?_
  refine lv_if_eq (tgt := 84) hx hb dX3_change_75 (by decide) (fun b1 => ?_) (fun b1 => ?_)
  · refine lv_iload hx hb dX3_change_84 (lv_at hl 0 rfl) ?_
    exact xzr F hP hS rfl (Option.some.inj hm).symm (by decide) (by decide) dX3_change_86
  · exact False.elim (by revert b1; decide)
def f_X3_change (σ : St) (x1 : Int32) (x2 : Int32) : Option (RV × St) :=
  qp (f_X3_requireOrder σ x1) (fun E => some (.inr E, σ)) (fun q1_ =>
    if kd q1_ = 1 then
      qv (f_X3_requireRange σ x2 0 100000) (fun E => some (.inr E, σ)) (
        if (σ q1_ 6) = (-1) then
          some (.inr "java/lang/IllegalStateException", σ)
        else
          if (σ q1_ 7) = 0 then
            if ((up2 σ q1_ 0 x2) q1_ 6) = 0 then
              f_X3_change_70 (up2 σ q1_ 0 x2) x1
            else
              ri (f_X3_isReleased (up2 σ q1_ 0 x2) q1_) (fun x6_ =>
                if x6_ = 0 then
                  ri (f_X3_fits (up2 σ q1_ 0 x2) q1_) (fun x8_ =>
                    if x8_ = 0 then
                      nv (f_X3_takeOut (up2 σ q1_ 0 x2) x1 0) (fun σ11 =>
                        some (.inl (some (.inl 1)), σ11))
                    else
                      f_X3_change_70 (up2 σ q1_ 0 x2) x1)
                else
                  f_X3_change_70 (up2 σ q1_ 0 x2) x1)
          else
            some (.inr "java/lang/IllegalStateException", σ))
    else none)
set_option maxHeartbeats 4000000 in
set_option maxRecDepth 100000 in
theorem c_X3_change {l : Launch} {G : GT} {σ : St} {x1 : Int32} {x2 : Int32} {r : RV × St} (hm : f_X3_change σ x1 x2 = some r) : MC l G yX3_change cX3_change 5 (some .boolean) 7 112 3 18 [.inr 0, .inl x1, .inl x2] σ r := by
  refine xbody (by decide) (Nat.le_of_ble_eq_true rfl) ?_
  intro lo p e s m args below meth c F hP ls hl
  have F : Fx p l s args m meth c G cX3_change 5 (some .boolean) RX3 := F
  obtain ⟨hx, hb, hrt, hml, hown, hts, hlocks, hC, htab, hst⟩ := id F
  have hS : va_S (gF G) s.heap s.heap [] := va_S.rf
  have hl : lv_has ls 5 [(0, .ref (gA G 0)), (1, .int x1), (2, .int x2)] := hl
  unfold f_X3_change at hm
  refine lv_aload_n hx hb dX3_change_0 rfl (lv_at hl 0 rfl) ?_
  refine lv_iload_n hx hb dX3_change_1 rfl (lv_at hl 1 rfl) ?_
  rcases qp_inv hm with ⟨q1_, h1, hm⟩ | ⟨E1, h1, hm⟩
  · refine xV F (c_X3_requireOrder h1) tk_285 tk_282 tk_284 tu_8 tk_1 rfl 1 (by decide +kernel) rfl ⟨Nat.le_of_ble_eq_true rfl, Nat.le_of_ble_eq_true rfl⟩ hP hS (kd_k kdc_0 (by decide)) (wc3 kdc_0) rfl hl.1 rfl (Nat.le_of_ble_eq_true rfl) dX3_change_2 ⟨Nat.le_of_ble_eq_true rfl, Nat.le_of_ble_eq_true rfl⟩ (fun v hv H locs hP hS => ?_) (fun E hE => by cases hE)
    cases hv
    replace hP : va_P (gD G) vwCl (wld G lo σ) H := hP
    refine W.eq (g2 := F0 m 5 ls [.ref (gA G q1_)]) rfl ?_
    by_cases k1_ : kd q1_ = 1
    · rw [if_pos k1_] at hm
      refine lv_astore_n (lv' := [(3, .ref (gA G q1_)), (0, .ref (gA G 0)), (1, .int x1), (2, .int x2)]) hx hb dX3_change_5 rfl hl (by decide) rfl (fun ls hl => ?_)
      refine lv_iload_n hx hb dX3_change_6 rfl (lv_at hl 3 rfl) ?_
      refine lv_iconst (v := 0) hx hb dX3_change_7 (by decide) ?_
      refine lv_ldc (v := 100000) hx hb hown (hts _ tk_184) dX3_change_8 ?_
      rcases qv_inv hm with ⟨h2, hm⟩ | ⟨E2, h2, hm⟩
      · refine xSt F (c_X3_requireRange h2) tk_187 tk_185 tk_186 tk_1 rfl 3 (by decide +kernel) rfl ⟨Nat.le_of_ble_eq_true rfl, Nat.le_of_ble_eq_true rfl⟩ hP hS hl.1 rfl (Nat.le_of_ble_eq_true rfl) dX3_change_10 ⟨Nat.le_of_ble_eq_true rfl, Nat.le_of_ble_eq_true rfl⟩ (fun v hv H locs hP hS => ?_) (fun E hE => by cases hE)
        cases hv
        replace hP : va_P (gD G) vwCl (wld G lo σ) H := hP
        refine W.eq (g2 := F0 m 13 ls []) rfl ?_
        refine lv_aload_n hx hb dX3_change_13 rfl (lv_at hl 0 rfl) ?_
        refine xgN F 6 inX1 hP (kd_k k1_ (by decide)) (wc1 k1_) rfl (by decide) tn_9 rfl rfl dX3_change_14 ?_
        refine lv_iconst (v := (-1)) hx hb dX3_change_17 (by decide) ?_
        refine lv_icmp_eq (tgt := 28) hx hb dX3_change_18 (by decide) (fun b3 => ?_) (fun b3 => ?_)
        · rw [if_pos b3] at hm
          exact xthr F hP hS (Option.some.inj hm).symm (by decide) (by decide) hl.1 (by decide +kernel) tk_305 tk_13 (List.mem_of_getElem? (i := 14) rfl) xt_91_1 xt_91_2 xt_91_87 dX3_change_28 dX3_change_31 dX3_change_32 dX3_change_34 dX3_change_37 (Nat.le_of_ble_eq_true rfl) (Nat.le_of_ble_eq_true rfl) (Nat.le_of_ble_eq_true rfl) (Nat.le_of_ble_eq_true rfl)
        · rw [if_neg b3] at hm
          refine lv_aload_n hx hb dX3_change_21 rfl (lv_at hl 0 rfl) ?_
          refine xgN F 7 inX1 hP (kd_k k1_ (by decide)) (wc1 k1_) rfl (by decide) tn_10 rfl rfl dX3_change_22 ?_
          refine lv_if_eq (tgt := 38) hx hb dX3_change_25 (by decide) (fun b4 => ?_) (fun b4 => ?_)
          · rw [if_pos b4] at hm
            refine lv_aload_n hx hb dX3_change_38 rfl (lv_at hl 0 rfl) ?_
            refine lv_iload_n hx hb dX3_change_39 rfl (lv_at hl 3 rfl) ?_
            refine xpN F (v := x2) (ty := .int) 0 inX1 tyX1_ok nmX1 hP hS (kd_k k1_ (by decide)) (wc1 k1_) (wu1_0 k1_) rfl (by decide) tn_3 rfl rfl rfl rfl rfl (Nat.le_of_ble_eq_true rfl) dX3_change_40 (fun H locs hP hS => ?_)
            refine lv_aload_n hx hb dX3_change_43 rfl (lv_at hl 0 rfl) ?_
            refine xgN F 6 inX1 hP (kd_k k1_ (by decide)) (wc1 k1_) rfl (by decide) tn_9 rfl rfl dX3_change_44 ?_
            refine lv_if_eq (tgt := 70) hx hb dX3_change_47 (by decide) (fun b5 => ?_) (fun b5 => ?_)
            · rw [if_pos b5] at hm
              exact w_X3_change_70 F hm hP hS (lv_sub hl [1, 2] rfl)
            · rw [if_neg b5] at hm
              refine lv_aload_n hx hb dX3_change_50 rfl (lv_at hl 1 rfl) ?_
              refine lv_aload_n hx hb dX3_change_51 rfl (lv_at hl 0 rfl) ?_
              obtain ⟨x6_, h6, hm⟩ := ri_inv hm
              refine xV F (c_X3_isReleased k1_ h6) tk_496 tk_493 tk_495 tu_29 tk_1 rfl 1 (by decide +kernel) rfl ⟨Nat.le_of_ble_eq_true rfl, Nat.le_of_ble_eq_true rfl⟩ hP hS (kd_k kdc_0 (by decide)) (wc3 kdc_0) rfl hl.1 rfl (Nat.le_of_ble_eq_true rfl) dX3_change_52 ⟨Nat.le_of_ble_eq_true rfl, Nat.le_of_ble_eq_true rfl⟩ (fun v hv H locs hP hS => ?_) (fun E hE => by cases hE)
              cases hv
              replace hP : va_P (gD G) vwCl (wld G lo (up2 σ q1_ 0 x2)) H := hP
              refine W.eq (g2 := F0 m 55 ls [.int x6_]) rfl ?_
              refine lv_if_ne (tgt := 70) hx hb dX3_change_55 (by decide) (fun b7 => ?_) (fun b7 => ?_)
              · rw [if_neg b7] at hm
                exact w_X3_change_70 F hm hP hS (lv_sub hl [1, 2] rfl)
              · rw [if_pos b7] at hm
                refine lv_aload_n hx hb dX3_change_58 rfl (lv_at hl 1 rfl) ?_
                refine lv_aload_n hx hb dX3_change_59 rfl (lv_at hl 0 rfl) ?_
                obtain ⟨x8_, h8, hm⟩ := ri_inv hm
                refine xV F (c_X3_fits k1_ h8) tk_375 tk_372 tk_374 tu_14 tk_1 rfl 1 (by decide +kernel) rfl ⟨Nat.le_of_ble_eq_true rfl, Nat.le_of_ble_eq_true rfl⟩ hP hS (kd_k kdc_0 (by decide)) (wc3 kdc_0) rfl hl.1 rfl (Nat.le_of_ble_eq_true rfl) dX3_change_60 ⟨Nat.le_of_ble_eq_true rfl, Nat.le_of_ble_eq_true rfl⟩ (fun v hv H locs hP hS => ?_) (fun E hE => by cases hE)
                cases hv
                replace hP : va_P (gD G) vwCl (wld G lo (up2 σ q1_ 0 x2)) H := hP
                refine W.eq (g2 := F0 m 63 ls [.int x8_]) rfl ?_
                refine lv_if_ne (tgt := 70) hx hb dX3_change_63 (by decide) (fun b9 => ?_) (fun b9 => ?_)
                · rw [if_neg b9] at hm
                  exact w_X3_change_70 F hm hP hS (lv_sub hl [1, 2] rfl)
                · rw [if_pos b9] at hm
                  refine lv_iconst (v := 1) hx hb dX3_change_66 (by decide) ?_
                  refine lv_goto (tgt := 71) hx hb dX3_change_67 (by decide) ?_
                  refine lv_istore (lv' := [(4, .int 1), (3, .ref (gA G q1_)), (0, .ref (gA G 0)), (1, .int x1), (2, .int x2)]) hx hb dX3_change_71 hl (by decide) rfl (fun ls hl => ?_)
                  refine lv_iload hx hb dX3_change_73 (lv_at hl 0 rfl) ?_
                  refine lv_if_eq (tgt := 84) hx hb dX3_change_75 (by decide) (fun b10 => ?_) (fun b10 => ?_)
                  · exact False.elim (by revert b10; decide)
                  · refine lv_aload_n hx hb dX3_change_78 rfl (lv_at hl 2 rfl) ?_
                    refine lv_iload_n hx hb dX3_change_79 rfl (lv_at hl 3 rfl) ?_
                    refine lv_iconst (v := 0) hx hb dX3_change_80 (by decide) ?_
                    obtain ⟨σ11, h11, hm⟩ := nv_inv hm
                    refine xV F (c_X3_takeOut h11) tk_513 tk_510 tk_512 tu_31 tk_1 rfl 2 (by decide +kernel) rfl ⟨Nat.le_of_ble_eq_true rfl, Nat.le_of_ble_eq_true rfl⟩ hP hS (kd_k kdc_0 (by decide)) (wc3 kdc_0) rfl hl.1 rfl (Nat.le_of_ble_eq_true rfl) dX3_change_81 ⟨Nat.le_of_ble_eq_true rfl, Nat.le_of_ble_eq_true rfl⟩ (fun v hv H locs hP hS => ?_) (fun E hE => by cases hE)
                    cases hv
                    replace hP : va_P (gD G) vwCl (wld G lo σ11) H := hP
                    refine W.eq (g2 := F0 m 84 ls []) rfl ?_
                    refine lv_iload hx hb dX3_change_84 (lv_at hl 0 rfl) ?_
                    exact xzr F hP hS rfl (Option.some.inj hm).symm (by decide) (by decide) dX3_change_86
          · rw [if_neg b4] at hm
            exact xthr F hP hS (Option.some.inj hm).symm (by decide) (by decide) hl.1 (by decide +kernel) tk_305 tk_13 (List.mem_of_getElem? (i := 14) rfl) xt_91_1 xt_91_2 xt_91_87 dX3_change_28 dX3_change_31 dX3_change_32 dX3_change_34 dX3_change_37 (Nat.le_of_ble_eq_true rfl) (Nat.le_of_ble_eq_true rfl) (Nat.le_of_ble_eq_true rfl) (Nat.le_of_ble_eq_true rfl)
      · refine xSt F (c_X3_requireRange h2) tk_187 tk_185 tk_186 tk_1 rfl 3 (by decide +kernel) rfl ⟨Nat.le_of_ble_eq_true rfl, Nat.le_of_ble_eq_true rfl⟩ hP hS hl.1 rfl (Nat.le_of_ble_eq_true rfl) dX3_change_10 ⟨Nat.le_of_ble_eq_true rfl, Nat.le_of_ble_eq_true rfl⟩ (fun v hv => by cases hv) (fun E hE H locs q9 ce hP hS e1 e2 e3 => ?_)
        cases hE
        exact xto F hP hS (Option.some.inj hm).symm (by decide) (by decide) e1 e2 e3
    · rw [if_neg k1_] at hm
      cases hm
  · refine xV F (c_X3_requireOrder h1) tk_285 tk_282 tk_284 tu_8 tk_1 rfl 1 (by decide +kernel) rfl ⟨Nat.le_of_ble_eq_true rfl, Nat.le_of_ble_eq_true rfl⟩ hP hS (kd_k kdc_0 (by decide)) (wc3 kdc_0) rfl hl.1 rfl (Nat.le_of_ble_eq_true rfl) dX3_change_2 ⟨Nat.le_of_ble_eq_true rfl, Nat.le_of_ble_eq_true rfl⟩ (fun v hv => by cases hv) (fun E hE H locs q9 ce hP hS e1 e2 e3 => ?_)
    cases hE
    exact xto F hP hS (Option.some.inj hm).symm (by decide) (by decide) e1 e2 e3
/-! ===== X3_join ===== -/
def f_X3_join_105 (x1 : Int32) (q3 : Nat) (q4 : Nat) (x5 : Int32) : Nat → St → Int32 → Option (RV × St)
  | 0, _, _ => none
  | n + 1, σ, x6 =>
    if (σ q4 1) ≤ x6 then
      nv (f_X2_addAll σ q3 q4) (fun σ2 =>
        nv (f_X2_empty σ2 q4) (fun σ3 =>
          some (.inl (some (.inl x5)), σ3)))
    else
      if x6 < 0 ∨ 16 ≤ x6.toNatClampNeg then none
      else
        if (σ (q4 + 1) x6.toNatClampNeg) < 0 ∨ 16 ≤ (σ (q4 + 1) x6.toNatClampNeg).toNatClampNeg then none
        else
          f_X3_join_105 x1 q3 q4 x5 n (up2 σ (26 + 2 * (σ (q4 + 1) x6.toNatClampNeg).toNatClampNeg) 6 x1) (x6 + 1)
set_option maxHeartbeats 4000000 in
set_option maxRecDepth 100000 in
theorem w_X3_join_105 {p : Program} {l : Launch} {e : Env} {s : State} {m : MethodId} {args : Array Value} {below : List Frame} {meth : Method} {c : Code} {G : GT} {lo : Nat → Int64} (F : Fx p l s args m meth c G cX3_join 7 (some .int) RX3) {x1 : Int32} {q3 : Nat} {q4 : Nat} {x5 : Int32} (k3 : kd q3 = 2) (k4 : kd q4 = 2) : ∀ (n : Nat) {σ : St} {x6 : Int32} {r : RV × St}, f_X3_join_105 x1 q3 q4 x5 n σ x6 = some r → ∀ {H : Heap} {locs : List Loc}, va_P (gD G) vwCl (wld G lo σ) H → va_S (gF G) s.heap H locs → ∀ {ls : Array Slot}, lv_has ls 7 [(0, .ref (gA G 0)), (1, .int x1), (3, .ref (gA G q3)), (4, .ref (gA G q4)), (5, .int x5), (6, .int x6)] → W p l e (RM 7 115 5 30) s m args below meth c H locs 4 24 (vx_MQ below (QCr G lo r) (XCr G lo r) args s 5 30 (gF G)) (F0 m 105 ls []) := by
  obtain ⟨hx, hb, hrt, hml, hown, hts, hlocks, hC, htab, hst⟩ := id F
  intro n
  induction n with
  | zero =>
    intro σ x6 r hm
    simp only [f_X3_join_105] at hm
    cases hm
  | succ n ih =>
    intro σ x6 r hm H locs hP hS ls hl
    rw [f_X3_join_105] at hm
    refine lv_iload hx hb dX3_join_105 (lv_at hl 5 rfl) ?_
    refine lv_aload hx hb dX3_join_107 (lv_at hl 3 rfl) ?_
    refine xgN F 1 inX2 hP (kd_k k4 (by decide)) (wc2 k4) rfl (by decide) tn_14 rfl rfl dX3_join_109 ?_
    refine lv_icmp_ge (tgt := 138) hx hb dX3_join_112 (by decide) (fun b1 => ?_) (fun b1 => ?_)
    · rw [if_pos b1] at hm
      refine lv_aload_n hx hb dX3_join_138 rfl (lv_at hl 2 rfl) ?_
      refine lv_aload hx hb dX3_join_139 (lv_at hl 3 rfl) ?_
      obtain ⟨σ2, h2, hm⟩ := nv_inv hm
      refine xVN F (c_X2_addAll k3 k4 h2) rfl tk_529 tn_34 tk_528 tu_33 tk_5 rfl 1 (by decide +kernel) rfl ⟨Nat.le_of_ble_eq_true rfl, Nat.le_of_ble_eq_true rfl⟩ hP hS (kd_k k3 (by decide)) (wc2 k3) rfl hl.1 rfl (Nat.le_of_ble_eq_true rfl) dX3_join_141 ⟨Nat.le_of_ble_eq_true rfl, Nat.le_of_ble_eq_true rfl⟩ (fun H locs hP hS => ?_)
      replace hP : va_P (gD G) vwCl (wld G lo σ2) H := hP
      refine W.eq (g2 := F0 m 144 ls []) rfl ?_
      refine lv_aload hx hb dX3_join_144 (lv_at hl 3 rfl) ?_
      obtain ⟨σ3, h3, hm⟩ := nv_inv hm
      refine xVN F (c_X2_empty k4 h3) rfl tk_399 tn_32 tk_398 tu_20 tk_5 rfl 0 (by decide +kernel) rfl ⟨Nat.le_of_ble_eq_true rfl, Nat.le_of_ble_eq_true rfl⟩ hP hS (kd_k k4 (by decide)) (wc2 k4) rfl hl.1 rfl (Nat.le_of_ble_eq_true rfl) dX3_join_146 ⟨Nat.le_of_ble_eq_true rfl, Nat.le_of_ble_eq_true rfl⟩ (fun H locs hP hS => ?_)
      replace hP : va_P (gD G) vwCl (wld G lo σ3) H := hP
      refine W.eq (g2 := F0 m 149 ls []) rfl ?_
      refine lv_iload hx hb dX3_join_149 (lv_at hl 4 rfl) ?_
      exact xir F hP hS (Option.some.inj hm).symm (by decide) (by decide) dX3_join_151
    · rw [if_neg b1] at hm
      refine lv_aload_n hx hb dX3_join_115 rfl (lv_at hl 0 rfl) ?_
      refine xg F 3 inX3 hP (kd_k kdc_0 (by decide)) (wc3 kdc_0) rfl (by decide) tk_114 rfl rfl dX3_join_116 ?_
      refine lv_aload hx hb dX3_join_119 (lv_at hl 3 rfl) ?_
      refine xgN F 0 inX2 hP (kd_k k4 (by decide)) (wc2 k4) rfl (by decide) tn_13 rfl rfl dX3_join_121 ?_
      refine lv_iload hx hb dX3_join_124 (lv_at hl 5 rfl) ?_
      by_cases b4 : (x6 < 0 ∨ 16 ≤ x6.toNatClampNeg)
      · rw [if_pos b4] at hm
        cases hm
      · rw [if_neg b4] at hm
        refine xil F hP ((kd_wavA _ k4).1) ((kd_wavA _ k4).2) b4 dX3_join_126 ?_
        by_cases b5 : ((σ (q4 + 1) x6.toNatClampNeg) < 0 ∨ 16 ≤ (σ (q4 + 1) x6.toNatClampNeg).toNatClampNeg)
        · rw [if_pos b5] at hm
          cases hm
        · rw [if_neg b5] at hm
          refine xol F hP kdc_6 b5 dX3_join_127 ?_
          refine lv_iload_n hx hb dX3_join_128 rfl (lv_at hl 1 rfl) ?_
          refine xpN F (v := x1) (ty := .int) 6 inX1 tyX1_ok nmX1 hP hS (kd_k (kd_ord b5) (by decide)) (wc1 (kd_ord b5)) (wu1_6 (kd_ord b5)) rfl (by decide) tn_9 rfl rfl rfl rfl rfl (Nat.le_of_ble_eq_true rfl) dX3_join_129 (fun H locs hP hS => ?_)
          refine lv_iinc (v := (x6 + 1)) (lv' := [(6, .int (x6 + 1)), (0, .ref (gA G 0)), (1, .int x1), (3, .ref (gA G q3)), (4, .ref (gA G q4)), (5, .int x5)]) hx hb dX3_join_132 hl (k := 5) rfl rfl (by decide) rfl (fun ls hl => ?_)
          refine lv_goto (tgt := 105) hx hb dX3_join_135 (by decide) ?_
          exact ih hm hP hS (lv_sub hl [1, 2, 3, 4, 5, 0] rfl)
def f_X3_join (σ : St) (x1 : Int32) (x2 : Int32) : Option (RV × St) :=
  qp (f_X3_requireWave σ x1) (fun E => some (.inr E, σ)) (fun q1_ =>
    if kd q1_ = 2 then
      qp (f_X3_requireWave σ x2) (fun E => some (.inr E, σ)) (fun q2_ =>
        if kd q2_ = 2 then
          qv (f_X3_requirePlanned σ q1_) (fun E => some (.inr E, σ)) (
            qv (f_X3_requirePlanned σ q2_) (fun E => some (.inr E, σ)) (
              if x1 = x2 then
                some (.inr "java/lang/IllegalStateException", σ)
              else
                if (σ q1_ 2) = (σ q2_ 2) then
                  nv (f_X2_empty σ 90) (fun σ7 =>
                    nv (f_X2_addAll σ7 90 q1_) (fun σ8 =>
                      nv (f_X2_addAll σ8 90 q2_) (fun σ9 =>
                        ri (f_X3_secondsOf σ9 90) (fun x10_ =>
                          if x10_ ≤ (σ9 0 0) then
                            f_X3_join_105 x1 q1_ q2_ x10_ 40 σ9 0
                          else
                            some (.inr "java/lang/IllegalStateException", σ9)))))
                else
                  some (.inr "java/lang/IllegalStateException", σ)))
        else none)
    else none)
set_option maxHeartbeats 4000000 in
set_option maxRecDepth 100000 in
theorem c_X3_join {l : Launch} {G : GT} {σ : St} {x1 : Int32} {x2 : Int32} {r : RV × St} (hm : f_X3_join σ x1 x2 = some r) : MC l G yX3_join cX3_join 7 (some .int) 7 115 5 30 [.inr 0, .inl x1, .inl x2] σ r := by
  refine xbody (by decide) (Nat.le_of_ble_eq_true rfl) ?_
  intro lo p e s m args below meth c F hP ls hl
  have F : Fx p l s args m meth c G cX3_join 7 (some .int) RX3 := F
  obtain ⟨hx, hb, hrt, hml, hown, hts, hlocks, hC, htab, hst⟩ := id F
  have hS : va_S (gF G) s.heap s.heap [] := va_S.rf
  have hl : lv_has ls 7 [(0, .ref (gA G 0)), (1, .int x1), (2, .int x2)] := hl
  unfold f_X3_join at hm
  refine lv_aload_n hx hb dX3_join_0 rfl (lv_at hl 0 rfl) ?_
  refine lv_iload_n hx hb dX3_join_1 rfl (lv_at hl 1 rfl) ?_
  rcases qp_inv hm with ⟨q1_, h1, hm⟩ | ⟨E1, h1, hm⟩
  · refine xV F (c_X3_requireWave h1) tk_418 tk_415 tk_417 tu_21 tk_1 rfl 1 (by decide +kernel) rfl ⟨Nat.le_of_ble_eq_true rfl, Nat.le_of_ble_eq_true rfl⟩ hP hS (kd_k kdc_0 (by decide)) (wc3 kdc_0) rfl hl.1 rfl (Nat.le_of_ble_eq_true rfl) dX3_join_2 ⟨Nat.le_of_ble_eq_true rfl, Nat.le_of_ble_eq_true rfl⟩ (fun v hv H locs hP hS => ?_) (fun E hE => by cases hE)
    cases hv
    replace hP : va_P (gD G) vwCl (wld G lo σ) H := hP
    refine W.eq (g2 := F0 m 5 ls [.ref (gA G q1_)]) rfl ?_
    by_cases k1_ : kd q1_ = 2
    · rw [if_pos k1_] at hm
      refine lv_astore_n (lv' := [(3, .ref (gA G q1_)), (0, .ref (gA G 0)), (1, .int x1), (2, .int x2)]) hx hb dX3_join_5 rfl hl (by decide) rfl (fun ls hl => ?_)
      refine lv_aload_n hx hb dX3_join_6 rfl (lv_at hl 1 rfl) ?_
      refine lv_iload_n hx hb dX3_join_7 rfl (lv_at hl 3 rfl) ?_
      rcases qp_inv hm with ⟨q2_, h2, hm⟩ | ⟨E2, h2, hm⟩
      · refine xV F (c_X3_requireWave h2) tk_418 tk_415 tk_417 tu_21 tk_1 rfl 1 (by decide +kernel) rfl ⟨Nat.le_of_ble_eq_true rfl, Nat.le_of_ble_eq_true rfl⟩ hP hS (kd_k kdc_0 (by decide)) (wc3 kdc_0) rfl hl.1 rfl (Nat.le_of_ble_eq_true rfl) dX3_join_8 ⟨Nat.le_of_ble_eq_true rfl, Nat.le_of_ble_eq_true rfl⟩ (fun v hv H locs hP hS => ?_) (fun E hE => by cases hE)
        cases hv
        replace hP : va_P (gD G) vwCl (wld G lo σ) H := hP
        refine W.eq (g2 := F0 m 11 ls [.ref (gA G q2_)]) rfl ?_
        by_cases k2_ : kd q2_ = 2
        · rw [if_pos k2_] at hm
          refine lv_astore (lv' := [(4, .ref (gA G q2_)), (3, .ref (gA G q1_)), (0, .ref (gA G 0)), (1, .int x1), (2, .int x2)]) hx hb dX3_join_11 hl (by decide) rfl (fun ls hl => ?_)
          refine lv_aload_n hx hb dX3_join_13 rfl (lv_at hl 1 rfl) ?_
          rcases qv_inv hm with ⟨h3, hm⟩ | ⟨E3, h3, hm⟩
          · refine xSt F (c_X3_requirePlanned k1_ h3) tk_480 tk_478 tk_479 tk_1 rfl 1 (by decide +kernel) rfl ⟨Nat.le_of_ble_eq_true rfl, Nat.le_of_ble_eq_true rfl⟩ hP hS hl.1 rfl (Nat.le_of_ble_eq_true rfl) dX3_join_14 ⟨Nat.le_of_ble_eq_true rfl, Nat.le_of_ble_eq_true rfl⟩ (fun v hv H locs hP hS => ?_) (fun E hE => by cases hE)
            cases hv
            replace hP : va_P (gD G) vwCl (wld G lo σ) H := hP
            refine W.eq (g2 := F0 m 17 ls []) rfl ?_
            refine lv_aload hx hb dX3_join_17 (lv_at hl 0 rfl) ?_
            rcases qv_inv hm with ⟨h4, hm⟩ | ⟨E4, h4, hm⟩
            · refine xSt F (c_X3_requirePlanned k2_ h4) tk_480 tk_478 tk_479 tk_1 rfl 1 (by decide +kernel) rfl ⟨Nat.le_of_ble_eq_true rfl, Nat.le_of_ble_eq_true rfl⟩ hP hS hl.1 rfl (Nat.le_of_ble_eq_true rfl) dX3_join_19 ⟨Nat.le_of_ble_eq_true rfl, Nat.le_of_ble_eq_true rfl⟩ (fun v hv H locs hP hS => ?_) (fun E hE => by cases hE)
              cases hv
              replace hP : va_P (gD G) vwCl (wld G lo σ) H := hP
              refine W.eq (g2 := F0 m 22 ls []) rfl ?_
              refine lv_iload_n hx hb dX3_join_22 rfl (lv_at hl 3 rfl) ?_
              refine lv_iload_n hx hb dX3_join_23 rfl (lv_at hl 4 rfl) ?_
              refine lv_icmp_eq (tgt := 39) hx hb dX3_join_24 (by decide) (fun b5 => ?_) (fun b5 => ?_)
              · rw [if_pos b5] at hm
                exact xthr F hP hS (Option.some.inj hm).symm (by decide) (by decide) hl.1 (by decide +kernel) tk_305 tk_13 (List.mem_of_getElem? (i := 15) rfl) xt_91_1 xt_91_2 xt_91_87 dX3_join_39 dX3_join_42 dX3_join_43 dX3_join_45 dX3_join_48 (Nat.le_of_ble_eq_true rfl) (Nat.le_of_ble_eq_true rfl) (Nat.le_of_ble_eq_true rfl) (Nat.le_of_ble_eq_true rfl)
              · rw [if_neg b5] at hm
                refine lv_aload_n hx hb dX3_join_27 rfl (lv_at hl 1 rfl) ?_
                refine xgN F 2 inX2 hP (kd_k k1_ (by decide)) (wc2 k1_) rfl (by decide) tn_15 rfl rfl dX3_join_28 ?_
                refine lv_aload hx hb dX3_join_31 (lv_at hl 0 rfl) ?_
                refine xgN F 2 inX2 hP (kd_k k2_ (by decide)) (wc2 k2_) rfl (by decide) tn_15 rfl rfl dX3_join_33 ?_
                refine lv_icmp_eq (tgt := 49) hx hb dX3_join_36 (by decide) (fun b6 => ?_) (fun b6 => ?_)
                · rw [if_pos b6] at hm
                  refine lv_aload_n hx hb dX3_join_49 rfl (lv_at hl 2 rfl) ?_
                  refine xg F 7 inX3 hP (kd_k kdc_0 (by decide)) (wc3 kdc_0) rfl (by decide) tk_118 rfl rfl dX3_join_50 ?_
                  obtain ⟨σ7, h7, hm⟩ := nv_inv hm
                  refine xVN F (c_X2_empty kdc_90 h7) rfl tk_399 tn_32 tk_398 tu_20 tk_5 rfl 0 (by decide +kernel) rfl ⟨Nat.le_of_ble_eq_true rfl, Nat.le_of_ble_eq_true rfl⟩ hP hS (kd_k kdc_90 (by decide)) (wc2 kdc_90) rfl hl.1 rfl (Nat.le_of_ble_eq_true rfl) dX3_join_53 ⟨Nat.le_of_ble_eq_true rfl, Nat.le_of_ble_eq_true rfl⟩ (fun H locs hP hS => ?_)
                  replace hP : va_P (gD G) vwCl (wld G lo σ7) H := hP
                  refine W.eq (g2 := F0 m 56 ls []) rfl ?_
                  refine lv_aload_n hx hb dX3_join_56 rfl (lv_at hl 2 rfl) ?_
                  refine xg F 7 inX3 hP (kd_k kdc_0 (by decide)) (wc3 kdc_0) rfl (by decide) tk_118 rfl rfl dX3_join_57 ?_
                  refine lv_aload_n hx hb dX3_join_60 rfl (lv_at hl 1 rfl) ?_
                  obtain ⟨σ8, h8, hm⟩ := nv_inv hm
                  refine xVN F (c_X2_addAll kdc_90 k1_ h8) rfl tk_529 tn_34 tk_528 tu_33 tk_5 rfl 1 (by decide +kernel) rfl ⟨Nat.le_of_ble_eq_true rfl, Nat.le_of_ble_eq_true rfl⟩ hP hS (kd_k kdc_90 (by decide)) (wc2 kdc_90) rfl hl.1 rfl (Nat.le_of_ble_eq_true rfl) dX3_join_61 ⟨Nat.le_of_ble_eq_true rfl, Nat.le_of_ble_eq_true rfl⟩ (fun H locs hP hS => ?_)
                  replace hP : va_P (gD G) vwCl (wld G lo σ8) H := hP
                  refine W.eq (g2 := F0 m 64 ls []) rfl ?_
                  refine lv_aload_n hx hb dX3_join_64 rfl (lv_at hl 2 rfl) ?_
                  refine xg F 7 inX3 hP (kd_k kdc_0 (by decide)) (wc3 kdc_0) rfl (by decide) tk_118 rfl rfl dX3_join_65 ?_
                  refine lv_aload hx hb dX3_join_68 (lv_at hl 0 rfl) ?_
                  obtain ⟨σ9, h9, hm⟩ := nv_inv hm
                  refine xVN F (c_X2_addAll kdc_90 k2_ h9) rfl tk_529 tn_34 tk_528 tu_33 tk_5 rfl 1 (by decide +kernel) rfl ⟨Nat.le_of_ble_eq_true rfl, Nat.le_of_ble_eq_true rfl⟩ hP hS (kd_k kdc_90 (by decide)) (wc2 kdc_90) rfl hl.1 rfl (Nat.le_of_ble_eq_true rfl) dX3_join_70 ⟨Nat.le_of_ble_eq_true rfl, Nat.le_of_ble_eq_true rfl⟩ (fun H locs hP hS => ?_)
                  replace hP : va_P (gD G) vwCl (wld G lo σ9) H := hP
                  refine W.eq (g2 := F0 m 73 ls []) rfl ?_
                  refine lv_aload_n hx hb dX3_join_73 rfl (lv_at hl 2 rfl) ?_
                  refine lv_aload_n hx hb dX3_join_74 rfl (lv_at hl 2 rfl) ?_
                  refine xg F 7 inX3 hP (kd_k kdc_0 (by decide)) (wc3 kdc_0) rfl (by decide) tk_118 rfl rfl dX3_join_75 ?_
                  obtain ⟨x10_, h10, hm⟩ := ri_inv hm
                  refine xV F (c_X3_secondsOf kdc_90 h10) tk_423 tk_420 tk_422 tu_22 tk_1 rfl 1 (by decide +kernel) rfl ⟨Nat.le_of_ble_eq_true rfl, Nat.le_of_ble_eq_true rfl⟩ hP hS (kd_k kdc_0 (by decide)) (wc3 kdc_0) rfl hl.1 rfl (Nat.le_of_ble_eq_true rfl) dX3_join_78 ⟨Nat.le_of_ble_eq_true rfl, Nat.le_of_ble_eq_true rfl⟩ (fun v hv H locs hP hS => ?_) (fun E hE => by cases hE)
                  cases hv
                  replace hP : va_P (gD G) vwCl (wld G lo σ9) H := hP
                  refine W.eq (g2 := F0 m 81 ls [.int x10_]) rfl ?_
                  refine lv_istore (lv' := [(5, .int x10_), (4, .ref (gA G q2_)), (3, .ref (gA G q1_)), (0, .ref (gA G 0)), (1, .int x1), (2, .int x2)]) hx hb dX3_join_81 hl (by decide) rfl (fun ls hl => ?_)
                  refine lv_iload hx hb dX3_join_83 (lv_at hl 0 rfl) ?_
                  refine lv_aload_n hx hb dX3_join_85 rfl (lv_at hl 3 rfl) ?_
                  refine xg F 0 inX3 hP (kd_k kdc_0 (by decide)) (wc3 kdc_0) rfl (by decide) tk_111 rfl rfl dX3_join_86 ?_
                  refine lv_icmp_le (tgt := 102) hx hb dX3_join_89 (by decide) (fun b11 => ?_) (fun b11 => ?_)
                  · rw [if_pos b11] at hm
                    refine lv_iconst (v := 0) hx hb dX3_join_102 (by decide) ?_
                    refine lv_istore (lv' := [(6, .int 0), (5, .int x10_), (4, .ref (gA G q2_)), (3, .ref (gA G q1_)), (0, .ref (gA G 0)), (1, .int x1), (2, .int x2)]) hx hb dX3_join_103 hl (by decide) rfl (fun ls hl => ?_)
                    exact w_X3_join_105 F k1_ k2_ 40 hm hP hS (lv_sub hl [4, 5, 3, 2, 1, 0] rfl)
                  · rw [if_neg b11] at hm
                    exact xthr F hP hS (Option.some.inj hm).symm (by decide) (by decide) hl.1 (by decide +kernel) tk_305 tk_13 (List.mem_of_getElem? (i := 16) rfl) xt_91_1 xt_91_2 xt_91_87 dX3_join_92 dX3_join_95 dX3_join_96 dX3_join_98 dX3_join_101 (Nat.le_of_ble_eq_true rfl) (Nat.le_of_ble_eq_true rfl) (Nat.le_of_ble_eq_true rfl) (Nat.le_of_ble_eq_true rfl)
                · rw [if_neg b6] at hm
                  exact xthr F hP hS (Option.some.inj hm).symm (by decide) (by decide) hl.1 (by decide +kernel) tk_305 tk_13 (List.mem_of_getElem? (i := 15) rfl) xt_91_1 xt_91_2 xt_91_87 dX3_join_39 dX3_join_42 dX3_join_43 dX3_join_45 dX3_join_48 (Nat.le_of_ble_eq_true rfl) (Nat.le_of_ble_eq_true rfl) (Nat.le_of_ble_eq_true rfl) (Nat.le_of_ble_eq_true rfl)
            · refine xSt F (c_X3_requirePlanned k2_ h4) tk_480 tk_478 tk_479 tk_1 rfl 1 (by decide +kernel) rfl ⟨Nat.le_of_ble_eq_true rfl, Nat.le_of_ble_eq_true rfl⟩ hP hS hl.1 rfl (Nat.le_of_ble_eq_true rfl) dX3_join_19 ⟨Nat.le_of_ble_eq_true rfl, Nat.le_of_ble_eq_true rfl⟩ (fun v hv => by cases hv) (fun E hE H locs q9 ce hP hS e1 e2 e3 => ?_)
              cases hE
              exact xto F hP hS (Option.some.inj hm).symm (by decide) (by decide) e1 e2 e3
          · refine xSt F (c_X3_requirePlanned k1_ h3) tk_480 tk_478 tk_479 tk_1 rfl 1 (by decide +kernel) rfl ⟨Nat.le_of_ble_eq_true rfl, Nat.le_of_ble_eq_true rfl⟩ hP hS hl.1 rfl (Nat.le_of_ble_eq_true rfl) dX3_join_14 ⟨Nat.le_of_ble_eq_true rfl, Nat.le_of_ble_eq_true rfl⟩ (fun v hv => by cases hv) (fun E hE H locs q9 ce hP hS e1 e2 e3 => ?_)
            cases hE
            exact xto F hP hS (Option.some.inj hm).symm (by decide) (by decide) e1 e2 e3
        · rw [if_neg k2_] at hm
          cases hm
      · refine xV F (c_X3_requireWave h2) tk_418 tk_415 tk_417 tu_21 tk_1 rfl 1 (by decide +kernel) rfl ⟨Nat.le_of_ble_eq_true rfl, Nat.le_of_ble_eq_true rfl⟩ hP hS (kd_k kdc_0 (by decide)) (wc3 kdc_0) rfl hl.1 rfl (Nat.le_of_ble_eq_true rfl) dX3_join_8 ⟨Nat.le_of_ble_eq_true rfl, Nat.le_of_ble_eq_true rfl⟩ (fun v hv => by cases hv) (fun E hE H locs q9 ce hP hS e1 e2 e3 => ?_)
        cases hE
        exact xto F hP hS (Option.some.inj hm).symm (by decide) (by decide) e1 e2 e3
    · rw [if_neg k1_] at hm
      cases hm
  · refine xV F (c_X3_requireWave h1) tk_418 tk_415 tk_417 tu_21 tk_1 rfl 1 (by decide +kernel) rfl ⟨Nat.le_of_ble_eq_true rfl, Nat.le_of_ble_eq_true rfl⟩ hP hS (kd_k kdc_0 (by decide)) (wc3 kdc_0) rfl hl.1 rfl (Nat.le_of_ble_eq_true rfl) dX3_join_2 ⟨Nat.le_of_ble_eq_true rfl, Nat.le_of_ble_eq_true rfl⟩ (fun v hv => by cases hv) (fun E hE H locs q9 ce hP hS e1 e2 e3 => ?_)
    cases hE
    exact xto F hP hS (Option.some.inj hm).symm (by decide) (by decide) e1 e2 e3
/-! ===== X3_cutoff ===== -/
def f_X3_cutoff_18 (x1 : Int32) (x2 : Int32) : Nat → St → Int32 → Int32 → Option (RV × St)
  | 0, _, _, _ => none
  | n + 1, σ, x3, x4 =>
    if (σ 0 4) ≤ x4 then
      some (.inl (some (.inl x3)), σ)
    else
      if x4 < 0 ∨ 16 ≤ x4.toNatClampNeg then none
      else
        if (σ (26 + 2 * x4.toNatClampNeg) 3) = x1 then
          if x2 < (σ (26 + 2 * x4.toNatClampNeg) 0) then
            f_X3_cutoff_18 x1 x2 n σ x3 (x4 + 1)
          else
            if (σ (26 + 2 * x4.toNatClampNeg) 6) = (-1) then
              f_X3_cutoff_18 x1 x2 n σ x3 (x4 + 1)
            else
              ri (f_X3_isReleased σ (26 + 2 * x4.toNatClampNeg)) (fun x6_ =>
                if x6_ = 0 then
                  nv (f_X3_takeOut σ x4 (-1)) (fun σ8 =>
                    f_X3_cutoff_18 x1 x2 n σ8 (x3 + 1) (x4 + 1))
                else
                  f_X3_cutoff_18 x1 x2 n σ x3 (x4 + 1))
        else
          f_X3_cutoff_18 x1 x2 n σ x3 (x4 + 1)
set_option maxHeartbeats 4000000 in
set_option maxRecDepth 100000 in
theorem w_X3_cutoff_18 {p : Program} {l : Launch} {e : Env} {s : State} {m : MethodId} {args : Array Value} {below : List Frame} {meth : Method} {c : Code} {G : GT} {lo : Nat → Int64} (F : Fx p l s args m meth c G cX3_cutoff 6 (some .int) RX3) {x1 : Int32} {x2 : Int32} : ∀ (n : Nat) {σ : St} {x3 : Int32} {x4 : Int32} {r : RV × St}, f_X3_cutoff_18 x1 x2 n σ x3 x4 = some r → ∀ {H : Heap} {locs : List Loc}, va_P (gD G) vwCl (wld G lo σ) H → va_S (gF G) s.heap H locs → ∀ {ls : Array Slot}, lv_has ls 6 [(0, .ref (gA G 0)), (1, .int x1), (2, .int x2), (3, .int x3), (4, .int x4)] → W p l e (RM 7 112 2 12) s m args below meth c H locs 2 12 (vx_MQ below (QCr G lo r) (XCr G lo r) args s 2 12 (gF G)) (F0 m 18 ls []) := by
  obtain ⟨hx, hb, hrt, hml, hown, hts, hlocks, hC, htab, hst⟩ := id F
  intro n
  induction n with
  | zero =>
    intro σ x3 x4 r hm
    simp only [f_X3_cutoff_18] at hm
    cases hm
  | succ n ih =>
    intro σ x3 x4 r hm H locs hP hS ls hl
    rw [f_X3_cutoff_18] at hm
    refine lv_iload hx hb dX3_cutoff_18 (lv_at hl 4 rfl) ?_
    refine lv_aload_n hx hb dX3_cutoff_20 rfl (lv_at hl 0 rfl) ?_
    refine xg F 4 inX3 hP (kd_k kdc_0 (by decide)) (wc3 kdc_0) rfl (by decide) tk_115 rfl rfl dX3_cutoff_21 ?_
    refine lv_icmp_ge (tgt := 88) hx hb dX3_cutoff_24 (by decide) (fun b1 => ?_) (fun b1 => ?_)
    · rw [if_pos b1] at hm
      refine lv_iload_n hx hb dX3_cutoff_88 rfl (lv_at hl 3 rfl) ?_
      exact xir F hP hS (Option.some.inj hm).symm (by decide) (by decide) dX3_cutoff_89
    · rw [if_neg b1] at hm
      refine lv_aload_n hx hb dX3_cutoff_27 rfl (lv_at hl 0 rfl) ?_
      refine xg F 3 inX3 hP (kd_k kdc_0 (by decide)) (wc3 kdc_0) rfl (by decide) tk_114 rfl rfl dX3_cutoff_28 ?_
      refine lv_iload hx hb dX3_cutoff_31 (lv_at hl 4 rfl) ?_
      by_cases b2 : (x4 < 0 ∨ 16 ≤ x4.toNatClampNeg)
      · rw [if_pos b2] at hm
        cases hm
      · rw [if_neg b2] at hm
        refine xol F hP kdc_6 b2 dX3_cutoff_33 ?_
        refine lv_astore (lv' := [(5, .ref (gA G (26 + 2 * x4.toNatClampNeg))), (0, .ref (gA G 0)), (1, .int x1), (2, .int x2), (3, .int x3), (4, .int x4)]) hx hb dX3_cutoff_34 hl (by decide) rfl (fun ls hl => ?_)
        refine lv_aload hx hb dX3_cutoff_36 (lv_at hl 0 rfl) ?_
        refine xgN F 3 inX1 hP (kd_k (kd_ord b2) (by decide)) (wc1 (kd_ord b2)) rfl (by decide) tn_6 rfl rfl dX3_cutoff_38 ?_
        refine lv_iload_n hx hb dX3_cutoff_41 rfl (lv_at hl 2 rfl) ?_
        refine lv_icmp_ne (tgt := 82) hx hb dX3_cutoff_42 (by decide) (fun b3 => ?_) (fun b3 => ?_)
        · rw [if_neg b3] at hm
          refine lv_iinc (v := (x4 + 1)) (lv' := [(4, .int (x4 + 1)), (5, .ref (gA G (26 + 2 * x4.toNatClampNeg))), (0, .ref (gA G 0)), (1, .int x1), (2, .int x2), (3, .int x3)]) hx hb dX3_cutoff_82 hl (k := 5) rfl rfl (by decide) rfl (fun ls hl => ?_)
          refine lv_goto (tgt := 18) hx hb dX3_cutoff_85 (by decide) ?_
          exact ih hm hP hS (lv_sub hl [2, 3, 4, 5, 0] rfl)
        · rw [if_pos b3] at hm
          refine lv_aload hx hb dX3_cutoff_45 (lv_at hl 0 rfl) ?_
          refine xgN F 0 inX1 hP (kd_k (kd_ord b2) (by decide)) (wc1 (kd_ord b2)) rfl (by decide) tn_3 rfl rfl dX3_cutoff_47 ?_
          refine lv_iload_n hx hb dX3_cutoff_50 rfl (lv_at hl 3 rfl) ?_
          refine lv_icmp_gt (tgt := 82) hx hb dX3_cutoff_51 (by decide) (fun b4 => ?_) (fun b4 => ?_)
          · rw [if_pos b4] at hm
            refine lv_iinc (v := (x4 + 1)) (lv' := [(4, .int (x4 + 1)), (5, .ref (gA G (26 + 2 * x4.toNatClampNeg))), (0, .ref (gA G 0)), (1, .int x1), (2, .int x2), (3, .int x3)]) hx hb dX3_cutoff_82 hl (k := 5) rfl rfl (by decide) rfl (fun ls hl => ?_)
            refine lv_goto (tgt := 18) hx hb dX3_cutoff_85 (by decide) ?_
            exact ih hm hP hS (lv_sub hl [2, 3, 4, 5, 0] rfl)
          · rw [if_neg b4] at hm
            refine lv_aload hx hb dX3_cutoff_54 (lv_at hl 0 rfl) ?_
            refine xgN F 6 inX1 hP (kd_k (kd_ord b2) (by decide)) (wc1 (kd_ord b2)) rfl (by decide) tn_9 rfl rfl dX3_cutoff_56 ?_
            refine lv_iconst (v := (-1)) hx hb dX3_cutoff_59 (by decide) ?_
            refine lv_icmp_eq (tgt := 82) hx hb dX3_cutoff_60 (by decide) (fun b5 => ?_) (fun b5 => ?_)
            · rw [if_pos b5] at hm
              refine lv_iinc (v := (x4 + 1)) (lv' := [(4, .int (x4 + 1)), (5, .ref (gA G (26 + 2 * x4.toNatClampNeg))), (0, .ref (gA G 0)), (1, .int x1), (2, .int x2), (3, .int x3)]) hx hb dX3_cutoff_82 hl (k := 5) rfl rfl (by decide) rfl (fun ls hl => ?_)
              refine lv_goto (tgt := 18) hx hb dX3_cutoff_85 (by decide) ?_
              exact ih hm hP hS (lv_sub hl [2, 3, 4, 5, 0] rfl)
            · rw [if_neg b5] at hm
              refine lv_aload_n hx hb dX3_cutoff_63 rfl (lv_at hl 1 rfl) ?_
              refine lv_aload hx hb dX3_cutoff_64 (lv_at hl 0 rfl) ?_
              obtain ⟨x6_, h6, hm⟩ := ri_inv hm
              refine xV F (c_X3_isReleased (kd_ord b2) h6) tk_496 tk_493 tk_495 tu_29 tk_1 rfl 1 (by decide +kernel) rfl ⟨Nat.le_of_ble_eq_true rfl, Nat.le_of_ble_eq_true rfl⟩ hP hS (kd_k kdc_0 (by decide)) (wc3 kdc_0) rfl hl.1 rfl (Nat.le_of_ble_eq_true rfl) dX3_cutoff_66 ⟨Nat.le_of_ble_eq_true rfl, Nat.le_of_ble_eq_true rfl⟩ (fun v hv H locs hP hS => ?_) (fun E hE => by cases hE)
              cases hv
              replace hP : va_P (gD G) vwCl (wld G lo σ) H := hP
              refine W.eq (g2 := F0 m 69 ls [.int x6_]) rfl ?_
              refine lv_if_ne (tgt := 82) hx hb dX3_cutoff_69 (by decide) (fun b7 => ?_) (fun b7 => ?_)
              · rw [if_neg b7] at hm
                refine lv_iinc (v := (x4 + 1)) (lv' := [(4, .int (x4 + 1)), (5, .ref (gA G (26 + 2 * x4.toNatClampNeg))), (0, .ref (gA G 0)), (1, .int x1), (2, .int x2), (3, .int x3)]) hx hb dX3_cutoff_82 hl (k := 5) rfl rfl (by decide) rfl (fun ls hl => ?_)
                refine lv_goto (tgt := 18) hx hb dX3_cutoff_85 (by decide) ?_
                exact ih hm hP hS (lv_sub hl [2, 3, 4, 5, 0] rfl)
              · rw [if_pos b7] at hm
                refine lv_aload_n hx hb dX3_cutoff_72 rfl (lv_at hl 1 rfl) ?_
                refine lv_iload hx hb dX3_cutoff_73 (lv_at hl 5 rfl) ?_
                refine lv_iconst (v := (-1)) hx hb dX3_cutoff_75 (by decide) ?_
                obtain ⟨σ8, h8, hm⟩ := nv_inv hm
                refine xV F (c_X3_takeOut h8) tk_513 tk_510 tk_512 tu_31 tk_1 rfl 2 (by decide +kernel) rfl ⟨Nat.le_of_ble_eq_true rfl, Nat.le_of_ble_eq_true rfl⟩ hP hS (kd_k kdc_0 (by decide)) (wc3 kdc_0) rfl hl.1 rfl (Nat.le_of_ble_eq_true rfl) dX3_cutoff_76 ⟨Nat.le_of_ble_eq_true rfl, Nat.le_of_ble_eq_true rfl⟩ (fun v hv H locs hP hS => ?_) (fun E hE => by cases hE)
                cases hv
                replace hP : va_P (gD G) vwCl (wld G lo σ8) H := hP
                refine W.eq (g2 := F0 m 79 ls []) rfl ?_
                refine lv_iinc (v := (x3 + 1)) (lv' := [(3, .int (x3 + 1)), (5, .ref (gA G (26 + 2 * x4.toNatClampNeg))), (0, .ref (gA G 0)), (1, .int x1), (2, .int x2), (4, .int x4)]) hx hb dX3_cutoff_79 hl (k := 4) rfl rfl (by decide) rfl (fun ls hl => ?_)
                refine lv_iinc (v := (x4 + 1)) (lv' := [(4, .int (x4 + 1)), (3, .int (x3 + 1)), (5, .ref (gA G (26 + 2 * x4.toNatClampNeg))), (0, .ref (gA G 0)), (1, .int x1), (2, .int x2)]) hx hb dX3_cutoff_82 hl (k := 5) rfl rfl (by decide) rfl (fun ls hl => ?_)
                refine lv_goto (tgt := 18) hx hb dX3_cutoff_85 (by decide) ?_
                exact ih hm hP hS (lv_sub hl [3, 4, 5, 1, 0] rfl)
def f_X3_cutoff (σ : St) (x1 : Int32) (x2 : Int32) : Option (RV × St) :=
  qv (f_X3_requireRange σ x1 0 3) (fun E => some (.inr E, σ)) (
    qv (f_X3_requireRange σ x2 0 100000) (fun E => some (.inr E, σ)) (
      f_X3_cutoff_18 x1 x2 40 σ 0 0))
set_option maxHeartbeats 4000000 in
set_option maxRecDepth 100000 in
theorem c_X3_cutoff {l : Launch} {G : GT} {σ : St} {x1 : Int32} {x2 : Int32} {r : RV × St} (hm : f_X3_cutoff σ x1 x2 = some r) : MC l G yX3_cutoff cX3_cutoff 6 (some .int) 7 112 2 12 [.inr 0, .inl x1, .inl x2] σ r := by
  refine xbody (by decide) (Nat.le_of_ble_eq_true rfl) ?_
  intro lo p e s m args below meth c F hP ls hl
  have F : Fx p l s args m meth c G cX3_cutoff 6 (some .int) RX3 := F
  obtain ⟨hx, hb, hrt, hml, hown, hts, hlocks, hC, htab, hst⟩ := id F
  have hS : va_S (gF G) s.heap s.heap [] := va_S.rf
  have hl : lv_has ls 6 [(0, .ref (gA G 0)), (1, .int x1), (2, .int x2)] := hl
  unfold f_X3_cutoff at hm
  refine lv_iload_n hx hb dX3_cutoff_0 rfl (lv_at hl 1 rfl) ?_
  refine lv_iconst (v := 0) hx hb dX3_cutoff_1 (by decide) ?_
  refine lv_iconst (v := 3) hx hb dX3_cutoff_2 (by decide) ?_
  rcases qv_inv hm with ⟨h1, hm⟩ | ⟨E1, h1, hm⟩
  · refine xSt F (c_X3_requireRange h1) tk_187 tk_185 tk_186 tk_1 rfl 3 (by decide +kernel) rfl ⟨Nat.le_of_ble_eq_true rfl, Nat.le_of_ble_eq_true rfl⟩ hP hS hl.1 rfl (Nat.le_of_ble_eq_true rfl) dX3_cutoff_3 ⟨Nat.le_of_ble_eq_true rfl, Nat.le_of_ble_eq_true rfl⟩ (fun v hv H locs hP hS => ?_) (fun E hE => by cases hE)
    cases hv
    replace hP : va_P (gD G) vwCl (wld G lo σ) H := hP
    refine W.eq (g2 := F0 m 6 ls []) rfl ?_
    refine lv_iload_n hx hb dX3_cutoff_6 rfl (lv_at hl 2 rfl) ?_
    refine lv_iconst (v := 0) hx hb dX3_cutoff_7 (by decide) ?_
    refine lv_ldc (v := 100000) hx hb hown (hts _ tk_184) dX3_cutoff_8 ?_
    rcases qv_inv hm with ⟨h2, hm⟩ | ⟨E2, h2, hm⟩
    · refine xSt F (c_X3_requireRange h2) tk_187 tk_185 tk_186 tk_1 rfl 3 (by decide +kernel) rfl ⟨Nat.le_of_ble_eq_true rfl, Nat.le_of_ble_eq_true rfl⟩ hP hS hl.1 rfl (Nat.le_of_ble_eq_true rfl) dX3_cutoff_10 ⟨Nat.le_of_ble_eq_true rfl, Nat.le_of_ble_eq_true rfl⟩ (fun v hv H locs hP hS => ?_) (fun E hE => by cases hE)
      cases hv
      replace hP : va_P (gD G) vwCl (wld G lo σ) H := hP
      refine W.eq (g2 := F0 m 13 ls []) rfl ?_
      refine lv_iconst (v := 0) hx hb dX3_cutoff_13 (by decide) ?_
      refine lv_istore_n (lv' := [(3, .int 0), (0, .ref (gA G 0)), (1, .int x1), (2, .int x2)]) hx hb dX3_cutoff_14 rfl hl (by decide) rfl (fun ls hl => ?_)
      refine lv_iconst (v := 0) hx hb dX3_cutoff_15 (by decide) ?_
      refine lv_istore (lv' := [(4, .int 0), (3, .int 0), (0, .ref (gA G 0)), (1, .int x1), (2, .int x2)]) hx hb dX3_cutoff_16 hl (by decide) rfl (fun ls hl => ?_)
      exact w_X3_cutoff_18 F 40 hm hP hS (lv_sub hl [2, 3, 4, 1, 0] rfl)
    · refine xSt F (c_X3_requireRange h2) tk_187 tk_185 tk_186 tk_1 rfl 3 (by decide +kernel) rfl ⟨Nat.le_of_ble_eq_true rfl, Nat.le_of_ble_eq_true rfl⟩ hP hS hl.1 rfl (Nat.le_of_ble_eq_true rfl) dX3_cutoff_10 ⟨Nat.le_of_ble_eq_true rfl, Nat.le_of_ble_eq_true rfl⟩ (fun v hv => by cases hv) (fun E hE H locs q9 ce hP hS e1 e2 e3 => ?_)
      cases hE
      exact xto F hP hS (Option.some.inj hm).symm (by decide) (by decide) e1 e2 e3
  · refine xSt F (c_X3_requireRange h1) tk_187 tk_185 tk_186 tk_1 rfl 3 (by decide +kernel) rfl ⟨Nat.le_of_ble_eq_true rfl, Nat.le_of_ble_eq_true rfl⟩ hP hS hl.1 rfl (Nat.le_of_ble_eq_true rfl) dX3_cutoff_3 ⟨Nat.le_of_ble_eq_true rfl, Nat.le_of_ble_eq_true rfl⟩ (fun v hv => by cases hv) (fun E hE H locs q9 ce hP hS e1 e2 e3 => ?_)
    cases hE
    exact xto F hP hS (Option.some.inj hm).symm (by decide) (by decide) e1 e2 e3
/-! ===== X3_late ===== -/
def f_X3_late_8 (σ : St) (x1 : Int32) : Nat → Int32 → Int32 → Option RV
  | 0, _, _ => none
  | n + 1, x2, x3 =>
    if (σ 0 4) ≤ x3 then
      some (.inl (some (.inl (-1))))
    else
      if x3 < 0 ∨ 16 ≤ x3.toNatClampNeg then none
      else
        if (σ (26 + 2 * x3.toNatClampNeg) 6) = (-1) then
          if x2 = x1 then
            some (.inl (some (.inl x3)))
          else
            f_X3_late_8 σ x1 n (x2 + 1) (x3 + 1)
        else
          f_X3_late_8 σ x1 n x2 (x3 + 1)
set_option maxHeartbeats 4000000 in
set_option maxRecDepth 100000 in
theorem w_X3_late_8 {p : Program} {l : Launch} {e : Env} {s : State} {m : MethodId} {args : Array Value} {below : List Frame} {meth : Method} {c : Code} {G : GT} {lo : Nat → Int64} (F : Fx p l s args m meth c G cX3_late 4 (some .int) RX3) {σ : St} {x1 : Int32} : ∀ (n : Nat) {x2 : Int32} {x3 : Int32} {r : RV}, f_X3_late_8 σ x1 n x2 x3 = some r → ∀ {H : Heap} {locs : List Loc}, va_P (gD G) vwCl (wld G lo σ) H → va_S (gF G) s.heap H locs → ∀ {ls : Array Slot}, lv_has ls 4 [(0, .ref (gA G 0)), (1, .int x1), (2, .int x2), (3, .int x3)] → W p l e (RM 7 110 1 6) s m args below meth c H locs 1 6 (vx_MQ below (QCr G lo (r, σ)) (XCr G lo (r, σ)) args s 1 6 (gF G)) (F0 m 8 ls []) := by
  obtain ⟨hx, hb, hrt, hml, hown, hts, hlocks, hC, htab, hst⟩ := id F
  intro n
  induction n with
  | zero =>
    intro x2 x3 r hm
    simp only [f_X3_late_8] at hm
    cases hm
  | succ n ih =>
    intro x2 x3 r hm H locs hP hS ls hl
    rw [f_X3_late_8] at hm
    refine lv_iload_n hx hb dX3_late_8 rfl (lv_at hl 3 rfl) ?_
    refine lv_aload_n hx hb dX3_late_9 rfl (lv_at hl 0 rfl) ?_
    refine xg F 4 inX3 hP (kd_k kdc_0 (by decide)) (wc3 kdc_0) rfl (by decide) tk_115 rfl rfl dX3_late_10 ?_
    refine lv_icmp_ge (tgt := 48) hx hb dX3_late_13 (by decide) (fun b1 => ?_) (fun b1 => ?_)
    · rw [if_pos b1] at hm
      refine lv_iconst (v := (-1)) hx hb dX3_late_48 (by decide) ?_
      exact xir F hP hS (congrArg (fun z => (z, σ)) (Option.some.inj hm).symm) (by decide) (by decide) dX3_late_49
    · rw [if_neg b1] at hm
      refine lv_aload_n hx hb dX3_late_16 rfl (lv_at hl 0 rfl) ?_
      refine xg F 3 inX3 hP (kd_k kdc_0 (by decide)) (wc3 kdc_0) rfl (by decide) tk_114 rfl rfl dX3_late_17 ?_
      refine lv_iload_n hx hb dX3_late_20 rfl (lv_at hl 3 rfl) ?_
      by_cases b2 : (x3 < 0 ∨ 16 ≤ x3.toNatClampNeg)
      · rw [if_pos b2] at hm
        cases hm
      · rw [if_neg b2] at hm
        refine xol F hP kdc_6 b2 dX3_late_21 ?_
        refine xgN F 6 inX1 hP (kd_k (kd_ord b2) (by decide)) (wc1 (kd_ord b2)) rfl (by decide) tn_9 rfl rfl dX3_late_22 ?_
        refine lv_iconst (v := (-1)) hx hb dX3_late_25 (by decide) ?_
        refine lv_icmp_eq (tgt := 32) hx hb dX3_late_26 (by decide) (fun b3 => ?_) (fun b3 => ?_)
        · rw [if_pos b3] at hm
          refine lv_iload_n hx hb dX3_late_32 rfl (lv_at hl 2 rfl) ?_
          refine lv_iload_n hx hb dX3_late_33 rfl (lv_at hl 1 rfl) ?_
          refine lv_icmp_ne (tgt := 39) hx hb dX3_late_34 (by decide) (fun b4 => ?_) (fun b4 => ?_)
          · rw [if_neg b4] at hm
            refine lv_iinc (v := (x2 + 1)) (lv' := [(2, .int (x2 + 1)), (0, .ref (gA G 0)), (1, .int x1), (3, .int x3)]) hx hb dX3_late_39 hl (k := 2) rfl rfl (by decide) rfl (fun ls hl => ?_)
            refine lv_iinc (v := (x3 + 1)) (lv' := [(3, .int (x3 + 1)), (2, .int (x2 + 1)), (0, .ref (gA G 0)), (1, .int x1)]) hx hb dX3_late_42 hl (k := 3) rfl rfl (by decide) rfl (fun ls hl => ?_)
            refine lv_goto (tgt := 8) hx hb dX3_late_45 (by decide) ?_
            exact ih hm hP hS (lv_sub hl [2, 3, 1, 0] rfl)
          · rw [if_pos b4] at hm
            refine lv_iload_n hx hb dX3_late_37 rfl (lv_at hl 3 rfl) ?_
            exact xir F hP hS (congrArg (fun z => (z, σ)) (Option.some.inj hm).symm) (by decide) (by decide) dX3_late_38
        · rw [if_neg b3] at hm
          refine lv_goto (tgt := 42) hx hb dX3_late_29 (by decide) ?_
          refine lv_iinc (v := (x3 + 1)) (lv' := [(3, .int (x3 + 1)), (0, .ref (gA G 0)), (1, .int x1), (2, .int x2)]) hx hb dX3_late_42 hl (k := 3) rfl rfl (by decide) rfl (fun ls hl => ?_)
          refine lv_goto (tgt := 8) hx hb dX3_late_45 (by decide) ?_
          exact ih hm hP hS (lv_sub hl [1, 2, 3, 0] rfl)
def f_X3_late (σ : St) (x1 : Int32) : Option RV :=
  qv (f_X3_requireNotNegative σ x1) (fun E => some (.inr E)) (
    f_X3_late_8 σ x1 40 0 0)
set_option maxHeartbeats 4000000 in
set_option maxRecDepth 100000 in
theorem c_X3_late {l : Launch} {G : GT} {σ : St} {x1 : Int32} {r : RV} (hm : f_X3_late σ x1 = some r) : MC l G yX3_late cX3_late 4 (some .int) 7 110 1 6 [.inr 0, .inl x1] σ (r, σ) := by
  refine xbody (by decide) (Nat.le_of_ble_eq_true rfl) ?_
  intro lo p e s m args below meth c F hP ls hl
  have F : Fx p l s args m meth c G cX3_late 4 (some .int) RX3 := F
  obtain ⟨hx, hb, hrt, hml, hown, hts, hlocks, hC, htab, hst⟩ := id F
  have hS : va_S (gF G) s.heap s.heap [] := va_S.rf
  have hl : lv_has ls 4 [(0, .ref (gA G 0)), (1, .int x1)] := hl
  unfold f_X3_late at hm
  refine lv_iload_n hx hb dX3_late_0 rfl (lv_at hl 1 rfl) ?_
  rcases qv_inv hm with ⟨h1, hm⟩ | ⟨E1, h1, hm⟩
  · refine xSt F (c_X3_requireNotNegative h1) tk_450 tk_448 tk_449 tk_1 rfl 1 (by decide +kernel) rfl ⟨Nat.le_of_ble_eq_true rfl, Nat.le_of_ble_eq_true rfl⟩ hP hS hl.1 rfl (Nat.le_of_ble_eq_true rfl) dX3_late_1 ⟨Nat.le_of_ble_eq_true rfl, Nat.le_of_ble_eq_true rfl⟩ (fun v hv H locs hP hS => ?_) (fun E hE => by cases hE)
    cases hv
    replace hP : va_P (gD G) vwCl (wld G lo σ) H := hP
    refine W.eq (g2 := F0 m 4 ls []) rfl ?_
    refine lv_iconst (v := 0) hx hb dX3_late_4 (by decide) ?_
    refine lv_istore_n (lv' := [(2, .int 0), (0, .ref (gA G 0)), (1, .int x1)]) hx hb dX3_late_5 rfl hl (by decide) rfl (fun ls hl => ?_)
    refine lv_iconst (v := 0) hx hb dX3_late_6 (by decide) ?_
    refine lv_istore_n (lv' := [(3, .int 0), (2, .int 0), (0, .ref (gA G 0)), (1, .int x1)]) hx hb dX3_late_7 rfl hl (by decide) rfl (fun ls hl => ?_)
    exact w_X3_late_8 F 40 hm hP hS (lv_sub hl [2, 3, 1, 0] rfl)
  · refine xSt F (c_X3_requireNotNegative h1) tk_450 tk_448 tk_449 tk_1 rfl 1 (by decide +kernel) rfl ⟨Nat.le_of_ble_eq_true rfl, Nat.le_of_ble_eq_true rfl⟩ hP hS hl.1 rfl (Nat.le_of_ble_eq_true rfl) dX3_late_1 ⟨Nat.le_of_ble_eq_true rfl, Nat.le_of_ble_eq_true rfl⟩ (fun v hv => by cases hv) (fun E hE H locs q9 ce hP hS e1 e2 e3 => ?_)
    cases hE
    exact xto F hP hS (congrArg (fun z => (z, σ)) (Option.some.inj hm).symm) (by decide) (by decide) e1 e2 e3
/-! ===== X3_wavesWithOrders ===== -/
def f_X3_wavesWithOrders_4 (σ : St) : Nat → Int32 → Int32 → Option RV
  | 0, _, _ => none
  | n + 1, x1, x2 =>
    if (σ 0 6) ≤ x2 then
      some (.inl (some (.inl x1)))
    else
      if x2 < 0 ∨ 16 ≤ x2.toNatClampNeg then none
      else
        if (σ (58 + 2 * x2.toNatClampNeg) 1) ≤ 0 then
          f_X3_wavesWithOrders_4 σ n x1 (x2 + 1)
        else
          f_X3_wavesWithOrders_4 σ n (x1 + 1) (x2 + 1)
set_option maxHeartbeats 4000000 in
set_option maxRecDepth 100000 in
theorem w_X3_wavesWithOrders_4 {p : Program} {l : Launch} {e : Env} {s : State} {m : MethodId} {args : Array Value} {below : List Frame} {meth : Method} {c : Code} {G : GT} {lo : Nat → Int64} (F : Fx p l s args m meth c G cX3_wavesWithOrders 3 (some .int) RX3) {σ : St} : ∀ (n : Nat) {x1 : Int32} {x2 : Int32} {r : RV}, f_X3_wavesWithOrders_4 σ n x1 x2 = some r → ∀ {H : Heap} {locs : List Loc}, va_P (gD G) vwCl (wld G lo σ) H → va_S (gF G) s.heap H locs → ∀ {ls : Array Slot}, lv_has ls 3 [(0, .ref (gA G 0)), (1, .int x1), (2, .int x2)] → W p l e (RM 0 0 0 0) s m args below meth c H locs 0 0 (vx_MQ below (QCr G lo (r, σ)) (XCr G lo (r, σ)) args s 0 0 (gF G)) (F0 m 4 ls []) := by
  obtain ⟨hx, hb, hrt, hml, hown, hts, hlocks, hC, htab, hst⟩ := id F
  intro n
  induction n with
  | zero =>
    intro x1 x2 r hm
    simp only [f_X3_wavesWithOrders_4] at hm
    cases hm
  | succ n ih =>
    intro x1 x2 r hm H locs hP hS ls hl
    rw [f_X3_wavesWithOrders_4] at hm
    refine lv_iload_n hx hb dX3_wavesWithOrders_4 rfl (lv_at hl 2 rfl) ?_
    refine lv_aload_n hx hb dX3_wavesWithOrders_5 rfl (lv_at hl 0 rfl) ?_
    refine xg F 6 inX3 hP (kd_k kdc_0 (by decide)) (wc3 kdc_0) rfl (by decide) tk_117 rfl rfl dX3_wavesWithOrders_6 ?_
    refine lv_icmp_ge (tgt := 33) hx hb dX3_wavesWithOrders_9 (by decide) (fun b1 => ?_) (fun b1 => ?_)
    · rw [if_pos b1] at hm
      refine lv_iload_n hx hb dX3_wavesWithOrders_33 rfl (lv_at hl 1 rfl) ?_
      exact xir F hP hS (congrArg (fun z => (z, σ)) (Option.some.inj hm).symm) (by decide) (by decide) dX3_wavesWithOrders_34
    · rw [if_neg b1] at hm
      refine lv_aload_n hx hb dX3_wavesWithOrders_12 rfl (lv_at hl 0 rfl) ?_
      refine xg F 5 inX3 hP (kd_k kdc_0 (by decide)) (wc3 kdc_0) rfl (by decide) tk_116 rfl rfl dX3_wavesWithOrders_13 ?_
      refine lv_iload_n hx hb dX3_wavesWithOrders_16 rfl (lv_at hl 2 rfl) ?_
      by_cases b2 : (x2 < 0 ∨ 16 ≤ x2.toNatClampNeg)
      · rw [if_pos b2] at hm
        cases hm
      · rw [if_neg b2] at hm
        refine xwl F hP kdc_7 b2 dX3_wavesWithOrders_17 ?_
        refine xgN F 1 inX2 hP (kd_k (kd_wav b2) (by decide)) (wc2 (kd_wav b2)) rfl (by decide) tn_14 rfl rfl dX3_wavesWithOrders_18 ?_
        refine lv_if_le (tgt := 27) hx hb dX3_wavesWithOrders_21 (by decide) (fun b3 => ?_) (fun b3 => ?_)
        · rw [if_pos b3] at hm
          refine lv_iinc (v := (x2 + 1)) (lv' := [(2, .int (x2 + 1)), (0, .ref (gA G 0)), (1, .int x1)]) hx hb dX3_wavesWithOrders_27 hl (k := 2) rfl rfl (by decide) rfl (fun ls hl => ?_)
          refine lv_goto (tgt := 4) hx hb dX3_wavesWithOrders_30 (by decide) ?_
          exact ih hm hP hS (lv_sub hl [1, 2, 0] rfl)
        · rw [if_neg b3] at hm
          refine lv_iinc (v := (x1 + 1)) (lv' := [(1, .int (x1 + 1)), (0, .ref (gA G 0)), (2, .int x2)]) hx hb dX3_wavesWithOrders_24 hl (k := 1) rfl rfl (by decide) rfl (fun ls hl => ?_)
          refine lv_iinc (v := (x2 + 1)) (lv' := [(2, .int (x2 + 1)), (1, .int (x1 + 1)), (0, .ref (gA G 0))]) hx hb dX3_wavesWithOrders_27 hl (k := 2) rfl rfl (by decide) rfl (fun ls hl => ?_)
          refine lv_goto (tgt := 4) hx hb dX3_wavesWithOrders_30 (by decide) ?_
          exact ih hm hP hS (lv_sub hl [2, 1, 0] rfl)
def f_X3_wavesWithOrders (σ : St) : Option RV :=
  f_X3_wavesWithOrders_4 σ 40 0 0
set_option maxHeartbeats 4000000 in
set_option maxRecDepth 100000 in
theorem c_X3_wavesWithOrders {l : Launch} {G : GT} {σ : St} {r : RV} (hm : f_X3_wavesWithOrders σ = some r) : MC l G yX3_wavesWithOrders cX3_wavesWithOrders 3 (some .int) 0 0 0 0 [.inr 0] σ (r, σ) := by
  refine xbody (by decide) (Nat.le_of_ble_eq_true rfl) ?_
  intro lo p e s m args below meth c F hP ls hl
  have F : Fx p l s args m meth c G cX3_wavesWithOrders 3 (some .int) RX3 := F
  obtain ⟨hx, hb, hrt, hml, hown, hts, hlocks, hC, htab, hst⟩ := id F
  have hS : va_S (gF G) s.heap s.heap [] := va_S.rf
  have hl : lv_has ls 3 [(0, .ref (gA G 0))] := hl
  unfold f_X3_wavesWithOrders at hm
  refine lv_iconst (v := 0) hx hb dX3_wavesWithOrders_0 (by decide) ?_
  refine lv_istore_n (lv' := [(1, .int 0), (0, .ref (gA G 0))]) hx hb dX3_wavesWithOrders_1 rfl hl (by decide) rfl (fun ls hl => ?_)
  refine lv_iconst (v := 0) hx hb dX3_wavesWithOrders_2 (by decide) ?_
  refine lv_istore_n (lv' := [(2, .int 0), (1, .int 0), (0, .ref (gA G 0))]) hx hb dX3_wavesWithOrders_3 rfl hl (by decide) rfl (fun ls hl => ?_)
  exact w_X3_wavesWithOrders_4 F 40 hm hP hS (lv_sub hl [2, 1, 0] rfl)
/-! ===== X3_ordersAt ===== -/
def f_X3_ordersAt_4 (σ : St) (x1 : Int32) : Nat → Int32 → Int32 → Option RV
  | 0, _, _ => none
  | n + 1, x2, x3 =>
    if (σ 0 4) ≤ x3 then
      some (.inl (some (.inl x2)))
    else
      if x3 < 0 ∨ 16 ≤ x3.toNatClampNeg then none
      else
        if (σ (26 + 2 * x3.toNatClampNeg) 6) = x1 then
          f_X3_ordersAt_4 σ x1 n (x2 + 1) (x3 + 1)
        else
          f_X3_ordersAt_4 σ x1 n x2 (x3 + 1)
set_option maxHeartbeats 4000000 in
set_option maxRecDepth 100000 in
theorem w_X3_ordersAt_4 {p : Program} {l : Launch} {e : Env} {s : State} {m : MethodId} {args : Array Value} {below : List Frame} {meth : Method} {c : Code} {G : GT} {lo : Nat → Int64} (F : Fx p l s args m meth c G cX3_ordersAt 4 (some .int) RX3) {σ : St} {x1 : Int32} : ∀ (n : Nat) {x2 : Int32} {x3 : Int32} {r : RV}, f_X3_ordersAt_4 σ x1 n x2 x3 = some r → ∀ {H : Heap} {locs : List Loc}, va_P (gD G) vwCl (wld G lo σ) H → va_S (gF G) s.heap H locs → ∀ {ls : Array Slot}, lv_has ls 4 [(0, .ref (gA G 0)), (1, .int x1), (2, .int x2), (3, .int x3)] → W p l e (RM 0 0 0 0) s m args below meth c H locs 0 0 (vx_MQ below (QCr G lo (r, σ)) (XCr G lo (r, σ)) args s 0 0 (gF G)) (F0 m 4 ls []) := by
  obtain ⟨hx, hb, hrt, hml, hown, hts, hlocks, hC, htab, hst⟩ := id F
  intro n
  induction n with
  | zero =>
    intro x2 x3 r hm
    simp only [f_X3_ordersAt_4] at hm
    cases hm
  | succ n ih =>
    intro x2 x3 r hm H locs hP hS ls hl
    rw [f_X3_ordersAt_4] at hm
    refine lv_iload_n hx hb dX3_ordersAt_4 rfl (lv_at hl 3 rfl) ?_
    refine lv_aload_n hx hb dX3_ordersAt_5 rfl (lv_at hl 0 rfl) ?_
    refine xg F 4 inX3 hP (kd_k kdc_0 (by decide)) (wc3 kdc_0) rfl (by decide) tk_115 rfl rfl dX3_ordersAt_6 ?_
    refine lv_icmp_ge (tgt := 34) hx hb dX3_ordersAt_9 (by decide) (fun b1 => ?_) (fun b1 => ?_)
    · rw [if_pos b1] at hm
      refine lv_iload_n hx hb dX3_ordersAt_34 rfl (lv_at hl 2 rfl) ?_
      exact xir F hP hS (congrArg (fun z => (z, σ)) (Option.some.inj hm).symm) (by decide) (by decide) dX3_ordersAt_35
    · rw [if_neg b1] at hm
      refine lv_aload_n hx hb dX3_ordersAt_12 rfl (lv_at hl 0 rfl) ?_
      refine xg F 3 inX3 hP (kd_k kdc_0 (by decide)) (wc3 kdc_0) rfl (by decide) tk_114 rfl rfl dX3_ordersAt_13 ?_
      refine lv_iload_n hx hb dX3_ordersAt_16 rfl (lv_at hl 3 rfl) ?_
      by_cases b2 : (x3 < 0 ∨ 16 ≤ x3.toNatClampNeg)
      · rw [if_pos b2] at hm
        cases hm
      · rw [if_neg b2] at hm
        refine xol F hP kdc_6 b2 dX3_ordersAt_17 ?_
        refine xgN F 6 inX1 hP (kd_k (kd_ord b2) (by decide)) (wc1 (kd_ord b2)) rfl (by decide) tn_9 rfl rfl dX3_ordersAt_18 ?_
        refine lv_iload_n hx hb dX3_ordersAt_21 rfl (lv_at hl 1 rfl) ?_
        refine lv_icmp_ne (tgt := 28) hx hb dX3_ordersAt_22 (by decide) (fun b3 => ?_) (fun b3 => ?_)
        · rw [if_neg b3] at hm
          refine lv_iinc (v := (x3 + 1)) (lv' := [(3, .int (x3 + 1)), (0, .ref (gA G 0)), (1, .int x1), (2, .int x2)]) hx hb dX3_ordersAt_28 hl (k := 3) rfl rfl (by decide) rfl (fun ls hl => ?_)
          refine lv_goto (tgt := 4) hx hb dX3_ordersAt_31 (by decide) ?_
          exact ih hm hP hS (lv_sub hl [1, 2, 3, 0] rfl)
        · rw [if_pos b3] at hm
          refine lv_iinc (v := (x2 + 1)) (lv' := [(2, .int (x2 + 1)), (0, .ref (gA G 0)), (1, .int x1), (3, .int x3)]) hx hb dX3_ordersAt_25 hl (k := 2) rfl rfl (by decide) rfl (fun ls hl => ?_)
          refine lv_iinc (v := (x3 + 1)) (lv' := [(3, .int (x3 + 1)), (2, .int (x2 + 1)), (0, .ref (gA G 0)), (1, .int x1)]) hx hb dX3_ordersAt_28 hl (k := 3) rfl rfl (by decide) rfl (fun ls hl => ?_)
          refine lv_goto (tgt := 4) hx hb dX3_ordersAt_31 (by decide) ?_
          exact ih hm hP hS (lv_sub hl [2, 3, 1, 0] rfl)
def f_X3_ordersAt (σ : St) (x1 : Int32) : Option RV :=
  f_X3_ordersAt_4 σ x1 40 0 0
set_option maxHeartbeats 4000000 in
set_option maxRecDepth 100000 in
theorem c_X3_ordersAt {l : Launch} {G : GT} {σ : St} {x1 : Int32} {r : RV} (hm : f_X3_ordersAt σ x1 = some r) : MC l G yX3_ordersAt cX3_ordersAt 4 (some .int) 0 0 0 0 [.inr 0, .inl x1] σ (r, σ) := by
  refine xbody (by decide) (Nat.le_of_ble_eq_true rfl) ?_
  intro lo p e s m args below meth c F hP ls hl
  have F : Fx p l s args m meth c G cX3_ordersAt 4 (some .int) RX3 := F
  obtain ⟨hx, hb, hrt, hml, hown, hts, hlocks, hC, htab, hst⟩ := id F
  have hS : va_S (gF G) s.heap s.heap [] := va_S.rf
  have hl : lv_has ls 4 [(0, .ref (gA G 0)), (1, .int x1)] := hl
  unfold f_X3_ordersAt at hm
  refine lv_iconst (v := 0) hx hb dX3_ordersAt_0 (by decide) ?_
  refine lv_istore_n (lv' := [(2, .int 0), (0, .ref (gA G 0)), (1, .int x1)]) hx hb dX3_ordersAt_1 rfl hl (by decide) rfl (fun ls hl => ?_)
  refine lv_iconst (v := 0) hx hb dX3_ordersAt_2 (by decide) ?_
  refine lv_istore_n (lv' := [(3, .int 0), (2, .int 0), (0, .ref (gA G 0)), (1, .int x1)]) hx hb dX3_ordersAt_3 rfl hl (by decide) rfl (fun ls hl => ?_)
  exact w_X3_ordersAt_4 F 40 hm hP hS (lv_sub hl [2, 3, 1, 0] rfl)
/-! ===== X3_finishedOrders ===== -/
def f_X3_finishedOrders_4 (σ : St) : Nat → Int32 → Int32 → Option RV
  | 0, _, _ => none
  | n + 1, x1, x2 =>
    if (σ 0 4) ≤ x2 then
      some (.inl (some (.inl x1)))
    else
      if x2 < 0 ∨ 16 ≤ x2.toNatClampNeg then none
      else
        if (σ (26 + 2 * x2.toNatClampNeg) 7) = 0 then
          f_X3_finishedOrders_4 σ n x1 (x2 + 1)
        else
          f_X3_finishedOrders_4 σ n (x1 + 1) (x2 + 1)
set_option maxHeartbeats 4000000 in
set_option maxRecDepth 100000 in
theorem w_X3_finishedOrders_4 {p : Program} {l : Launch} {e : Env} {s : State} {m : MethodId} {args : Array Value} {below : List Frame} {meth : Method} {c : Code} {G : GT} {lo : Nat → Int64} (F : Fx p l s args m meth c G cX3_finishedOrders 3 (some .int) RX3) {σ : St} : ∀ (n : Nat) {x1 : Int32} {x2 : Int32} {r : RV}, f_X3_finishedOrders_4 σ n x1 x2 = some r → ∀ {H : Heap} {locs : List Loc}, va_P (gD G) vwCl (wld G lo σ) H → va_S (gF G) s.heap H locs → ∀ {ls : Array Slot}, lv_has ls 3 [(0, .ref (gA G 0)), (1, .int x1), (2, .int x2)] → W p l e (RM 0 0 0 0) s m args below meth c H locs 0 0 (vx_MQ below (QCr G lo (r, σ)) (XCr G lo (r, σ)) args s 0 0 (gF G)) (F0 m 4 ls []) := by
  obtain ⟨hx, hb, hrt, hml, hown, hts, hlocks, hC, htab, hst⟩ := id F
  intro n
  induction n with
  | zero =>
    intro x1 x2 r hm
    simp only [f_X3_finishedOrders_4] at hm
    cases hm
  | succ n ih =>
    intro x1 x2 r hm H locs hP hS ls hl
    rw [f_X3_finishedOrders_4] at hm
    refine lv_iload_n hx hb dX3_finishedOrders_4 rfl (lv_at hl 2 rfl) ?_
    refine lv_aload_n hx hb dX3_finishedOrders_5 rfl (lv_at hl 0 rfl) ?_
    refine xg F 4 inX3 hP (kd_k kdc_0 (by decide)) (wc3 kdc_0) rfl (by decide) tk_115 rfl rfl dX3_finishedOrders_6 ?_
    refine lv_icmp_ge (tgt := 33) hx hb dX3_finishedOrders_9 (by decide) (fun b1 => ?_) (fun b1 => ?_)
    · rw [if_pos b1] at hm
      refine lv_iload_n hx hb dX3_finishedOrders_33 rfl (lv_at hl 1 rfl) ?_
      exact xir F hP hS (congrArg (fun z => (z, σ)) (Option.some.inj hm).symm) (by decide) (by decide) dX3_finishedOrders_34
    · rw [if_neg b1] at hm
      refine lv_aload_n hx hb dX3_finishedOrders_12 rfl (lv_at hl 0 rfl) ?_
      refine xg F 3 inX3 hP (kd_k kdc_0 (by decide)) (wc3 kdc_0) rfl (by decide) tk_114 rfl rfl dX3_finishedOrders_13 ?_
      refine lv_iload_n hx hb dX3_finishedOrders_16 rfl (lv_at hl 2 rfl) ?_
      by_cases b2 : (x2 < 0 ∨ 16 ≤ x2.toNatClampNeg)
      · rw [if_pos b2] at hm
        cases hm
      · rw [if_neg b2] at hm
        refine xol F hP kdc_6 b2 dX3_finishedOrders_17 ?_
        refine xgN F 7 inX1 hP (kd_k (kd_ord b2) (by decide)) (wc1 (kd_ord b2)) rfl (by decide) tn_10 rfl rfl dX3_finishedOrders_18 ?_
        refine lv_if_eq (tgt := 27) hx hb dX3_finishedOrders_21 (by decide) (fun b3 => ?_) (fun b3 => ?_)
        · rw [if_pos b3] at hm
          refine lv_iinc (v := (x2 + 1)) (lv' := [(2, .int (x2 + 1)), (0, .ref (gA G 0)), (1, .int x1)]) hx hb dX3_finishedOrders_27 hl (k := 2) rfl rfl (by decide) rfl (fun ls hl => ?_)
          refine lv_goto (tgt := 4) hx hb dX3_finishedOrders_30 (by decide) ?_
          exact ih hm hP hS (lv_sub hl [1, 2, 0] rfl)
        · rw [if_neg b3] at hm
          refine lv_iinc (v := (x1 + 1)) (lv' := [(1, .int (x1 + 1)), (0, .ref (gA G 0)), (2, .int x2)]) hx hb dX3_finishedOrders_24 hl (k := 1) rfl rfl (by decide) rfl (fun ls hl => ?_)
          refine lv_iinc (v := (x2 + 1)) (lv' := [(2, .int (x2 + 1)), (1, .int (x1 + 1)), (0, .ref (gA G 0))]) hx hb dX3_finishedOrders_27 hl (k := 2) rfl rfl (by decide) rfl (fun ls hl => ?_)
          refine lv_goto (tgt := 4) hx hb dX3_finishedOrders_30 (by decide) ?_
          exact ih hm hP hS (lv_sub hl [2, 1, 0] rfl)
def f_X3_finishedOrders (σ : St) : Option RV :=
  f_X3_finishedOrders_4 σ 40 0 0
set_option maxHeartbeats 4000000 in
set_option maxRecDepth 100000 in
theorem c_X3_finishedOrders {l : Launch} {G : GT} {σ : St} {r : RV} (hm : f_X3_finishedOrders σ = some r) : MC l G yX3_finishedOrders cX3_finishedOrders 3 (some .int) 0 0 0 0 [.inr 0] σ (r, σ) := by
  refine xbody (by decide) (Nat.le_of_ble_eq_true rfl) ?_
  intro lo p e s m args below meth c F hP ls hl
  have F : Fx p l s args m meth c G cX3_finishedOrders 3 (some .int) RX3 := F
  obtain ⟨hx, hb, hrt, hml, hown, hts, hlocks, hC, htab, hst⟩ := id F
  have hS : va_S (gF G) s.heap s.heap [] := va_S.rf
  have hl : lv_has ls 3 [(0, .ref (gA G 0))] := hl
  unfold f_X3_finishedOrders at hm
  refine lv_iconst (v := 0) hx hb dX3_finishedOrders_0 (by decide) ?_
  refine lv_istore_n (lv' := [(1, .int 0), (0, .ref (gA G 0))]) hx hb dX3_finishedOrders_1 rfl hl (by decide) rfl (fun ls hl => ?_)
  refine lv_iconst (v := 0) hx hb dX3_finishedOrders_2 (by decide) ?_
  refine lv_istore_n (lv' := [(2, .int 0), (1, .int 0), (0, .ref (gA G 0))]) hx hb dX3_finishedOrders_3 rfl hl (by decide) rfl (fun ls hl => ?_)
  exact w_X3_finishedOrders_4 F 40 hm hP hS (lv_sub hl [2, 1, 0] rfl)
/-! ===== X3_count ===== -/
def f_X3_count (σ : St) (x1 : Int32) : Option RV :=
  if x1 = 0 then
    some (.inl (some (.inl (σ 0 4))))
  else
    if x1 = 1 then
      ri (f_X3_wavesWithOrders σ) (fun x3_ =>
        some (.inl (some (.inl x3_))))
    else
      if x1 = 2 then
        ri (f_X3_ordersAt σ 0) (fun x5_ =>
          some (.inl (some (.inl x5_))))
      else
        if x1 = 3 then
          ri (f_X3_ordersAt σ (-1)) (fun x7_ =>
            some (.inl (some (.inl x7_))))
        else
          if x1 = 4 then
            ri (f_X3_finishedOrders σ) (fun x9_ =>
              some (.inl (some (.inl x9_))))
          else
            if x1 = 5 then
              ri (f_X3_savedBehind σ 0) (fun x11_ =>
                some (.inl (some (.inl x11_))))
            else
              if x1 = 6 then
                some (.inl (some (.inl (σ 0 0))))
              else
                some (.inl (some (.inl (-1))))
set_option maxHeartbeats 4000000 in
set_option maxRecDepth 100000 in
theorem c_X3_count {l : Launch} {G : GT} {σ : St} {x1 : Int32} {r : RV} (hm : f_X3_count σ x1 = some r) : MC l G yX3_count cX3_count 2 (some .int) 5 115 0 0 [.inr 0, .inl x1] σ (r, σ) := by
  refine xbody (by decide) (Nat.le_of_ble_eq_true rfl) ?_
  intro lo p e s m args below meth c F hP ls hl
  have F : Fx p l s args m meth c G cX3_count 2 (some .int) RX3 := F
  obtain ⟨hx, hb, hrt, hml, hown, hts, hlocks, hC, htab, hst⟩ := id F
  have hS : va_S (gF G) s.heap s.heap [] := va_S.rf
  have hl : lv_has ls 2 [(0, .ref (gA G 0)), (1, .int x1)] := hl
  unfold f_X3_count at hm
  refine lv_iload_n hx hb dX3_count_0 rfl (lv_at hl 1 rfl) ?_
  by_cases b1 : x1 = 0
  · rw [if_pos b1] at hm
    refine lv_tableIn (off := 43) (tgt := 44) hx hb dX3_count_1 (by rw [b1]; decide) (by rw [b1]; decide) (by rw [b1]; rfl) (by decide) ?_
    refine lv_aload_n hx hb dX3_count_44 rfl (lv_at hl 0 rfl) ?_
    refine xg F 4 inX3 hP (kd_k kdc_0 (by decide)) (wc3 kdc_0) rfl (by decide) tk_115 rfl rfl dX3_count_45 ?_
    exact xir F hP hS (congrArg (fun z => (z, σ)) (Option.some.inj hm).symm) (by decide) (by decide) dX3_count_48
  · rw [if_neg b1] at hm
    by_cases b2 : x1 = 1
    · rw [if_pos b2] at hm
      refine lv_tableIn (off := 48) (tgt := 49) hx hb dX3_count_1 (by rw [b2]; decide) (by rw [b2]; decide) (by rw [b2]; rfl) (by decide) ?_
      refine lv_aload_n hx hb dX3_count_49 rfl (lv_at hl 0 rfl) ?_
      obtain ⟨x3_, h3, hm⟩ := ri_inv hm
      refine xV F (c_X3_wavesWithOrders h3) tk_143 tk_140 tk_142 tu_0 tk_1 rfl 0 (by decide +kernel) rfl ⟨Nat.le_of_ble_eq_true rfl, Nat.le_of_ble_eq_true rfl⟩ hP hS (kd_k kdc_0 (by decide)) (wc3 kdc_0) rfl hl.1 rfl (Nat.le_of_ble_eq_true rfl) dX3_count_50 ⟨Nat.le_of_ble_eq_true rfl, Nat.le_of_ble_eq_true rfl⟩ (fun v hv H locs hP hS => ?_) (fun E hE => by cases hE)
      cases hv
      replace hP : va_P (gD G) vwCl (wld G lo σ) H := hP
      refine W.eq (g2 := F0 m 53 ls [.int x3_]) rfl ?_
      exact xir F hP hS (congrArg (fun z => (z, σ)) (Option.some.inj hm).symm) (by decide) (by decide) dX3_count_53
    · rw [if_neg b2] at hm
      by_cases b4 : x1 = 2
      · rw [if_pos b4] at hm
        refine lv_tableIn (off := 53) (tgt := 54) hx hb dX3_count_1 (by rw [b4]; decide) (by rw [b4]; decide) (by rw [b4]; rfl) (by decide) ?_
        refine lv_aload_n hx hb dX3_count_54 rfl (lv_at hl 0 rfl) ?_
        refine lv_iconst (v := 0) hx hb dX3_count_55 (by decide) ?_
        obtain ⟨x5_, h5, hm⟩ := ri_inv hm
        refine xV F (c_X3_ordersAt h5) tk_147 tk_144 tk_146 tu_1 tk_1 rfl 1 (by decide +kernel) rfl ⟨Nat.le_of_ble_eq_true rfl, Nat.le_of_ble_eq_true rfl⟩ hP hS (kd_k kdc_0 (by decide)) (wc3 kdc_0) rfl hl.1 rfl (Nat.le_of_ble_eq_true rfl) dX3_count_56 ⟨Nat.le_of_ble_eq_true rfl, Nat.le_of_ble_eq_true rfl⟩ (fun v hv H locs hP hS => ?_) (fun E hE => by cases hE)
        cases hv
        replace hP : va_P (gD G) vwCl (wld G lo σ) H := hP
        refine W.eq (g2 := F0 m 59 ls [.int x5_]) rfl ?_
        exact xir F hP hS (congrArg (fun z => (z, σ)) (Option.some.inj hm).symm) (by decide) (by decide) dX3_count_59
      · rw [if_neg b4] at hm
        by_cases b6 : x1 = 3
        · rw [if_pos b6] at hm
          refine lv_tableIn (off := 59) (tgt := 60) hx hb dX3_count_1 (by rw [b6]; decide) (by rw [b6]; decide) (by rw [b6]; rfl) (by decide) ?_
          refine lv_aload_n hx hb dX3_count_60 rfl (lv_at hl 0 rfl) ?_
          refine lv_iconst (v := (-1)) hx hb dX3_count_61 (by decide) ?_
          obtain ⟨x7_, h7, hm⟩ := ri_inv hm
          refine xV F (c_X3_ordersAt h7) tk_147 tk_144 tk_146 tu_1 tk_1 rfl 1 (by decide +kernel) rfl ⟨Nat.le_of_ble_eq_true rfl, Nat.le_of_ble_eq_true rfl⟩ hP hS (kd_k kdc_0 (by decide)) (wc3 kdc_0) rfl hl.1 rfl (Nat.le_of_ble_eq_true rfl) dX3_count_62 ⟨Nat.le_of_ble_eq_true rfl, Nat.le_of_ble_eq_true rfl⟩ (fun v hv H locs hP hS => ?_) (fun E hE => by cases hE)
          cases hv
          replace hP : va_P (gD G) vwCl (wld G lo σ) H := hP
          refine W.eq (g2 := F0 m 65 ls [.int x7_]) rfl ?_
          exact xir F hP hS (congrArg (fun z => (z, σ)) (Option.some.inj hm).symm) (by decide) (by decide) dX3_count_65
        · rw [if_neg b6] at hm
          by_cases b8 : x1 = 4
          · rw [if_pos b8] at hm
            refine lv_tableIn (off := 65) (tgt := 66) hx hb dX3_count_1 (by rw [b8]; decide) (by rw [b8]; decide) (by rw [b8]; rfl) (by decide) ?_
            refine lv_aload_n hx hb dX3_count_66 rfl (lv_at hl 0 rfl) ?_
            obtain ⟨x9_, h9, hm⟩ := ri_inv hm
            refine xV F (c_X3_finishedOrders h9) tk_151 tk_148 tk_150 tu_2 tk_1 rfl 0 (by decide +kernel) rfl ⟨Nat.le_of_ble_eq_true rfl, Nat.le_of_ble_eq_true rfl⟩ hP hS (kd_k kdc_0 (by decide)) (wc3 kdc_0) rfl hl.1 rfl (Nat.le_of_ble_eq_true rfl) dX3_count_67 ⟨Nat.le_of_ble_eq_true rfl, Nat.le_of_ble_eq_true rfl⟩ (fun v hv H locs hP hS => ?_) (fun E hE => by cases hE)
            cases hv
            replace hP : va_P (gD G) vwCl (wld G lo σ) H := hP
            refine W.eq (g2 := F0 m 70 ls [.int x9_]) rfl ?_
            exact xir F hP hS (congrArg (fun z => (z, σ)) (Option.some.inj hm).symm) (by decide) (by decide) dX3_count_70
          · rw [if_neg b8] at hm
            by_cases b10 : x1 = 5
            · rw [if_pos b10] at hm
              refine lv_tableIn (off := 70) (tgt := 71) hx hb dX3_count_1 (by rw [b10]; decide) (by rw [b10]; decide) (by rw [b10]; rfl) (by decide) ?_
              refine lv_aload_n hx hb dX3_count_71 rfl (lv_at hl 0 rfl) ?_
              refine lv_iconst (v := 0) hx hb dX3_count_72 (by decide) ?_
              obtain ⟨x11_, h11, hm⟩ := ri_inv hm
              refine xV F (c_X3_savedBehind h11) tk_155 tk_152 tk_154 tu_3 tk_1 rfl 1 (by decide +kernel) rfl ⟨Nat.le_of_ble_eq_true rfl, Nat.le_of_ble_eq_true rfl⟩ hP hS (kd_k kdc_0 (by decide)) (wc3 kdc_0) rfl hl.1 rfl (Nat.le_of_ble_eq_true rfl) dX3_count_73 ⟨Nat.le_of_ble_eq_true rfl, Nat.le_of_ble_eq_true rfl⟩ (fun v hv H locs hP hS => ?_) (fun E hE => by cases hE)
              cases hv
              replace hP : va_P (gD G) vwCl (wld G lo σ) H := hP
              refine W.eq (g2 := F0 m 76 ls [.int x11_]) rfl ?_
              exact xir F hP hS (congrArg (fun z => (z, σ)) (Option.some.inj hm).symm) (by decide) (by decide) dX3_count_76
            · rw [if_neg b10] at hm
              by_cases b12 : x1 = 6
              · rw [if_pos b12] at hm
                refine lv_tableIn (off := 76) (tgt := 77) hx hb dX3_count_1 (by rw [b12]; decide) (by rw [b12]; decide) (by rw [b12]; rfl) (by decide) ?_
                refine lv_aload_n hx hb dX3_count_77 rfl (lv_at hl 0 rfl) ?_
                refine xg F 0 inX3 hP (kd_k kdc_0 (by decide)) (wc3 kdc_0) rfl (by decide) tk_111 rfl rfl dX3_count_78 ?_
                exact xir F hP hS (congrArg (fun z => (z, σ)) (Option.some.inj hm).symm) (by decide) (by decide) dX3_count_81
              · rw [if_neg b12] at hm
                have z0 := lv_neT b1 (a := 0) rfl
                have z1 := lv_neT b2 (a := 1) rfl
                have z2 := lv_neT b4 (a := 2) rfl
                have z3 := lv_neT b6 (a := 3) rfl
                have z4 := lv_neT b8 (a := 4) rfl
                have z5 := lv_neT b10 (a := 5) rfl
                have z6 := lv_neT b12 (a := 6) rfl
                refine lv_tableOut (tgt := 82) hx hb dX3_count_1 (by omega) (by decide) ?_
                refine lv_iconst (v := (-1)) hx hb dX3_count_82 (by decide) ?_
                exact xir F hP hS (congrArg (fun z => (z, σ)) (Option.some.inj hm).symm) (by decide) (by decide) dX3_count_83
