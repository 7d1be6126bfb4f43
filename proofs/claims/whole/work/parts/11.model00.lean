/-! ===== X4_thrown ===== -/
def f_X4_thrown (σ : St) : Option RV :=
  some (.inl (some (.inl (σ 8 0))))
set_option maxHeartbeats 4000000 in
set_option maxRecDepth 100000 in
theorem c_X4_thrown {l : Launch} {G : GT} {σ : St} {r : RV} (hm : f_X4_thrown σ = some r) : MC l G yX4_thrown cX4_thrown 1 (some .int) 0 0 0 0 [.inr 8] σ (r, σ) := by
  refine xbody (by decide) (Nat.le_of_ble_eq_true rfl) ?_
  intro lo p e s m args below meth c F hP ls hl
  have F : Fx p l s args m meth c G cX4_thrown 1 (some .int) RX4 := F
  obtain ⟨hx, hb, hrt, hml, hown, hts, hlocks, hC, htab, hst⟩ := id F
  have hS : va_S (gF G) s.heap s.heap [] := va_S.rf
  have hl : lv_has ls 1 [(0, .ref (gA G 8))] := hl
  unfold f_X4_thrown at hm
  refine lv_aload_n hx hb dX4_thrown_0 rfl (lv_at hl 0 rfl) ?_
  refine xg F 0 inX4 hP (kd_k kdc_8 (by decide)) (wc4 kdc_8) rfl (by decide) tk_553 rfl rfl dX4_thrown_1 ?_
  exact xir F hP hS (congrArg (fun z => (z, σ)) (Option.some.inj hm).symm) (by decide) (by decide) dX4_thrown_4
/-! ===== X4_in ===== -/
def f_X4_in (σ : St) (x0 : Int32) (x1 : Int32) (x2 : Int32) : Option RV :=
  if x0 < x1 then
    some (.inl (some (.inl 0)))
  else
    if x2 < x0 then
      some (.inl (some (.inl 0)))
    else
      some (.inl (some (.inl 1)))
set_option maxHeartbeats 4000000 in
set_option maxRecDepth 100000 in
theorem c_X4_in {l : Launch} {G : GT} {σ : St} {x0 : Int32} {x1 : Int32} {x2 : Int32} {r : RV} (hm : f_X4_in σ x0 x1 x2 = some r) : MC l G yX4_in cX4_in 3 (some .boolean) 0 0 0 0 [.inl x0, .inl x1, .inl x2] σ (r, σ) := by
  refine xbody (by decide) (Nat.le_of_ble_eq_true rfl) ?_
  intro lo p e s m args below meth c F hP ls hl
  have F : Fx p l s args m meth c G cX4_in 3 (some .boolean) RX4 := F
  obtain ⟨hx, hb, hrt, hml, hown, hts, hlocks, hC, htab, hst⟩ := id F
  have hS : va_S (gF G) s.heap s.heap [] := va_S.rf
  have hl : lv_has ls 3 [(0, .int x0), (1, .int x1), (2, .int x2)] := hl
  unfold f_X4_in at hm
  refine lv_iload_n hx hb dX4_in_0 rfl (lv_at hl 0 rfl) ?_
  refine lv_iload_n hx hb dX4_in_1 rfl (lv_at hl 1 rfl) ?_
  refine lv_icmp_lt (tgt := 14) hx hb dX4_in_2 (by decide) (fun b1 => ?_) (fun b1 => ?_)
  · rw [if_pos b1] at hm
    refine lv_iconst (v := 0) hx hb dX4_in_14 (by decide) ?_
    exact xzr F hP hS rfl (congrArg (fun z => (z, σ)) (Option.some.inj hm).symm) (by decide) (by decide) dX4_in_15
  · rw [if_neg b1] at hm
    refine lv_iload_n hx hb dX4_in_5 rfl (lv_at hl 0 rfl) ?_
    refine lv_iload_n hx hb dX4_in_6 rfl (lv_at hl 2 rfl) ?_
    refine lv_icmp_gt (tgt := 14) hx hb dX4_in_7 (by decide) (fun b2 => ?_) (fun b2 => ?_)
    · rw [if_pos b2] at hm
      refine lv_iconst (v := 0) hx hb dX4_in_14 (by decide) ?_
      exact xzr F hP hS rfl (congrArg (fun z => (z, σ)) (Option.some.inj hm).symm) (by decide) (by decide) dX4_in_15
    · rw [if_neg b2] at hm
      refine lv_iconst (v := 1) hx hb dX4_in_10 (by decide) ?_
      refine lv_goto (tgt := 15) hx hb dX4_in_11 (by decide) ?_
      exact xzr F hP hS rfl (congrArg (fun z => (z, σ)) (Option.some.inj hm).symm) (by decide) (by decide) dX4_in_15
/-! ===== X4_isOrder ===== -/
def f_X4_isOrder (σ : St) (x1 : Int32) : Option RV :=
  ri (f_X4_in σ x1 0 ((σ 8 2) - 1)) (fun x1_ =>
    if x1_ = 0 ∨ x1_ = 1 then some (.inl (some (.inl x1_))) else none)
set_option maxHeartbeats 4000000 in
set_option maxRecDepth 100000 in
theorem c_X4_isOrder {l : Launch} {G : GT} {σ : St} {x1 : Int32} {r : RV} (hm : f_X4_isOrder σ x1 = some r) : MC l G yX4_isOrder cX4_isOrder 2 (some .boolean) 1 22 0 0 [.inr 8, .inl x1] σ (r, σ) := by
  refine xbody (by decide) (Nat.le_of_ble_eq_true rfl) ?_
  intro lo p e s m args below meth c F hP ls hl
  have F : Fx p l s args m meth c G cX4_isOrder 2 (some .boolean) RX4 := F
  obtain ⟨hx, hb, hrt, hml, hown, hts, hlocks, hC, htab, hst⟩ := id F
  have hS : va_S (gF G) s.heap s.heap [] := va_S.rf
  have hl : lv_has ls 2 [(0, .ref (gA G 8)), (1, .int x1)] := hl
  unfold f_X4_isOrder at hm
  refine lv_iload_n hx hb dX4_isOrder_0 rfl (lv_at hl 1 rfl) ?_
  refine lv_iconst (v := 0) hx hb dX4_isOrder_1 (by decide) ?_
  refine lv_aload_n hx hb dX4_isOrder_2 rfl (lv_at hl 0 rfl) ?_
  refine xg F 2 inX4 hP (kd_k kdc_8 (by decide)) (wc4 kdc_8) rfl (by decide) tk_555 rfl rfl dX4_isOrder_3 ?_
  refine lv_iconst (v := 1) hx hb dX4_isOrder_6 (by decide) ?_
  refine lv_isub hx hb dX4_isOrder_7 ?_
  obtain ⟨x1_, h1, hm⟩ := ri_inv hm
  refine xSt F (c_X4_in h1) tk_635 tk_633 tk_634 tk_6 rfl 3 (by decide +kernel) rfl ⟨Nat.le_of_ble_eq_true rfl, Nat.le_of_ble_eq_true rfl⟩ hP hS hl.1 rfl (Nat.le_of_ble_eq_true rfl) dX4_isOrder_8 ⟨Nat.le_of_ble_eq_true rfl, Nat.le_of_ble_eq_true rfl⟩ (fun v hv H locs hP hS => ?_) (fun E hE => by cases hE)
  cases hv
  replace hP : va_P (gD G) vwCl (wld G lo σ) H := hP
  refine W.eq (g2 := F0 m 11 ls [.int x1_]) rfl ?_
  by_cases b2 : (x1_ = 0 ∨ x1_ = 1)
  · rw [if_pos b2] at hm
    exact xzr F hP hS (nar_b b2) (congrArg (fun z => (z, σ)) (Option.some.inj hm).symm) (by decide) (by decide) dX4_isOrder_11
  · rw [if_neg b2] at hm
    cases hm
/-! ===== X4_isTime ===== -/
def f_X4_isTime (σ : St) (x0 : Int32) : Option RV :=
  ri (f_X4_in σ x0 0 100000) (fun x1_ =>
    if x1_ = 0 ∨ x1_ = 1 then some (.inl (some (.inl x1_))) else none)
set_option maxHeartbeats 4000000 in
set_option maxRecDepth 100000 in
theorem c_X4_isTime {l : Launch} {G : GT} {σ : St} {x0 : Int32} {r : RV} (hm : f_X4_isTime σ x0 = some r) : MC l G yX4_isTime cX4_isTime 1 (some .boolean) 1 22 0 0 [.inl x0] σ (r, σ) := by
  refine xbody (by decide) (Nat.le_of_ble_eq_true rfl) ?_
  intro lo p e s m args below meth c F hP ls hl
  have F : Fx p l s args m meth c G cX4_isTime 1 (some .boolean) RX4 := F
  obtain ⟨hx, hb, hrt, hml, hown, hts, hlocks, hC, htab, hst⟩ := id F
  have hS : va_S (gF G) s.heap s.heap [] := va_S.rf
  have hl : lv_has ls 1 [(0, .int x0)] := hl
  unfold f_X4_isTime at hm
  refine lv_iload_n hx hb dX4_isTime_0 rfl (lv_at hl 0 rfl) ?_
  refine lv_iconst (v := 0) hx hb dX4_isTime_1 (by decide) ?_
  refine lv_ldc (v := 100000) hx hb hown (hts _ tk_632) dX4_isTime_2 ?_
  obtain ⟨x1_, h1, hm⟩ := ri_inv hm
  refine xSt F (c_X4_in h1) tk_635 tk_633 tk_634 tk_6 rfl 3 (by decide +kernel) rfl ⟨Nat.le_of_ble_eq_true rfl, Nat.le_of_ble_eq_true rfl⟩ hP hS hl.1 rfl (Nat.le_of_ble_eq_true rfl) dX4_isTime_4 ⟨Nat.le_of_ble_eq_true rfl, Nat.le_of_ble_eq_true rfl⟩ (fun v hv H locs hP hS => ?_) (fun E hE => by cases hE)
  cases hv
  replace hP : va_P (gD G) vwCl (wld G lo σ) H := hP
  refine W.eq (g2 := F0 m 7 ls [.int x1_]) rfl ?_
  by_cases b2 : (x1_ = 0 ∨ x1_ = 1)
  · rw [if_pos b2] at hm
    exact xzr F hP hS (nar_b b2) (congrArg (fun z => (z, σ)) (Option.some.inj hm).symm) (by decide) (by decide) dX4_isTime_7
  · rw [if_neg b2] at hm
    cases hm
/-! ===== X4_order ===== -/
def f_X4_order_47 (σ : St) (x1 : Int32) (x2 : Int32) (x3 : Int32) (s1 : Int32) : Option (RV × St) :=
  if ((up2 σ 8 0 s1) 8 0) ≤ 0 then
    if ((up2 σ 8 0 s1) 8 2) < 0 ∨ 16 ≤ ((up2 σ 8 0 s1) 8 2).toNatClampNeg then none
    else
      if ((up2 (up2 σ 8 0 s1) 9 ((up2 σ 8 0 s1) 8 2).toNatClampNeg x1) 8 2) < 0 ∨ 16 ≤ ((up2 (up2 σ 8 0 s1) 9 ((up2 σ 8 0 s1) 8 2).toNatClampNeg x1) 8 2).toNatClampNeg then none
      else
        if ((up2 (up2 (up2 σ 8 0 s1) 9 ((up2 σ 8 0 s1) 8 2).toNatClampNeg x1) 10 ((up2 (up2 σ 8 0 s1) 9 ((up2 σ 8 0 s1) 8 2).toNatClampNeg x1) 8 2).toNatClampNeg x2) 8 2) < 0 ∨ 16 ≤ ((up2 (up2 (up2 σ 8 0 s1) 9 ((up2 σ 8 0 s1) 8 2).toNatClampNeg x1) 10 ((up2 (up2 σ 8 0 s1) 9 ((up2 σ 8 0 s1) 8 2).toNatClampNeg x1) 8 2).toNatClampNeg x2) 8 2).toNatClampNeg then none
        else
          some (.inl (some (.inl (((up2 (up2 (up2 (up2 (up2 σ 8 0 s1) 9 ((up2 σ 8 0 s1) 8 2).toNatClampNeg x1) 10 ((up2 (up2 σ 8 0 s1) 9 ((up2 σ 8 0 s1) 8 2).toNatClampNeg x1) 8 2).toNatClampNeg x2) 11 ((up2 (up2 (up2 σ 8 0 s1) 9 ((up2 σ 8 0 s1) 8 2).toNatClampNeg x1) 10 ((up2 (up2 σ 8 0 s1) 9 ((up2 σ 8 0 s1) 8 2).toNatClampNeg x1) 8 2).toNatClampNeg x2) 8 2).toNatClampNeg x3) 8 2 (((up2 (up2 (up2 (up2 σ 8 0 s1) 9 ((up2 σ 8 0 s1) 8 2).toNatClampNeg x1) 10 ((up2 (up2 σ 8 0 s1) 9 ((up2 σ 8 0 s1) 8 2).toNatClampNeg x1) 8 2).toNatClampNeg x2) 11 ((up2 (up2 (up2 σ 8 0 s1) 9 ((up2 σ 8 0 s1) 8 2).toNatClampNeg x1) 10 ((up2 (up2 σ 8 0 s1) 9 ((up2 σ 8 0 s1) 8 2).toNatClampNeg x1) 8 2).toNatClampNeg x2) 8 2).toNatClampNeg x3) 8 2) + 1)) 8 2) - 1))), (up2 (up2 (up2 (up2 (up2 σ 8 0 s1) 9 ((up2 σ 8 0 s1) 8 2).toNatClampNeg x1) 10 ((up2 (up2 σ 8 0 s1) 9 ((up2 σ 8 0 s1) 8 2).toNatClampNeg x1) 8 2).toNatClampNeg x2) 11 ((up2 (up2 (up2 σ 8 0 s1) 9 ((up2 σ 8 0 s1) 8 2).toNatClampNeg x1) 10 ((up2 (up2 σ 8 0 s1) 9 ((up2 σ 8 0 s1) 8 2).toNatClampNeg x1) 8 2).toNatClampNeg x2) 8 2).toNatClampNeg x3) 8 2 (((up2 (up2 (up2 (up2 σ 8 0 s1) 9 ((up2 σ 8 0 s1) 8 2).toNatClampNeg x1) 10 ((up2 (up2 σ 8 0 s1) 9 ((up2 σ 8 0 s1) 8 2).toNatClampNeg x1) 8 2).toNatClampNeg x2) 11 ((up2 (up2 (up2 σ 8 0 s1) 9 ((up2 σ 8 0 s1) 8 2).toNatClampNeg x1) 10 ((up2 (up2 σ 8 0 s1) 9 ((up2 σ 8 0 s1) 8 2).toNatClampNeg x1) 8 2).toNatClampNeg x2) 8 2).toNatClampNeg x3) 8 2) + 1)))
  else
    some (.inl (some (.inl 0)), (up2 σ 8 0 s1))
set_option maxHeartbeats 4000000 in
set_option maxRecDepth 100000 in
theorem w_X4_order_47 {p : Program} {l : Launch} {e : Env} {s : State} {m : MethodId} {args : Array Value} {below : List Frame} {meth : Method} {c : Code} {G : GT} {lo : Nat → Int64} (F : Fx p l s args m meth c G cX4_order 4 (some .int) RX4) {σ : St} {x1 : Int32} {x2 : Int32} {x3 : Int32} {s1 : Int32} {r : RV × St} (hm : f_X4_order_47 σ x1 x2 x3 s1 = some r) {H : Heap} {locs : List Loc} (hP : va_P (gD G) vwCl (wld G lo σ) H) (hS : va_S (gF G) s.heap H locs) {ls : Array Slot} (hl : lv_has ls 4 [(0, .ref (gA G 8)), (1, .int x1), (2, .int x2), (3, .int x3)]) : W p l e (RM 2 42 0 0) s m args below meth c H locs 0 0 (vx_MQ below (QCr G lo r) (XCr G lo r) args s 0 0 (gF G)) (F0 m 47 ls [.int s1, .ref (gA G 8)]) := by
  obtain ⟨hx, hb, hrt, hml, hown, hts, hlocks, hC, htab, hst⟩ := id F
  unfold f_X4_order_47 at hm
  refine xp F (v := s1) (ty := .int) 0 inX4 tyX4_ok nmX4 hP hS (kd_k kdc_8 (by decide)) (wc4 kdc_8) (wu4_0 kdc_8) rfl (by decide) tk_553 rfl rfl rfl rfl rfl (Nat.le_of_ble_eq_true rfl) dX4_order_47 (fun H locs hP hS => ?_)
  refine lv_aload_n hx hb dX4_order_50 rfl (lv_at hl 0 rfl) ?_
  refine xg F 0 inX4 hP (kd_k kdc_8 (by decide)) (wc4 kdc_8) rfl (by decide) tk_553 rfl rfl dX4_order_51 ?_
  refine lv_if_le (tgt := 59) hx hb dX4_order_54 (by decide) (fun b1 => ?_) (fun b1 => ?_)
  · rw [if_pos b1] at hm
    refine lv_aload_n hx hb dX4_order_59 rfl (lv_at hl 0 rfl) ?_
    refine xg F 3 inX4 hP (kd_k kdc_8 (by decide)) (wc4 kdc_8) rfl (by decide) tk_556 rfl rfl dX4_order_60 ?_
    refine lv_aload_n hx hb dX4_order_63 rfl (lv_at hl 0 rfl) ?_
    refine xg F 2 inX4 hP (kd_k kdc_8 (by decide)) (wc4 kdc_8) rfl (by decide) tk_555 rfl rfl dX4_order_64 ?_
    refine lv_iload_n hx hb dX4_order_67 rfl (lv_at hl 1 rfl) ?_
    by_cases b2 : (((up2 σ 8 0 s1) 8 2) < 0 ∨ 16 ≤ ((up2 σ 8 0 s1) 8 2).toNatClampNeg)
    · rw [if_pos b2] at hm
      cases hm
    · rw [if_neg b2] at hm
      refine xis F (v := x1) hP hS kdc_9 lnc_9 b2 dX4_order_68 (fun H locs hP hS => ?_)
      refine lv_aload_n hx hb dX4_order_69 rfl (lv_at hl 0 rfl) ?_
      refine xg F 4 inX4 hP (kd_k kdc_8 (by decide)) (wc4 kdc_8) rfl (by decide) tk_557 rfl rfl dX4_order_70 ?_
      refine lv_aload_n hx hb dX4_order_73 rfl (lv_at hl 0 rfl) ?_
      refine xg F 2 inX4 hP (kd_k kdc_8 (by decide)) (wc4 kdc_8) rfl (by decide) tk_555 rfl rfl dX4_order_74 ?_
      refine lv_iload_n hx hb dX4_order_77 rfl (lv_at hl 2 rfl) ?_
      by_cases b3 : (((up2 (up2 σ 8 0 s1) 9 ((up2 σ 8 0 s1) 8 2).toNatClampNeg x1) 8 2) < 0 ∨ 16 ≤ ((up2 (up2 σ 8 0 s1) 9 ((up2 σ 8 0 s1) 8 2).toNatClampNeg x1) 8 2).toNatClampNeg)
      · rw [if_pos b3] at hm
        cases hm
      · rw [if_neg b3] at hm
        refine xis F (v := x2) hP hS kdc_10 lnc_10 b3 dX4_order_78 (fun H locs hP hS => ?_)
        refine lv_aload_n hx hb dX4_order_79 rfl (lv_at hl 0 rfl) ?_
        refine xg F 5 inX4 hP (kd_k kdc_8 (by decide)) (wc4 kdc_8) rfl (by decide) tk_558 rfl rfl dX4_order_80 ?_
        refine lv_aload_n hx hb dX4_order_83 rfl (lv_at hl 0 rfl) ?_
        refine xg F 2 inX4 hP (kd_k kdc_8 (by decide)) (wc4 kdc_8) rfl (by decide) tk_555 rfl rfl dX4_order_84 ?_
        refine lv_iload_n hx hb dX4_order_87 rfl (lv_at hl 3 rfl) ?_
        by_cases b4 : (((up2 (up2 (up2 σ 8 0 s1) 9 ((up2 σ 8 0 s1) 8 2).toNatClampNeg x1) 10 ((up2 (up2 σ 8 0 s1) 9 ((up2 σ 8 0 s1) 8 2).toNatClampNeg x1) 8 2).toNatClampNeg x2) 8 2) < 0 ∨ 16 ≤ ((up2 (up2 (up2 σ 8 0 s1) 9 ((up2 σ 8 0 s1) 8 2).toNatClampNeg x1) 10 ((up2 (up2 σ 8 0 s1) 9 ((up2 σ 8 0 s1) 8 2).toNatClampNeg x1) 8 2).toNatClampNeg x2) 8 2).toNatClampNeg)
        · rw [if_pos b4] at hm
          cases hm
        · rw [if_neg b4] at hm
          refine xis F (v := x3) hP hS kdc_11 lnc_11 b4 dX4_order_88 (fun H locs hP hS => ?_)
          refine lv_aload_n hx hb dX4_order_89 rfl (lv_at hl 0 rfl) ?_
          refine lv_dup hx hb dX4_order_90 rfl ?_
          refine xg F 2 inX4 hP (kd_k kdc_8 (by decide)) (wc4 kdc_8) rfl (by decide) tk_555 rfl rfl dX4_order_91 ?_
          refine lv_iconst (v := 1) hx hb dX4_order_94 (by decide) ?_
          refine lv_iadd hx hb dX4_order_95 ?_
          refine xp F (v := (((up2 (up2 (up2 (up2 σ 8 0 s1) 9 ((up2 σ 8 0 s1) 8 2).toNatClampNeg x1) 10 ((up2 (up2 σ 8 0 s1) 9 ((up2 σ 8 0 s1) 8 2).toNatClampNeg x1) 8 2).toNatClampNeg x2) 11 ((up2 (up2 (up2 σ 8 0 s1) 9 ((up2 σ 8 0 s1) 8 2).toNatClampNeg x1) 10 ((up2 (up2 σ 8 0 s1) 9 ((up2 σ 8 0 s1) 8 2).toNatClampNeg x1) 8 2).toNatClampNeg x2) 8 2).toNatClampNeg x3) 8 2) + 1)) (ty := .int) 2 inX4 tyX4_ok nmX4 hP hS (kd_k kdc_8 (by decide)) (wc4 kdc_8) (wu4_2 kdc_8) rfl (by decide) tk_555 rfl rfl rfl rfl rfl (Nat.le_of_ble_eq_true rfl) dX4_order_96 (fun H locs hP hS => ?_)
          refine lv_aload_n hx hb dX4_order_99 rfl (lv_at hl 0 rfl) ?_
          refine xg F 2 inX4 hP (kd_k kdc_8 (by decide)) (wc4 kdc_8) rfl (by decide) tk_555 rfl rfl dX4_order_100 ?_
          refine lv_iconst (v := 1) hx hb dX4_order_103 (by decide) ?_
          refine lv_isub hx hb dX4_order_104 ?_
          exact xir F hP hS (Option.some.inj hm).symm (by decide) (by decide) dX4_order_105
  · rw [if_neg b1] at hm
    refine lv_iconst (v := 0) hx hb dX4_order_57 (by decide) ?_
    exact xir F hP hS (Option.some.inj hm).symm (by decide) (by decide) dX4_order_58
def f_X4_order_29 (σ : St) (x1 : Int32) (x2 : Int32) (x3 : Int32) : Option (RV × St) :=
  f_X4_order_47 σ x1 x2 x3 1
set_option maxHeartbeats 4000000 in
set_option maxRecDepth 100000 in
theorem w_X4_order_29 {p : Program} {l : Launch} {e : Env} {s : State} {m : MethodId} {args : Array Value} {below : List Frame} {meth : Method} {c : Code} {G : GT} {lo : Nat → Int64} (F : Fx p l s args m meth c G cX4_order 4 (some .int) RX4) {σ : St} {x1 : Int32} {x2 : Int32} {x3 : Int32} {r : RV × St} (hm : f_X4_order_29 σ x1 x2 x3 = some r) {H : Heap} {locs : List Loc} (hP : va_P (gD G) vwCl (wld G lo σ) H) (hS : va_S (gF G) s.heap H locs) {ls : Array Slot} (hl : lv_has ls 4 [(0, .ref (gA G 8)), (1, .int x1), (2, .int x2), (3, .int x3)]) : W p l e (RM 2 42 0 0) s m args below meth c H locs 0 0 (vx_MQ below (QCr G lo r) (XCr G lo r) args s 0 0 (gF G)) (F0 m 29 ls [.ref (gA G 8)]) := by
  obtain ⟨hx, hb, hrt, hml, hown, hts, hlocks, hC, htab, hst⟩ := id F
  unfold f_X4_order_29 at hm
  refine lv_iconst (v := 1) hx hb dX4_order_29 (by decide) ?_
  refine lv_goto (tgt := 47) hx hb dX4_order_30 (by decide) ?_
  exact w_X4_order_47 F hm hP hS (lv_sub hl [0, 1, 2, 3] rfl)
def f_X4_order (σ : St) (x1 : Int32) (x2 : Int32) (x3 : Int32) : Option (RV × St) :=
  ri (f_X4_isTime σ x1) (fun x1_ =>
    if x1_ = 0 then
      f_X4_order_29 σ x1 x2 x3
    else
      ri (f_X4_in σ x2 0 7) (fun x3_ =>
        if x3_ = 0 then
          f_X4_order_29 σ x1 x2 x3
        else
          ri (f_X4_in σ x3 1 10000) (fun x5_ =>
            if x5_ = 0 then
              f_X4_order_29 σ x1 x2 x3
            else
              if (σ 8 2) = 16 then
                f_X4_order_47 σ x1 x2 x3 2
              else
                f_X4_order_47 σ x1 x2 x3 0)))
set_option maxHeartbeats 4000000 in
set_option maxRecDepth 100000 in
theorem c_X4_order {l : Launch} {G : GT} {σ : St} {x1 : Int32} {x2 : Int32} {x3 : Int32} {r : RV × St} (hm : f_X4_order σ x1 x2 x3 = some r) : MC l G yX4_order cX4_order 4 (some .int) 2 42 0 0 [.inr 8, .inl x1, .inl x2, .inl x3] σ r := by
  refine xbody (by decide) (Nat.le_of_ble_eq_true rfl) ?_
  intro lo p e s m args below meth c F hP ls hl
  have F : Fx p l s args m meth c G cX4_order 4 (some .int) RX4 := F
  obtain ⟨hx, hb, hrt, hml, hown, hts, hlocks, hC, htab, hst⟩ := id F
  have hS : va_S (gF G) s.heap s.heap [] := va_S.rf
  have hl : lv_has ls 4 [(0, .ref (gA G 8)), (1, .int x1), (2, .int x2), (3, .int x3)] := hl
  unfold f_X4_order at hm
  refine lv_aload_n hx hb dX4_order_0 rfl (lv_at hl 0 rfl) ?_
  refine lv_iload_n hx hb dX4_order_1 rfl (lv_at hl 1 rfl) ?_
  obtain ⟨x1_, h1, hm⟩ := ri_inv hm
  refine xSt F (c_X4_isTime h1) tk_631 tk_629 tk_630 tk_6 rfl 1 (by decide +kernel) rfl ⟨Nat.le_of_ble_eq_true rfl, Nat.le_of_ble_eq_true rfl⟩ hP hS hl.1 rfl (Nat.le_of_ble_eq_true rfl) dX4_order_2 ⟨Nat.le_of_ble_eq_true rfl, Nat.le_of_ble_eq_true rfl⟩ (fun v hv H locs hP hS => ?_) (fun E hE => by cases hE)
  cases hv
  replace hP : va_P (gD G) vwCl (wld G lo σ) H := hP
  refine W.eq (g2 := F0 m 5 ls [.int x1_, .ref (gA G 8)]) rfl ?_
  refine lv_if_eq (tgt := 29) hx hb dX4_order_5 (by decide) (fun b2 => ?_) (fun b2 => ?_)
  · rw [if_pos b2] at hm
    exact w_X4_order_29 F hm hP hS (lv_sub hl [0, 1, 2, 3] rfl)
  · rw [if_neg b2] at hm
    refine lv_iload_n hx hb dX4_order_8 rfl (lv_at hl 2 rfl) ?_
    refine lv_iconst (v := 0) hx hb dX4_order_9 (by decide) ?_
    refine lv_bipush (v := 7) hx hb dX4_order_10 (by decide) ?_
    obtain ⟨x3_, h3, hm⟩ := ri_inv hm
    refine xSt F (c_X4_in h3) tk_635 tk_633 tk_634 tk_6 rfl 3 (by decide +kernel) rfl ⟨Nat.le_of_ble_eq_true rfl, Nat.le_of_ble_eq_true rfl⟩ hP hS hl.1 rfl (Nat.le_of_ble_eq_true rfl) dX4_order_12 ⟨Nat.le_of_ble_eq_true rfl, Nat.le_of_ble_eq_true rfl⟩ (fun v hv H locs hP hS => ?_) (fun E hE => by cases hE)
    cases hv
    replace hP : va_P (gD G) vwCl (wld G lo σ) H := hP
    refine W.eq (g2 := F0 m 15 ls [.int x3_, .ref (gA G 8)]) rfl ?_
    refine lv_if_eq (tgt := 29) hx hb dX4_order_15 (by decide) (fun b4 => ?_) (fun b4 => ?_)
    · rw [if_pos b4] at hm
      exact w_X4_order_29 F hm hP hS (lv_sub hl [0, 1, 2, 3] rfl)
    · rw [if_neg b4] at hm
      refine lv_iload_n hx hb dX4_order_18 rfl (lv_at hl 3 rfl) ?_
      refine lv_iconst (v := 1) hx hb dX4_order_19 (by decide) ?_
      refine lv_sipush (v := 10000) hx hb dX4_order_20 (by decide) ?_
      obtain ⟨x5_, h5, hm⟩ := ri_inv hm
      refine xSt F (c_X4_in h5) tk_635 tk_633 tk_634 tk_6 rfl 3 (by decide +kernel) rfl ⟨Nat.le_of_ble_eq_true rfl, Nat.le_of_ble_eq_true rfl⟩ hP hS hl.1 rfl (Nat.le_of_ble_eq_true rfl) dX4_order_23 ⟨Nat.le_of_ble_eq_true rfl, Nat.le_of_ble_eq_true rfl⟩ (fun v hv H locs hP hS => ?_) (fun E hE => by cases hE)
      cases hv
      replace hP : va_P (gD G) vwCl (wld G lo σ) H := hP
      refine W.eq (g2 := F0 m 26 ls [.int x5_, .ref (gA G 8)]) rfl ?_
      refine lv_if_ne (tgt := 33) hx hb dX4_order_26 (by decide) (fun b6 => ?_) (fun b6 => ?_)
      · rw [if_neg b6] at hm
        refine lv_aload_n hx hb dX4_order_33 rfl (lv_at hl 0 rfl) ?_
        refine xg F 2 inX4 hP (kd_k kdc_8 (by decide)) (wc4 kdc_8) rfl (by decide) tk_555 rfl rfl dX4_order_34 ?_
        refine lv_bipush (v := 16) hx hb dX4_order_37 (by decide) ?_
        refine lv_icmp_ne (tgt := 46) hx hb dX4_order_39 (by decide) (fun b7 => ?_) (fun b7 => ?_)
        · rw [if_neg b7] at hm
          refine lv_iconst (v := 0) hx hb dX4_order_46 (by decide) ?_
          exact w_X4_order_47 F hm hP hS (lv_sub hl [0, 1, 2, 3] rfl)
        · rw [if_pos b7] at hm
          refine lv_iconst (v := 2) hx hb dX4_order_42 (by decide) ?_
          refine lv_goto (tgt := 47) hx hb dX4_order_43 (by decide) ?_
          exact w_X4_order_47 F hm hP hS (lv_sub hl [0, 1, 2, 3] rfl)
      · rw [if_pos b6] at hm
        exact w_X4_order_29 F hm hP hS (lv_sub hl [0, 1, 2, 3] rfl)
/-! ===== X4_lines ===== -/
def f_X4_lines_4 (σ : St) (x1 : Int32) : Nat → Int32 → Int32 → Option RV
  | 0, _, _ => none
  | n + 1, x2, x3 =>
    if 10 ≤ x3 then
      some (.inl (some (.inl x2)))
    else
      if ((10 * x1) + x3) < 0 ∨ 160 ≤ ((10 * x1) + x3).toNatClampNeg then none
      else
        if (σ 16 ((10 * x1) + x3).toNatClampNeg) ≤ 0 then
          f_X4_lines_4 σ x1 n (x2 + 0) (x3 + 1)
        else
          f_X4_lines_4 σ x1 n (x2 + 1) (x3 + 1)
set_option maxHeartbeats 4000000 in
set_option maxRecDepth 100000 in
theorem w_X4_lines_4 {p : Program} {l : Launch} {e : Env} {s : State} {m : MethodId} {args : Array Value} {below : List Frame} {meth : Method} {c : Code} {G : GT} {lo : Nat → Int64} (F : Fx p l s args m meth c G cX4_lines 4 (some .int) RX4) {σ : St} {x1 : Int32} : ∀ (n : Nat) {x2 : Int32} {x3 : Int32} {r : RV}, f_X4_lines_4 σ x1 n x2 x3 = some r → ∀ {H : Heap} {locs : List Loc}, va_P (gD G) vwCl (wld G lo σ) H → va_S (gF G) s.heap H locs → ∀ {ls : Array Slot}, lv_has ls 4 [(0, .ref (gA G 8)), (1, .int x1), (2, .int x2), (3, .int x3)] → W p l e (RM 0 0 0 0) s m args below meth c H locs 0 0 (vx_MQ below (QCr G lo (r, σ)) (XCr G lo (r, σ)) args s 0 0 (gF G)) (F0 m 4 ls []) := by
  obtain ⟨hx, hb, hrt, hml, hown, hts, hlocks, hC, htab, hst⟩ := id F
  intro n
  induction n with
  | zero =>
    intro x2 x3 r hm
    simp only [f_X4_lines_4] at hm
    cases hm
  | succ n ih =>
    intro x2 x3 r hm H locs hP hS ls hl
    rw [f_X4_lines_4] at hm
    refine lv_iload_n hx hb dX4_lines_4 rfl (lv_at hl 3 rfl) ?_
    refine lv_bipush (v := 10) hx hb dX4_lines_5 (by decide) ?_
    refine lv_icmp_ge (tgt := 38) hx hb dX4_lines_7 (by decide) (fun b1 => ?_) (fun b1 => ?_)
    · rw [if_pos b1] at hm
      refine lv_iload_n hx hb dX4_lines_38 rfl (lv_at hl 2 rfl) ?_
      exact xir F hP hS (congrArg (fun z => (z, σ)) (Option.some.inj hm).symm) (by decide) (by decide) dX4_lines_39
    · rw [if_neg b1] at hm
      refine lv_iload_n hx hb dX4_lines_10 rfl (lv_at hl 2 rfl) ?_
      refine lv_aload_n hx hb dX4_lines_11 rfl (lv_at hl 0 rfl) ?_
      refine xg F 10 inX4 hP (kd_k kdc_8 (by decide)) (wc4 kdc_8) rfl (by decide) tk_563 rfl rfl dX4_lines_12 ?_
      refine lv_bipush (v := 10) hx hb dX4_lines_15 (by decide) ?_
      refine lv_iload_n hx hb dX4_lines_17 rfl (lv_at hl 1 rfl) ?_
      refine lv_imul hx hb dX4_lines_18 ?_
      refine lv_iload_n hx hb dX4_lines_19 rfl (lv_at hl 3 rfl) ?_
      refine lv_iadd hx hb dX4_lines_20 ?_
      by_cases b2 : (((10 * x1) + x3) < 0 ∨ 160 ≤ ((10 * x1) + x3).toNatClampNeg)
      · rw [if_pos b2] at hm
        cases hm
      · rw [if_neg b2] at hm
        refine xil F hP kdc_16 lnc_16 b2 dX4_lines_21 ?_
        refine lv_if_le (tgt := 29) hx hb dX4_lines_22 (by decide) (fun b3 => ?_) (fun b3 => ?_)
        · rw [if_pos b3] at hm
          refine lv_iconst (v := 0) hx hb dX4_lines_29 (by decide) ?_
          refine lv_iadd hx hb dX4_lines_30 ?_
          refine lv_istore_n (lv' := [(2, .int (x2 + 0)), (0, .ref (gA G 8)), (1, .int x1), (3, .int x3)]) hx hb dX4_lines_31 rfl hl (by decide) rfl (fun ls hl => ?_)
          refine lv_iinc (v := (x3 + 1)) (lv' := [(3, .int (x3 + 1)), (2, .int (x2 + 0)), (0, .ref (gA G 8)), (1, .int x1)]) hx hb dX4_lines_32 hl (k := 3) rfl rfl (by decide) rfl (fun ls hl => ?_)
          refine lv_goto (tgt := 4) hx hb dX4_lines_35 (by decide) ?_
          exact ih hm hP hS (lv_sub hl [2, 3, 1, 0] rfl)
        · rw [if_neg b3] at hm
          refine lv_iconst (v := 1) hx hb dX4_lines_25 (by decide) ?_
          refine lv_goto (tgt := 30) hx hb dX4_lines_26 (by decide) ?_
          refine lv_iadd hx hb dX4_lines_30 ?_
          refine lv_istore_n (lv' := [(2, .int (x2 + 1)), (0, .ref (gA G 8)), (1, .int x1), (3, .int x3)]) hx hb dX4_lines_31 rfl hl (by decide) rfl (fun ls hl => ?_)
          refine lv_iinc (v := (x3 + 1)) (lv' := [(3, .int (x3 + 1)), (2, .int (x2 + 1)), (0, .ref (gA G 8)), (1, .int x1)]) hx hb dX4_lines_32 hl (k := 3) rfl rfl (by decide) rfl (fun ls hl => ?_)
          refine lv_goto (tgt := 4) hx hb dX4_lines_35 (by decide) ?_
          exact ih hm hP hS (lv_sub hl [2, 3, 1, 0] rfl)
def f_X4_lines (σ : St) (x1 : Int32) : Option RV :=
  f_X4_lines_4 σ x1 40 0 0
set_option maxHeartbeats 4000000 in
set_option maxRecDepth 100000 in
theorem c_X4_lines {l : Launch} {G : GT} {σ : St} {x1 : Int32} {r : RV} (hm : f_X4_lines σ x1 = some r) : MC l G yX4_lines cX4_lines 4 (some .int) 0 0 0 0 [.inr 8, .inl x1] σ (r, σ) := by
  refine xbody (by decide) (Nat.le_of_ble_eq_true rfl) ?_
  intro lo p e s m args below meth c F hP ls hl
  have F : Fx p l s args m meth c G cX4_lines 4 (some .int) RX4 := F
  obtain ⟨hx, hb, hrt, hml, hown, hts, hlocks, hC, htab, hst⟩ := id F
  have hS : va_S (gF G) s.heap s.heap [] := va_S.rf
  have hl : lv_has ls 4 [(0, .ref (gA G 8)), (1, .int x1)] := hl
  unfold f_X4_lines at hm
  refine lv_iconst (v := 0) hx hb dX4_lines_0 (by decide) ?_
  refine lv_istore_n (lv' := [(2, .int 0), (0, .ref (gA G 8)), (1, .int x1)]) hx hb dX4_lines_1 rfl hl (by decide) rfl (fun ls hl => ?_)
  refine lv_iconst (v := 0) hx hb dX4_lines_2 (by decide) ?_
  refine lv_istore_n (lv' := [(3, .int 0), (2, .int 0), (0, .ref (gA G 8)), (1, .int x1)]) hx hb dX4_lines_3 rfl hl (by decide) rfl (fun ls hl => ?_)
  exact w_X4_lines_4 F 40 hm hP hS (lv_sub hl [2, 3, 1, 0] rfl)
/-! ===== X4_line ===== -/
def f_X4_line_93 (σ : St) (x1 : Int32) (x2 : Int32) (x3 : Int32) : Option (RV × St) :=
  if (σ 8 0) ≤ 0 then
    if ((10 * x1) + x2) < 0 ∨ 160 ≤ ((10 * x1) + x2).toNatClampNeg then none
    else
      ri (f_X4_lines (up2 σ 16 ((10 * x1) + x2).toNatClampNeg x3) x1) (fun x3_ =>
        some (.inl (some (.inl x3_)), (up2 σ 16 ((10 * x1) + x2).toNatClampNeg x3)))
  else
    some (.inl (some (.inl 0)), σ)
set_option maxHeartbeats 4000000 in
set_option maxRecDepth 100000 in
theorem w_X4_line_93 {p : Program} {l : Launch} {e : Env} {s : State} {m : MethodId} {args : Array Value} {below : List Frame} {meth : Method} {c : Code} {G : GT} {lo : Nat → Int64} (F : Fx p l s args m meth c G cX4_line 4 (some .int) RX4) {σ : St} {x1 : Int32} {x2 : Int32} {x3 : Int32} {r : RV × St} (hm : f_X4_line_93 σ x1 x2 x3 = some r) {H : Heap} {locs : List Loc} (hP : va_P (gD G) vwCl (wld G lo σ) H) (hS : va_S (gF G) s.heap H locs) {ls : Array Slot} (hl : lv_has ls 4 [(0, .ref (gA G 8)), (1, .int x1), (2, .int x2), (3, .int x3)]) : W p l e (RM 2 43 0 0) s m args below meth c H locs 0 0 (vx_MQ below (QCr G lo r) (XCr G lo r) args s 0 0 (gF G)) (F0 m 93 ls []) := by
  obtain ⟨hx, hb, hrt, hml, hown, hts, hlocks, hC, htab, hst⟩ := id F
  unfold f_X4_line_93 at hm
  refine lv_aload_n hx hb dX4_line_93 rfl (lv_at hl 0 rfl) ?_
  refine xg F 0 inX4 hP (kd_k kdc_8 (by decide)) (wc4 kdc_8) rfl (by decide) tk_553 rfl rfl dX4_line_94 ?_
  refine lv_if_le (tgt := 102) hx hb dX4_line_97 (by decide) (fun b1 => ?_) (fun b1 => ?_)
  · rw [if_pos b1] at hm
    refine lv_aload_n hx hb dX4_line_102 rfl (lv_at hl 0 rfl) ?_
    refine xg F 10 inX4 hP (kd_k kdc_8 (by decide)) (wc4 kdc_8) rfl (by decide) tk_563 rfl rfl dX4_line_103 ?_
    refine lv_bipush (v := 10) hx hb dX4_line_106 (by decide) ?_
    refine lv_iload_n hx hb dX4_line_108 rfl (lv_at hl 1 rfl) ?_
    refine lv_imul hx hb dX4_line_109 ?_
    refine lv_iload_n hx hb dX4_line_110 rfl (lv_at hl 2 rfl) ?_
    refine lv_iadd hx hb dX4_line_111 ?_
    refine lv_iload_n hx hb dX4_line_112 rfl (lv_at hl 3 rfl) ?_
    by_cases b2 : (((10 * x1) + x2) < 0 ∨ 160 ≤ ((10 * x1) + x2).toNatClampNeg)
    · rw [if_pos b2] at hm
      cases hm
    · rw [if_neg b2] at hm
      refine xis F (v := x3) hP hS kdc_16 lnc_16 b2 dX4_line_113 (fun H locs hP hS => ?_)
      refine lv_aload_n hx hb dX4_line_114 rfl (lv_at hl 0 rfl) ?_
      refine lv_iload_n hx hb dX4_line_115 rfl (lv_at hl 1 rfl) ?_
      obtain ⟨x3_, h3, hm⟩ := ri_inv hm
      refine xV F (c_X4_lines h3) tk_647 tk_644 tk_646 tu_35 tk_6 rfl 1 (by decide +kernel) rfl ⟨Nat.le_of_ble_eq_true rfl, Nat.le_of_ble_eq_true rfl⟩ hP hS (kd_k kdc_8 (by decide)) (wc4 kdc_8) rfl hl.1 rfl (Nat.le_of_ble_eq_true rfl) dX4_line_116 ⟨Nat.le_of_ble_eq_true rfl, Nat.le_of_ble_eq_true rfl⟩ (fun v hv H locs hP hS => ?_) (fun E hE => by cases hE)
      cases hv
      replace hP : va_P (gD G) vwCl (wld G lo (up2 σ 16 ((10 * x1) + x2).toNatClampNeg x3)) H := hP
      refine W.eq (g2 := F0 m 119 ls [.int x3_]) rfl ?_
      exact xir F hP hS (Option.some.inj hm).symm (by decide) (by decide) dX4_line_119
  · rw [if_neg b1] at hm
    refine lv_iconst (v := 0) hx hb dX4_line_100 (by decide) ?_
    exact xir F hP hS (Option.some.inj hm).symm (by decide) (by decide) dX4_line_101
def f_X4_line_90 (σ : St) (x1 : Int32) (x2 : Int32) (x3 : Int32) (s1 : Int32) : Option (RV × St) :=
  f_X4_line_93 (up2 σ 8 0 s1) x1 x2 x3
set_option maxHeartbeats 4000000 in
set_option maxRecDepth 100000 in
theorem w_X4_line_90 {p : Program} {l : Launch} {e : Env} {s : State} {m : MethodId} {args : Array Value} {below : List Frame} {meth : Method} {c : Code} {G : GT} {lo : Nat → Int64} (F : Fx p l s args m meth c G cX4_line 4 (some .int) RX4) {σ : St} {x1 : Int32} {x2 : Int32} {x3 : Int32} {s1 : Int32} {r : RV × St} (hm : f_X4_line_90 σ x1 x2 x3 s1 = some r) {H : Heap} {locs : List Loc} (hP : va_P (gD G) vwCl (wld G lo σ) H) (hS : va_S (gF G) s.heap H locs) {ls : Array Slot} (hl : lv_has ls 4 [(0, .ref (gA G 8)), (1, .int x1), (2, .int x2), (3, .int x3)]) : W p l e (RM 2 43 0 0) s m args below meth c H locs 0 0 (vx_MQ below (QCr G lo r) (XCr G lo r) args s 0 0 (gF G)) (F0 m 90 ls [.int s1, .ref (gA G 8)]) := by
  obtain ⟨hx, hb, hrt, hml, hown, hts, hlocks, hC, htab, hst⟩ := id F
  unfold f_X4_line_90 at hm
  refine xp F (v := s1) (ty := .int) 0 inX4 tyX4_ok nmX4 hP hS (kd_k kdc_8 (by decide)) (wc4 kdc_8) (wu4_0 kdc_8) rfl (by decide) tk_553 rfl rfl rfl rfl rfl (Nat.le_of_ble_eq_true rfl) dX4_line_90 (fun H locs hP hS => ?_)
  exact w_X4_line_93 F hm hP hS (lv_sub hl [0, 1, 2, 3] rfl)
def f_X4_line_72 (σ : St) (x1 : Int32) (x2 : Int32) (x3 : Int32) : Option (RV × St) :=
  f_X4_line_90 σ x1 x2 x3 3
set_option maxHeartbeats 4000000 in
set_option maxRecDepth 100000 in
theorem w_X4_line_72 {p : Program} {l : Launch} {e : Env} {s : State} {m : MethodId} {args : Array Value} {below : List Frame} {meth : Method} {c : Code} {G : GT} {lo : Nat → Int64} (F : Fx p l s args m meth c G cX4_line 4 (some .int) RX4) {σ : St} {x1 : Int32} {x2 : Int32} {x3 : Int32} {r : RV × St} (hm : f_X4_line_72 σ x1 x2 x3 = some r) {H : Heap} {locs : List Loc} (hP : va_P (gD G) vwCl (wld G lo σ) H) (hS : va_S (gF G) s.heap H locs) {ls : Array Slot} (hl : lv_has ls 4 [(0, .ref (gA G 8)), (1, .int x1), (2, .int x2), (3, .int x3)]) : W p l e (RM 2 43 0 0) s m args below meth c H locs 0 0 (vx_MQ below (QCr G lo r) (XCr G lo r) args s 0 0 (gF G)) (F0 m 72 ls [.ref (gA G 8)]) := by
  obtain ⟨hx, hb, hrt, hml, hown, hts, hlocks, hC, htab, hst⟩ := id F
  unfold f_X4_line_72 at hm
  refine lv_iconst (v := 3) hx hb dX4_line_72 (by decide) ?_
  refine lv_goto (tgt := 90) hx hb dX4_line_73 (by decide) ?_
  exact w_X4_line_90 F hm hP hS (lv_sub hl [0, 1, 2, 3] rfl)
def f_X4_line_38 (σ : St) (x1 : Int32) (x2 : Int32) (x3 : Int32) (s1 : Int32) : Option (RV × St) :=
  if ((up2 σ 8 0 s1) 8 0) = 0 then
    if x1 < 0 ∨ 16 ≤ x1.toNatClampNeg then none
    else
      if ((up2 σ 8 0 s1) 13 x1.toNatClampNeg) = 0 then
        if ((10 * x1) + x2) < 0 ∨ 160 ≤ ((10 * x1) + x2).toNatClampNeg then none
        else
          if ((up2 σ 8 0 s1) 16 ((10 * x1) + x2).toNatClampNeg) ≤ 0 then
            ri (f_X4_lines (up2 σ 8 0 s1) x1) (fun x6_ =>
              if x6_ = 4 then
                f_X4_line_90 (up2 σ 8 0 s1) x1 x2 x3 4
              else
                f_X4_line_90 (up2 σ 8 0 s1) x1 x2 x3 0)
          else
            f_X4_line_72 (up2 σ 8 0 s1) x1 x2 x3
      else
        f_X4_line_72 (up2 σ 8 0 s1) x1 x2 x3
  else
    f_X4_line_93 (up2 σ 8 0 s1) x1 x2 x3
set_option maxHeartbeats 4000000 in
set_option maxRecDepth 100000 in
theorem w_X4_line_38 {p : Program} {l : Launch} {e : Env} {s : State} {m : MethodId} {args : Array Value} {below : List Frame} {meth : Method} {c : Code} {G : GT} {lo : Nat → Int64} (F : Fx p l s args m meth c G cX4_line 4 (some .int) RX4) {σ : St} {x1 : Int32} {x2 : Int32} {x3 : Int32} {s1 : Int32} {r : RV × St} (hm : f_X4_line_38 σ x1 x2 x3 s1 = some r) {H : Heap} {locs : List Loc} (hP : va_P (gD G) vwCl (wld G lo σ) H) (hS : va_S (gF G) s.heap H locs) {ls : Array Slot} (hl : lv_has ls 4 [(0, .ref (gA G 8)), (1, .int x1), (2, .int x2), (3, .int x3)]) : W p l e (RM 2 43 0 0) s m args below meth c H locs 0 0 (vx_MQ below (QCr G lo r) (XCr G lo r) args s 0 0 (gF G)) (F0 m 38 ls [.int s1, .ref (gA G 8)]) := by
  obtain ⟨hx, hb, hrt, hml, hown, hts, hlocks, hC, htab, hst⟩ := id F
  unfold f_X4_line_38 at hm
  refine xp F (v := s1) (ty := .int) 0 inX4 tyX4_ok nmX4 hP hS (kd_k kdc_8 (by decide)) (wc4 kdc_8) (wu4_0 kdc_8) rfl (by decide) tk_553 rfl rfl rfl rfl rfl (Nat.le_of_ble_eq_true rfl) dX4_line_38 (fun H locs hP hS => ?_)
  refine lv_aload_n hx hb dX4_line_41 rfl (lv_at hl 0 rfl) ?_
  refine xg F 0 inX4 hP (kd_k kdc_8 (by decide)) (wc4 kdc_8) rfl (by decide) tk_553 rfl rfl dX4_line_42 ?_
  refine lv_if_ne (tgt := 93) hx hb dX4_line_45 (by decide) (fun b1 => ?_) (fun b1 => ?_)
  · rw [if_neg b1] at hm
    exact w_X4_line_93 F hm hP hS (lv_sub hl [0, 1, 2, 3] rfl)
  · rw [if_pos b1] at hm
    refine lv_aload_n hx hb dX4_line_48 rfl (lv_at hl 0 rfl) ?_
    refine lv_aload_n hx hb dX4_line_49 rfl (lv_at hl 0 rfl) ?_
    refine xg F 7 inX4 hP (kd_k kdc_8 (by decide)) (wc4 kdc_8) rfl (by decide) tk_560 rfl rfl dX4_line_50 ?_
    refine lv_iload_n hx hb dX4_line_53 rfl (lv_at hl 1 rfl) ?_
    by_cases b2 : (x1 < 0 ∨ 16 ≤ x1.toNatClampNeg)
    · rw [if_pos b2] at hm
      cases hm
    · rw [if_neg b2] at hm
      refine xil F hP kdc_13 lnc_13 b2 dX4_line_54 ?_
      refine lv_if_ne (tgt := 72) hx hb dX4_line_55 (by decide) (fun b3 => ?_) (fun b3 => ?_)
      · rw [if_neg b3] at hm
        exact w_X4_line_72 F hm hP hS (lv_sub hl [0, 1, 2, 3] rfl)
      · rw [if_pos b3] at hm
        refine lv_aload_n hx hb dX4_line_58 rfl (lv_at hl 0 rfl) ?_
        refine xg F 10 inX4 hP (kd_k kdc_8 (by decide)) (wc4 kdc_8) rfl (by decide) tk_563 rfl rfl dX4_line_59 ?_
        refine lv_bipush (v := 10) hx hb dX4_line_62 (by decide) ?_
        refine lv_iload_n hx hb dX4_line_64 rfl (lv_at hl 1 rfl) ?_
        refine lv_imul hx hb dX4_line_65 ?_
        refine lv_iload_n hx hb dX4_line_66 rfl (lv_at hl 2 rfl) ?_
        refine lv_iadd hx hb dX4_line_67 ?_
        by_cases b4 : (((10 * x1) + x2) < 0 ∨ 160 ≤ ((10 * x1) + x2).toNatClampNeg)
        · rw [if_pos b4] at hm
          cases hm
        · rw [if_neg b4] at hm
          refine xil F hP kdc_16 lnc_16 b4 dX4_line_68 ?_
          refine lv_if_le (tgt := 76) hx hb dX4_line_69 (by decide) (fun b5 => ?_) (fun b5 => ?_)
          · rw [if_pos b5] at hm
            refine lv_aload_n hx hb dX4_line_76 rfl (lv_at hl 0 rfl) ?_
            refine lv_iload_n hx hb dX4_line_77 rfl (lv_at hl 1 rfl) ?_
            obtain ⟨x6_, h6, hm⟩ := ri_inv hm
            refine xV F (c_X4_lines h6) tk_647 tk_644 tk_646 tu_35 tk_6 rfl 1 (by decide +kernel) rfl ⟨Nat.le_of_ble_eq_true rfl, Nat.le_of_ble_eq_true rfl⟩ hP hS (kd_k kdc_8 (by decide)) (wc4 kdc_8) rfl hl.1 rfl (Nat.le_of_ble_eq_true rfl) dX4_line_78 ⟨Nat.le_of_ble_eq_true rfl, Nat.le_of_ble_eq_true rfl⟩ (fun v hv H locs hP hS => ?_) (fun E hE => by cases hE)
            cases hv
            replace hP : va_P (gD G) vwCl (wld G lo (up2 σ 8 0 s1)) H := hP
            refine W.eq (g2 := F0 m 81 ls [.int x6_, .ref (gA G 8)]) rfl ?_
            refine lv_iconst (v := 4) hx hb dX4_line_81 (by decide) ?_
            refine lv_icmp_ne (tgt := 89) hx hb dX4_line_82 (by decide) (fun b7 => ?_) (fun b7 => ?_)
            · rw [if_neg b7] at hm
              refine lv_iconst (v := 0) hx hb dX4_line_89 (by decide) ?_
              exact w_X4_line_90 F hm hP hS (lv_sub hl [0, 1, 2, 3] rfl)
            · rw [if_pos b7] at hm
              refine lv_iconst (v := 4) hx hb dX4_line_85 (by decide) ?_
              refine lv_goto (tgt := 90) hx hb dX4_line_86 (by decide) ?_
              exact w_X4_line_90 F hm hP hS (lv_sub hl [0, 1, 2, 3] rfl)
          · rw [if_neg b5] at hm
            exact w_X4_line_72 F hm hP hS (lv_sub hl [0, 1, 2, 3] rfl)
def f_X4_line_33 (σ : St) (x1 : Int32) (x2 : Int32) (x3 : Int32) : Option (RV × St) :=
  f_X4_line_38 σ x1 x2 x3 2
set_option maxHeartbeats 4000000 in
set_option maxRecDepth 100000 in
theorem w_X4_line_33 {p : Program} {l : Launch} {e : Env} {s : State} {m : MethodId} {args : Array Value} {below : List Frame} {meth : Method} {c : Code} {G : GT} {lo : Nat → Int64} (F : Fx p l s args m meth c G cX4_line 4 (some .int) RX4) {σ : St} {x1 : Int32} {x2 : Int32} {x3 : Int32} {r : RV × St} (hm : f_X4_line_33 σ x1 x2 x3 = some r) {H : Heap} {locs : List Loc} (hP : va_P (gD G) vwCl (wld G lo σ) H) (hS : va_S (gF G) s.heap H locs) {ls : Array Slot} (hl : lv_has ls 4 [(0, .ref (gA G 8)), (1, .int x1), (2, .int x2), (3, .int x3)]) : W p l e (RM 2 43 0 0) s m args below meth c H locs 0 0 (vx_MQ below (QCr G lo r) (XCr G lo r) args s 0 0 (gF G)) (F0 m 33 ls [.ref (gA G 8)]) := by
  obtain ⟨hx, hb, hrt, hml, hown, hts, hlocks, hC, htab, hst⟩ := id F
  unfold f_X4_line_33 at hm
  refine lv_iconst (v := 2) hx hb dX4_line_33 (by decide) ?_
  refine lv_goto (tgt := 38) hx hb dX4_line_34 (by decide) ?_
  exact w_X4_line_38 F hm hP hS (lv_sub hl [0, 1, 2, 3] rfl)
def f_X4_line (σ : St) (x1 : Int32) (x2 : Int32) (x3 : Int32) : Option (RV × St) :=
  ri (f_X4_isOrder σ x1) (fun x1_ =>
    if x1_ = 0 then
      f_X4_line_38 σ x1 x2 x3 1
    else
      ri (f_X4_in σ x2 0 9) (fun x3_ =>
        if x3_ = 0 then
          f_X4_line_33 σ x1 x2 x3
        else
          ri (f_X4_in σ x3 1 100) (fun x5_ =>
            if x5_ = 0 then
              f_X4_line_33 σ x1 x2 x3
            else
              f_X4_line_38 σ x1 x2 x3 0)))
set_option maxHeartbeats 4000000 in
set_option maxRecDepth 100000 in
theorem c_X4_line {l : Launch} {G : GT} {σ : St} {x1 : Int32} {x2 : Int32} {x3 : Int32} {r : RV × St} (hm : f_X4_line σ x1 x2 x3 = some r) : MC l G yX4_line cX4_line 4 (some .int) 2 43 0 0 [.inr 8, .inl x1, .inl x2, .inl x3] σ r := by
  refine xbody (by decide) (Nat.le_of_ble_eq_true rfl) ?_
  intro lo p e s m args below meth c F hP ls hl
  have F : Fx p l s args m meth c G cX4_line 4 (some .int) RX4 := F
  obtain ⟨hx, hb, hrt, hml, hown, hts, hlocks, hC, htab, hst⟩ := id F
  have hS : va_S (gF G) s.heap s.heap [] := va_S.rf
  have hl : lv_has ls 4 [(0, .ref (gA G 8)), (1, .int x1), (2, .int x2), (3, .int x3)] := hl
  unfold f_X4_line at hm
  refine lv_aload_n hx hb dX4_line_0 rfl (lv_at hl 0 rfl) ?_
  refine lv_aload_n hx hb dX4_line_1 rfl (lv_at hl 0 rfl) ?_
  refine lv_iload_n hx hb dX4_line_2 rfl (lv_at hl 1 rfl) ?_
  obtain ⟨x1_, h1, hm⟩ := ri_inv hm
  refine xV F (c_X4_isOrder h1) tk_643 tk_640 tk_642 tu_34 tk_6 rfl 1 (by decide +kernel) rfl ⟨Nat.le_of_ble_eq_true rfl, Nat.le_of_ble_eq_true rfl⟩ hP hS (kd_k kdc_8 (by decide)) (wc4 kdc_8) rfl hl.1 rfl (Nat.le_of_ble_eq_true rfl) dX4_line_3 ⟨Nat.le_of_ble_eq_true rfl, Nat.le_of_ble_eq_true rfl⟩ (fun v hv H locs hP hS => ?_) (fun E hE => by cases hE)
  cases hv
  replace hP : va_P (gD G) vwCl (wld G lo σ) H := hP
  refine W.eq (g2 := F0 m 6 ls [.int x1_, .ref (gA G 8)]) rfl ?_
  refine lv_if_ne (tgt := 13) hx hb dX4_line_6 (by decide) (fun b2 => ?_) (fun b2 => ?_)
  · rw [if_neg b2] at hm
    refine lv_iload_n hx hb dX4_line_13 rfl (lv_at hl 2 rfl) ?_
    refine lv_iconst (v := 0) hx hb dX4_line_14 (by decide) ?_
    refine lv_bipush (v := 9) hx hb dX4_line_15 (by decide) ?_
    obtain ⟨x3_, h3, hm⟩ := ri_inv hm
    refine xSt F (c_X4_in h3) tk_635 tk_633 tk_634 tk_6 rfl 3 (by decide +kernel) rfl ⟨Nat.le_of_ble_eq_true rfl, Nat.le_of_ble_eq_true rfl⟩ hP hS hl.1 rfl (Nat.le_of_ble_eq_true rfl) dX4_line_17 ⟨Nat.le_of_ble_eq_true rfl, Nat.le_of_ble_eq_true rfl⟩ (fun v hv H locs hP hS => ?_) (fun E hE => by cases hE)
    cases hv
    replace hP : va_P (gD G) vwCl (wld G lo σ) H := hP
    refine W.eq (g2 := F0 m 20 ls [.int x3_, .ref (gA G 8)]) rfl ?_
    refine lv_if_eq (tgt := 33) hx hb dX4_line_20 (by decide) (fun b4 => ?_) (fun b4 => ?_)
    · rw [if_pos b4] at hm
      exact w_X4_line_33 F hm hP hS (lv_sub hl [0, 1, 2, 3] rfl)
    · rw [if_neg b4] at hm
      refine lv_iload_n hx hb dX4_line_23 rfl (lv_at hl 3 rfl) ?_
      refine lv_iconst (v := 1) hx hb dX4_line_24 (by decide) ?_
      refine lv_bipush (v := 100) hx hb dX4_line_25 (by decide) ?_
      obtain ⟨x5_, h5, hm⟩ := ri_inv hm
      refine xSt F (c_X4_in h5) tk_635 tk_633 tk_634 tk_6 rfl 3 (by decide +kernel) rfl ⟨Nat.le_of_ble_eq_true rfl, Nat.le_of_ble_eq_true rfl⟩ hP hS hl.1 rfl (Nat.le_of_ble_eq_true rfl) dX4_line_27 ⟨Nat.le_of_ble_eq_true rfl, Nat.le_of_ble_eq_true rfl⟩ (fun v hv H locs hP hS => ?_) (fun E hE => by cases hE)
      cases hv
      replace hP : va_P (gD G) vwCl (wld G lo σ) H := hP
      refine W.eq (g2 := F0 m 30 ls [.int x5_, .ref (gA G 8)]) rfl ?_
      refine lv_if_ne (tgt := 37) hx hb dX4_line_30 (by decide) (fun b6 => ?_) (fun b6 => ?_)
      · rw [if_neg b6] at hm
        refine lv_iconst (v := 0) hx hb dX4_line_37 (by decide) ?_
        exact w_X4_line_38 F hm hP hS (lv_sub hl [0, 1, 2, 3] rfl)
      · rw [if_pos b6] at hm
        exact w_X4_line_33 F hm hP hS (lv_sub hl [0, 1, 2, 3] rfl)
  · rw [if_pos b2] at hm
    refine lv_iconst (v := 1) hx hb dX4_line_9 (by decide) ?_
    refine lv_goto (tgt := 38) hx hb dX4_line_10 (by decide) ?_
    exact w_X4_line_38 F hm hP hS (lv_sub hl [0, 1, 2, 3] rfl)
/-! ===== X4_carrier ===== -/
def f_X4_carrier_52 (σ : St) (x1 : Int32) (x2 : Int32) (s1 : Int32) : Option (RV × St) :=
  if ((up2 σ 8 0 s1) 8 0) = 0 then
    if x1 < 0 ∨ 16 ≤ x1.toNatClampNeg then none
    else
      some (.inl none, (up2 (up2 σ 8 0 s1) 12 x1.toNatClampNeg x2))
  else
    some (.inl none, (up2 σ 8 0 s1))
set_option maxHeartbeats 4000000 in
set_option maxRecDepth 100000 in
theorem w_X4_carrier_52 {p : Program} {l : Launch} {e : Env} {s : State} {m : MethodId} {args : Array Value} {below : List Frame} {meth : Method} {c : Code} {G : GT} {lo : Nat → Int64} (F : Fx p l s args m meth c G cX4_carrier 3 none RX4) {σ : St} {x1 : Int32} {x2 : Int32} {s1 : Int32} {r : RV × St} (hm : f_X4_carrier_52 σ x1 x2 s1 = some r) {H : Heap} {locs : List Loc} (hP : va_P (gD G) vwCl (wld G lo σ) H) (hS : va_S (gF G) s.heap H locs) {ls : Array Slot} (hl : lv_has ls 3 [(0, .ref (gA G 8)), (1, .int x1), (2, .int x2)]) : W p l e (RM 2 43 0 0) s m args below meth c H locs 0 0 (vx_MQ below (QCr G lo r) (XCr G lo r) args s 0 0 (gF G)) (F0 m 52 ls [.int s1, .ref (gA G 8)]) := by
  obtain ⟨hx, hb, hrt, hml, hown, hts, hlocks, hC, htab, hst⟩ := id F
  unfold f_X4_carrier_52 at hm
  refine xp F (v := s1) (ty := .int) 0 inX4 tyX4_ok nmX4 hP hS (kd_k kdc_8 (by decide)) (wc4 kdc_8) (wu4_0 kdc_8) rfl (by decide) tk_553 rfl rfl rfl rfl rfl (Nat.le_of_ble_eq_true rfl) dX4_carrier_52 (fun H locs hP hS => ?_)
  refine lv_aload_n hx hb dX4_carrier_55 rfl (lv_at hl 0 rfl) ?_
  refine xg F 0 inX4 hP (kd_k kdc_8 (by decide)) (wc4 kdc_8) rfl (by decide) tk_553 rfl rfl dX4_carrier_56 ?_
  refine lv_if_ne (tgt := 69) hx hb dX4_carrier_59 (by decide) (fun b1 => ?_) (fun b1 => ?_)
  · rw [if_neg b1] at hm
    exact xvr F hP hS (Option.some.inj hm).symm (by decide) (by decide) dX4_carrier_69
  · rw [if_pos b1] at hm
    refine lv_aload_n hx hb dX4_carrier_62 rfl (lv_at hl 0 rfl) ?_
    refine xg F 6 inX4 hP (kd_k kdc_8 (by decide)) (wc4 kdc_8) rfl (by decide) tk_559 rfl rfl dX4_carrier_63 ?_
    refine lv_iload_n hx hb dX4_carrier_66 rfl (lv_at hl 1 rfl) ?_
    refine lv_iload_n hx hb dX4_carrier_67 rfl (lv_at hl 2 rfl) ?_
    by_cases b2 : (x1 < 0 ∨ 16 ≤ x1.toNatClampNeg)
    · rw [if_pos b2] at hm
      cases hm
    · rw [if_neg b2] at hm
      refine xis F (v := x2) hP hS kdc_12 lnc_12 b2 dX4_carrier_68 (fun H locs hP hS => ?_)
      exact xvr F hP hS (Option.some.inj hm).symm (by decide) (by decide) dX4_carrier_69
def f_X4_carrier_27 (σ : St) (x1 : Int32) (x2 : Int32) (s1 : Int32) : Option (RV × St) :=
  if ((up2 σ 8 0 s1) 8 0) = 0 then
    if x1 < 0 ∨ 16 ≤ x1.toNatClampNeg then none
    else
      if ((up2 σ 8 0 s1) 13 x1.toNatClampNeg) = 0 then
        f_X4_carrier_52 (up2 σ 8 0 s1) x1 x2 0
      else
        f_X4_carrier_52 (up2 σ 8 0 s1) x1 x2 3
  else
    if ((up2 σ 8 0 s1) 8 0) = 0 then
      if x1 < 0 ∨ 16 ≤ x1.toNatClampNeg then none
      else
        some (.inl none, (up2 (up2 σ 8 0 s1) 12 x1.toNatClampNeg x2))
    else
      some (.inl none, (up2 σ 8 0 s1))
set_option maxHeartbeats 4000000 in
set_option maxRecDepth 100000 in
theorem w_X4_carrier_27 {p : Program} {l : Launch} {e : Env} {s : State} {m : MethodId} {args : Array Value} {below : List Frame} {meth : Method} {c : Code} {G : GT} {lo : Nat → Int64} (F : Fx p l s args m meth c G cX4_carrier 3 none RX4) {σ : St} {x1 : Int32} {x2 : Int32} {s1 : Int32} {r : RV × St} (hm : f_X4_carrier_27 σ x1 x2 s1 = some r) {H : Heap} {locs : List Loc} (hP : va_P (gD G) vwCl (wld G lo σ) H) (hS : va_S (gF G) s.heap H locs) {ls : Array Slot} (hl : lv_has ls 3 [(0, .ref (gA G 8)), (1, .int x1), (2, .int x2)]) : W p l e (RM 2 43 0 0) s m args below meth c H locs 0 0 (vx_MQ below (QCr G lo r) (XCr G lo r) args s 0 0 (gF G)) (F0 m 27 ls [.int s1, .ref (gA G 8)]) := by
  obtain ⟨hx, hb, hrt, hml, hown, hts, hlocks, hC, htab, hst⟩ := id F
  unfold f_X4_carrier_27 at hm
  refine xp F (v := s1) (ty := .int) 0 inX4 tyX4_ok nmX4 hP hS (kd_k kdc_8 (by decide)) (wc4 kdc_8) (wu4_0 kdc_8) rfl (by decide) tk_553 rfl rfl rfl rfl rfl (Nat.le_of_ble_eq_true rfl) dX4_carrier_27 (fun H locs hP hS => ?_)
  refine lv_aload_n hx hb dX4_carrier_30 rfl (lv_at hl 0 rfl) ?_
  refine xg F 0 inX4 hP (kd_k kdc_8 (by decide)) (wc4 kdc_8) rfl (by decide) tk_553 rfl rfl dX4_carrier_31 ?_
  refine lv_if_ne (tgt := 55) hx hb dX4_carrier_34 (by decide) (fun b1 => ?_) (fun b1 => ?_)
  · rw [if_neg b1] at hm
    refine lv_aload_n hx hb dX4_carrier_55 rfl (lv_at hl 0 rfl) ?_
    refine xg F 0 inX4 hP (kd_k kdc_8 (by decide)) (wc4 kdc_8) rfl (by decide) tk_553 rfl rfl dX4_carrier_56 ?_
    refine lv_if_ne (tgt := 69) hx hb dX4_carrier_59 (by decide) (fun b2 => ?_) (fun b2 => ?_)
    · rw [if_neg b2] at hm
      exact xvr F hP hS (Option.some.inj hm).symm (by decide) (by decide) dX4_carrier_69
    · rw [if_pos b2] at hm
      refine lv_aload_n hx hb dX4_carrier_62 rfl (lv_at hl 0 rfl) ?_
      refine xg F 6 inX4 hP (kd_k kdc_8 (by decide)) (wc4 kdc_8) rfl (by decide) tk_559 rfl rfl dX4_carrier_63 ?_
      refine lv_iload_n hx hb dX4_carrier_66 rfl (lv_at hl 1 rfl) ?_
      refine lv_iload_n hx hb dX4_carrier_67 rfl (lv_at hl 2 rfl) ?_
      by_cases b3 : (x1 < 0 ∨ 16 ≤ x1.toNatClampNeg)
      · rw [if_pos b3] at hm
        cases hm
      · rw [if_neg b3] at hm
        refine xis F (v := x2) hP hS kdc_12 lnc_12 b3 dX4_carrier_68 (fun H locs hP hS => ?_)
        exact xvr F hP hS (Option.some.inj hm).symm (by decide) (by decide) dX4_carrier_69
  · rw [if_pos b1] at hm
    refine lv_aload_n hx hb dX4_carrier_37 rfl (lv_at hl 0 rfl) ?_
    refine lv_aload_n hx hb dX4_carrier_38 rfl (lv_at hl 0 rfl) ?_
    refine xg F 7 inX4 hP (kd_k kdc_8 (by decide)) (wc4 kdc_8) rfl (by decide) tk_560 rfl rfl dX4_carrier_39 ?_
    refine lv_iload_n hx hb dX4_carrier_42 rfl (lv_at hl 1 rfl) ?_
    by_cases b4 : (x1 < 0 ∨ 16 ≤ x1.toNatClampNeg)
    · rw [if_pos b4] at hm
      cases hm
    · rw [if_neg b4] at hm
      refine xil F hP kdc_13 lnc_13 b4 dX4_carrier_43 ?_
      refine lv_if_eq (tgt := 51) hx hb dX4_carrier_44 (by decide) (fun b5 => ?_) (fun b5 => ?_)
      · rw [if_pos b5] at hm
        refine lv_iconst (v := 0) hx hb dX4_carrier_51 (by decide) ?_
        exact w_X4_carrier_52 F hm hP hS (lv_sub hl [0, 1, 2] rfl)
      · rw [if_neg b5] at hm
        refine lv_iconst (v := 3) hx hb dX4_carrier_47 (by decide) ?_
        refine lv_goto (tgt := 52) hx hb dX4_carrier_48 (by decide) ?_
        exact w_X4_carrier_52 F hm hP hS (lv_sub hl [0, 1, 2] rfl)
def f_X4_carrier (σ : St) (x1 : Int32) (x2 : Int32) : Option (RV × St) :=
  ri (f_X4_isOrder σ x1) (fun x1_ =>
    if x1_ = 0 then
      f_X4_carrier_27 σ x1 x2 1
    else
      ri (f_X4_in σ x2 0 3) (fun x3_ =>
        if x3_ = 0 then
          f_X4_carrier_27 σ x1 x2 2
        else
          f_X4_carrier_27 σ x1 x2 0))
set_option maxHeartbeats 4000000 in
set_option maxRecDepth 100000 in
theorem c_X4_carrier {l : Launch} {G : GT} {σ : St} {x1 : Int32} {x2 : Int32} {r : RV × St} (hm : f_X4_carrier σ x1 x2 = some r) : MC l G yX4_carrier cX4_carrier 3 none 2 43 0 0 [.inr 8, .inl x1, .inl x2] σ r := by
  refine xbody (by decide) (Nat.le_of_ble_eq_true rfl) ?_
  intro lo p e s m args below meth c F hP ls hl
  have F : Fx p l s args m meth c G cX4_carrier 3 none RX4 := F
  obtain ⟨hx, hb, hrt, hml, hown, hts, hlocks, hC, htab, hst⟩ := id F
  have hS : va_S (gF G) s.heap s.heap [] := va_S.rf
  have hl : lv_has ls 3 [(0, .ref (gA G 8)), (1, .int x1), (2, .int x2)] := hl
  unfold f_X4_carrier at hm
  refine lv_aload_n hx hb dX4_carrier_0 rfl (lv_at hl 0 rfl) ?_
  refine lv_aload_n hx hb dX4_carrier_1 rfl (lv_at hl 0 rfl) ?_
  refine lv_iload_n hx hb dX4_carrier_2 rfl (lv_at hl 1 rfl) ?_
  obtain ⟨x1_, h1, hm⟩ := ri_inv hm
  refine xV F (c_X4_isOrder h1) tk_643 tk_640 tk_642 tu_34 tk_6 rfl 1 (by decide +kernel) rfl ⟨Nat.le_of_ble_eq_true rfl, Nat.le_of_ble_eq_true rfl⟩ hP hS (kd_k kdc_8 (by decide)) (wc4 kdc_8) rfl hl.1 rfl (Nat.le_of_ble_eq_true rfl) dX4_carrier_3 ⟨Nat.le_of_ble_eq_true rfl, Nat.le_of_ble_eq_true rfl⟩ (fun v hv H locs hP hS => ?_) (fun E hE => by cases hE)
  cases hv
  replace hP : va_P (gD G) vwCl (wld G lo σ) H := hP
  refine W.eq (g2 := F0 m 6 ls [.int x1_, .ref (gA G 8)]) rfl ?_
  refine lv_if_ne (tgt := 13) hx hb dX4_carrier_6 (by decide) (fun b2 => ?_) (fun b2 => ?_)
  · rw [if_neg b2] at hm
    refine lv_iload_n hx hb dX4_carrier_13 rfl (lv_at hl 2 rfl) ?_
    refine lv_iconst (v := 0) hx hb dX4_carrier_14 (by decide) ?_
    refine lv_iconst (v := 3) hx hb dX4_carrier_15 (by decide) ?_
    obtain ⟨x3_, h3, hm⟩ := ri_inv hm
    refine xSt F (c_X4_in h3) tk_635 tk_633 tk_634 tk_6 rfl 3 (by decide +kernel) rfl ⟨Nat.le_of_ble_eq_true rfl, Nat.le_of_ble_eq_true rfl⟩ hP hS hl.1 rfl (Nat.le_of_ble_eq_true rfl) dX4_carrier_16 ⟨Nat.le_of_ble_eq_true rfl, Nat.le_of_ble_eq_true rfl⟩ (fun v hv H locs hP hS => ?_) (fun E hE => by cases hE)
    cases hv
    replace hP : va_P (gD G) vwCl (wld G lo σ) H := hP
    refine W.eq (g2 := F0 m 19 ls [.int x3_, .ref (gA G 8)]) rfl ?_
    refine lv_if_ne (tgt := 26) hx hb dX4_carrier_19 (by decide) (fun b4 => ?_) (fun b4 => ?_)
    · rw [if_neg b4] at hm
      refine lv_iconst (v := 0) hx hb dX4_carrier_26 (by decide) ?_
      exact w_X4_carrier_27 F hm hP hS (lv_sub hl [0, 1, 2] rfl)
    · rw [if_pos b4] at hm
      refine lv_iconst (v := 2) hx hb dX4_carrier_22 (by decide) ?_
      refine lv_goto (tgt := 27) hx hb dX4_carrier_23 (by decide) ?_
      exact w_X4_carrier_27 F hm hP hS (lv_sub hl [0, 1, 2] rfl)
  · rw [if_pos b2] at hm
    refine lv_iconst (v := 1) hx hb dX4_carrier_9 (by decide) ?_
    refine lv_goto (tgt := 27) hx hb dX4_carrier_10 (by decide) ?_
    exact w_X4_carrier_27 F hm hP hS (lv_sub hl [0, 1, 2] rfl)
/-! ===== X4_hour ===== -/
def f_X4_hour_105 (σ : St) (x1 : Int32) : Nat → Int32 → Int32 → Option (RV × St)
  | 0, _, _ => none
  | n + 1, x4, x5 =>
    if (σ 8 12) ≤ x5 then
      some (.inl (some (.inl x4)), σ)
    else
      if x5 < 0 ∨ 10 ≤ x5.toNatClampNeg then none
      else
        if (σ 17 x5.toNatClampNeg) = x1 then
          f_X4_hour_105 σ x1 n (x4 + 1) (x5 + 1)
        else
          f_X4_hour_105 σ x1 n (x4 + 0) (x5 + 1)
set_option maxHeartbeats 4000000 in
set_option maxRecDepth 100000 in
theorem w_X4_hour_105 {p : Program} {l : Launch} {e : Env} {s : State} {m : MethodId} {args : Array Value} {below : List Frame} {meth : Method} {c : Code} {G : GT} {lo : Nat → Int64} (F : Fx p l s args m meth c G cX4_hour 6 (some .int) RX4) {σ : St} {x1 : Int32} : ∀ (n : Nat) {x4 : Int32} {x5 : Int32} {r : RV × St}, f_X4_hour_105 σ x1 n x4 x5 = some r → ∀ {H : Heap} {locs : List Loc}, va_P (gD G) vwCl (wld G lo σ) H → va_S (gF G) s.heap H locs → ∀ {ls : Array Slot}, lv_has ls 6 [(0, .ref (gA G 8)), (1, .int x1), (4, .int x4), (5, .int x5)] → W p l e (RM 2 42 0 0) s m args below meth c H locs 0 0 (vx_MQ below (QCr G lo r) (XCr G lo r) args s 0 0 (gF G)) (F0 m 105 ls []) := by
  obtain ⟨hx, hb, hrt, hml, hown, hts, hlocks, hC, htab, hst⟩ := id F
  intro n
  induction n with
  | zero =>
    intro x4 x5 r hm
    simp only [f_X4_hour_105] at hm
    cases hm
  | succ n ih =>
    intro x4 x5 r hm H locs hP hS ls hl
    rw [f_X4_hour_105] at hm
    refine lv_iload hx hb dX4_hour_105 (lv_at hl 3 rfl) ?_
    refine lv_aload_n hx hb dX4_hour_107 rfl (lv_at hl 0 rfl) ?_
    refine xg F 12 inX4 hP (kd_k kdc_8 (by decide)) (wc4 kdc_8) rfl (by decide) tk_565 rfl rfl dX4_hour_108 ?_
    refine lv_icmp_ge (tgt := 141) hx hb dX4_hour_111 (by decide) (fun b1 => ?_) (fun b1 => ?_)
    · rw [if_pos b1] at hm
      refine lv_iload hx hb dX4_hour_141 (lv_at hl 2 rfl) ?_
      exact xir F hP hS (Option.some.inj hm).symm (by decide) (by decide) dX4_hour_143
    · rw [if_neg b1] at hm
      refine lv_iload hx hb dX4_hour_114 (lv_at hl 2 rfl) ?_
      refine lv_aload_n hx hb dX4_hour_116 rfl (lv_at hl 0 rfl) ?_
      refine xg F 13 inX4 hP (kd_k kdc_8 (by decide)) (wc4 kdc_8) rfl (by decide) tk_566 rfl rfl dX4_hour_117 ?_
      refine lv_iload hx hb dX4_hour_120 (lv_at hl 3 rfl) ?_
      by_cases b2 : (x5 < 0 ∨ 10 ≤ x5.toNatClampNeg)
      · rw [if_pos b2] at hm
        cases hm
      · rw [if_neg b2] at hm
        refine xil F hP kdc_17 lnc_17 b2 dX4_hour_122 ?_
        refine lv_iload_n hx hb dX4_hour_123 rfl (lv_at hl 1 rfl) ?_
        refine lv_icmp_ne (tgt := 131) hx hb dX4_hour_124 (by decide) (fun b3 => ?_) (fun b3 => ?_)
        · rw [if_neg b3] at hm
          refine lv_iconst (v := 0) hx hb dX4_hour_131 (by decide) ?_
          refine lv_iadd hx hb dX4_hour_132 ?_
          refine lv_istore (lv' := [(4, .int (x4 + 0)), (0, .ref (gA G 8)), (1, .int x1), (5, .int x5)]) hx hb dX4_hour_133 hl (by decide) rfl (fun ls hl => ?_)
          refine lv_iinc (v := (x5 + 1)) (lv' := [(5, .int (x5 + 1)), (4, .int (x4 + 0)), (0, .ref (gA G 8)), (1, .int x1)]) hx hb dX4_hour_135 hl (k := 3) rfl rfl (by decide) rfl (fun ls hl => ?_)
          refine lv_goto (tgt := 105) hx hb dX4_hour_138 (by decide) ?_
          exact ih hm hP hS (lv_sub hl [2, 3, 1, 0] rfl)
        · rw [if_pos b3] at hm
          refine lv_iconst (v := 1) hx hb dX4_hour_127 (by decide) ?_
          refine lv_goto (tgt := 132) hx hb dX4_hour_128 (by decide) ?_
          refine lv_iadd hx hb dX4_hour_132 ?_
          refine lv_istore (lv' := [(4, .int (x4 + 1)), (0, .ref (gA G 8)), (1, .int x1), (5, .int x5)]) hx hb dX4_hour_133 hl (by decide) rfl (fun ls hl => ?_)
          refine lv_iinc (v := (x5 + 1)) (lv' := [(5, .int (x5 + 1)), (4, .int (x4 + 1)), (0, .ref (gA G 8)), (1, .int x1)]) hx hb dX4_hour_135 hl (k := 3) rfl rfl (by decide) rfl (fun ls hl => ?_)
          refine lv_goto (tgt := 105) hx hb dX4_hour_138 (by decide) ?_
          exact ih hm hP hS (lv_sub hl [2, 3, 1, 0] rfl)
def f_X4_hour_47 (σ : St) (x1 : Int32) (x2 : Int32) (x3 : Int32) (s1 : Int32) : Option (RV × St) :=
  if ((up2 σ 8 0 s1) 8 0) ≤ 0 then
    if ((up2 σ 8 0 s1) 8 12) < 0 ∨ 10 ≤ ((up2 σ 8 0 s1) 8 12).toNatClampNeg then none
    else
      if ((up2 (up2 σ 8 0 s1) 17 ((up2 σ 8 0 s1) 8 12).toNatClampNeg x1) 8 12) < 0 ∨ 10 ≤ ((up2 (up2 σ 8 0 s1) 17 ((up2 σ 8 0 s1) 8 12).toNatClampNeg x1) 8 12).toNatClampNeg then none
      else
        if ((up2 (up2 (up2 σ 8 0 s1) 17 ((up2 σ 8 0 s1) 8 12).toNatClampNeg x1) 18 ((up2 (up2 σ 8 0 s1) 17 ((up2 σ 8 0 s1) 8 12).toNatClampNeg x1) 8 12).toNatClampNeg x2) 8 12) < 0 ∨ 10 ≤ ((up2 (up2 (up2 σ 8 0 s1) 17 ((up2 σ 8 0 s1) 8 12).toNatClampNeg x1) 18 ((up2 (up2 σ 8 0 s1) 17 ((up2 σ 8 0 s1) 8 12).toNatClampNeg x1) 8 12).toNatClampNeg x2) 8 12).toNatClampNeg then none
        else
          f_X4_hour_105 (up2 (up2 (up2 (up2 (up2 σ 8 0 s1) 17 ((up2 σ 8 0 s1) 8 12).toNatClampNeg x1) 18 ((up2 (up2 σ 8 0 s1) 17 ((up2 σ 8 0 s1) 8 12).toNatClampNeg x1) 8 12).toNatClampNeg x2) 19 ((up2 (up2 (up2 σ 8 0 s1) 17 ((up2 σ 8 0 s1) 8 12).toNatClampNeg x1) 18 ((up2 (up2 σ 8 0 s1) 17 ((up2 σ 8 0 s1) 8 12).toNatClampNeg x1) 8 12).toNatClampNeg x2) 8 12).toNatClampNeg x3) 8 12 (((up2 (up2 (up2 (up2 σ 8 0 s1) 17 ((up2 σ 8 0 s1) 8 12).toNatClampNeg x1) 18 ((up2 (up2 σ 8 0 s1) 17 ((up2 σ 8 0 s1) 8 12).toNatClampNeg x1) 8 12).toNatClampNeg x2) 19 ((up2 (up2 (up2 σ 8 0 s1) 17 ((up2 σ 8 0 s1) 8 12).toNatClampNeg x1) 18 ((up2 (up2 σ 8 0 s1) 17 ((up2 σ 8 0 s1) 8 12).toNatClampNeg x1) 8 12).toNatClampNeg x2) 8 12).toNatClampNeg x3) 8 12) + 1)) x1 40 0 0
  else
    some (.inl (some (.inl 0)), (up2 σ 8 0 s1))
set_option maxHeartbeats 4000000 in
set_option maxRecDepth 100000 in
theorem w_X4_hour_47 {p : Program} {l : Launch} {e : Env} {s : State} {m : MethodId} {args : Array Value} {below : List Frame} {meth : Method} {c : Code} {G : GT} {lo : Nat → Int64} (F : Fx p l s args m meth c G cX4_hour 6 (some .int) RX4) {σ : St} {x1 : Int32} {x2 : Int32} {x3 : Int32} {s1 : Int32} {r : RV × St} (hm : f_X4_hour_47 σ x1 x2 x3 s1 = some r) {H : Heap} {locs : List Loc} (hP : va_P (gD G) vwCl (wld G lo σ) H) (hS : va_S (gF G) s.heap H locs) {ls : Array Slot} (hl : lv_has ls 6 [(0, .ref (gA G 8)), (1, .int x1), (2, .int x2), (3, .int x3)]) : W p l e (RM 2 42 0 0) s m args below meth c H locs 0 0 (vx_MQ below (QCr G lo r) (XCr G lo r) args s 0 0 (gF G)) (F0 m 47 ls [.int s1, .ref (gA G 8)]) := by
  obtain ⟨hx, hb, hrt, hml, hown, hts, hlocks, hC, htab, hst⟩ := id F
  unfold f_X4_hour_47 at hm
  refine xp F (v := s1) (ty := .int) 0 inX4 tyX4_ok nmX4 hP hS (kd_k kdc_8 (by decide)) (wc4 kdc_8) (wu4_0 kdc_8) rfl (by decide) tk_553 rfl rfl rfl rfl rfl (Nat.le_of_ble_eq_true rfl) dX4_hour_47 (fun H locs hP hS => ?_)
  refine lv_aload_n hx hb dX4_hour_50 rfl (lv_at hl 0 rfl) ?_
  refine xg F 0 inX4 hP (kd_k kdc_8 (by decide)) (wc4 kdc_8) rfl (by decide) tk_553 rfl rfl dX4_hour_51 ?_
  refine lv_if_le (tgt := 59) hx hb dX4_hour_54 (by decide) (fun b1 => ?_) (fun b1 => ?_)
  · rw [if_pos b1] at hm
    refine lv_aload_n hx hb dX4_hour_59 rfl (lv_at hl 0 rfl) ?_
    refine xg F 13 inX4 hP (kd_k kdc_8 (by decide)) (wc4 kdc_8) rfl (by decide) tk_566 rfl rfl dX4_hour_60 ?_
    refine lv_aload_n hx hb dX4_hour_63 rfl (lv_at hl 0 rfl) ?_
    refine xg F 12 inX4 hP (kd_k kdc_8 (by decide)) (wc4 kdc_8) rfl (by decide) tk_565 rfl rfl dX4_hour_64 ?_
    refine lv_iload_n hx hb dX4_hour_67 rfl (lv_at hl 1 rfl) ?_
    by_cases b2 : (((up2 σ 8 0 s1) 8 12) < 0 ∨ 10 ≤ ((up2 σ 8 0 s1) 8 12).toNatClampNeg)
    · rw [if_pos b2] at hm
      cases hm
    · rw [if_neg b2] at hm
      refine xis F (v := x1) hP hS kdc_17 lnc_17 b2 dX4_hour_68 (fun H locs hP hS => ?_)
      refine lv_aload_n hx hb dX4_hour_69 rfl (lv_at hl 0 rfl) ?_
      refine xg F 14 inX4 hP (kd_k kdc_8 (by decide)) (wc4 kdc_8) rfl (by decide) tk_567 rfl rfl dX4_hour_70 ?_
      refine lv_aload_n hx hb dX4_hour_73 rfl (lv_at hl 0 rfl) ?_
      refine xg F 12 inX4 hP (kd_k kdc_8 (by decide)) (wc4 kdc_8) rfl (by decide) tk_565 rfl rfl dX4_hour_74 ?_
      refine lv_iload_n hx hb dX4_hour_77 rfl (lv_at hl 2 rfl) ?_
      by_cases b3 : (((up2 (up2 σ 8 0 s1) 17 ((up2 σ 8 0 s1) 8 12).toNatClampNeg x1) 8 12) < 0 ∨ 10 ≤ ((up2 (up2 σ 8 0 s1) 17 ((up2 σ 8 0 s1) 8 12).toNatClampNeg x1) 8 12).toNatClampNeg)
      · rw [if_pos b3] at hm
        cases hm
      · rw [if_neg b3] at hm
        refine xis F (v := x2) hP hS kdc_18 lnc_18 b3 dX4_hour_78 (fun H locs hP hS => ?_)
        refine lv_aload_n hx hb dX4_hour_79 rfl (lv_at hl 0 rfl) ?_
        refine xg F 15 inX4 hP (kd_k kdc_8 (by decide)) (wc4 kdc_8) rfl (by decide) tk_568 rfl rfl dX4_hour_80 ?_
        refine lv_aload_n hx hb dX4_hour_83 rfl (lv_at hl 0 rfl) ?_
        refine xg F 12 inX4 hP (kd_k kdc_8 (by decide)) (wc4 kdc_8) rfl (by decide) tk_565 rfl rfl dX4_hour_84 ?_
        refine lv_iload_n hx hb dX4_hour_87 rfl (lv_at hl 3 rfl) ?_
        by_cases b4 : (((up2 (up2 (up2 σ 8 0 s1) 17 ((up2 σ 8 0 s1) 8 12).toNatClampNeg x1) 18 ((up2 (up2 σ 8 0 s1) 17 ((up2 σ 8 0 s1) 8 12).toNatClampNeg x1) 8 12).toNatClampNeg x2) 8 12) < 0 ∨ 10 ≤ ((up2 (up2 (up2 σ 8 0 s1) 17 ((up2 σ 8 0 s1) 8 12).toNatClampNeg x1) 18 ((up2 (up2 σ 8 0 s1) 17 ((up2 σ 8 0 s1) 8 12).toNatClampNeg x1) 8 12).toNatClampNeg x2) 8 12).toNatClampNeg)
        · rw [if_pos b4] at hm
          cases hm
        · rw [if_neg b4] at hm
          refine xis F (v := x3) hP hS kdc_19 lnc_19 b4 dX4_hour_88 (fun H locs hP hS => ?_)
          refine lv_aload_n hx hb dX4_hour_89 rfl (lv_at hl 0 rfl) ?_
          refine lv_dup hx hb dX4_hour_90 rfl ?_
          refine xg F 12 inX4 hP (kd_k kdc_8 (by decide)) (wc4 kdc_8) rfl (by decide) tk_565 rfl rfl dX4_hour_91 ?_
          refine lv_iconst (v := 1) hx hb dX4_hour_94 (by decide) ?_
          refine lv_iadd hx hb dX4_hour_95 ?_
          refine xp F (v := (((up2 (up2 (up2 (up2 σ 8 0 s1) 17 ((up2 σ 8 0 s1) 8 12).toNatClampNeg x1) 18 ((up2 (up2 σ 8 0 s1) 17 ((up2 σ 8 0 s1) 8 12).toNatClampNeg x1) 8 12).toNatClampNeg x2) 19 ((up2 (up2 (up2 σ 8 0 s1) 17 ((up2 σ 8 0 s1) 8 12).toNatClampNeg x1) 18 ((up2 (up2 σ 8 0 s1) 17 ((up2 σ 8 0 s1) 8 12).toNatClampNeg x1) 8 12).toNatClampNeg x2) 8 12).toNatClampNeg x3) 8 12) + 1)) (ty := .int) 12 inX4 tyX4_ok nmX4 hP hS (kd_k kdc_8 (by decide)) (wc4 kdc_8) (wu4_12 kdc_8) rfl (by decide) tk_565 rfl rfl rfl rfl rfl (Nat.le_of_ble_eq_true rfl) dX4_hour_96 (fun H locs hP hS => ?_)
          refine lv_iconst (v := 0) hx hb dX4_hour_99 (by decide) ?_
          refine lv_istore (lv' := [(4, .int 0), (0, .ref (gA G 8)), (1, .int x1), (2, .int x2), (3, .int x3)]) hx hb dX4_hour_100 hl (by decide) rfl (fun ls hl => ?_)
          refine lv_iconst (v := 0) hx hb dX4_hour_102 (by decide) ?_
          refine lv_istore (lv' := [(5, .int 0), (4, .int 0), (0, .ref (gA G 8)), (1, .int x1), (2, .int x2), (3, .int x3)]) hx hb dX4_hour_103 hl (by decide) rfl (fun ls hl => ?_)
          exact w_X4_hour_105 F 40 hm hP hS (lv_sub hl [2, 3, 1, 0] rfl)
  · rw [if_neg b1] at hm
    refine lv_iconst (v := 0) hx hb dX4_hour_57 (by decide) ?_
    exact xir F hP hS (Option.some.inj hm).symm (by decide) (by decide) dX4_hour_58
def f_X4_hour_29 (σ : St) (x1 : Int32) (x2 : Int32) (x3 : Int32) : Option (RV × St) :=
  f_X4_hour_47 σ x1 x2 x3 1
set_option maxHeartbeats 4000000 in
set_option maxRecDepth 100000 in
theorem w_X4_hour_29 {p : Program} {l : Launch} {e : Env} {s : State} {m : MethodId} {args : Array Value} {below : List Frame} {meth : Method} {c : Code} {G : GT} {lo : Nat → Int64} (F : Fx p l s args m meth c G cX4_hour 6 (some .int) RX4) {σ : St} {x1 : Int32} {x2 : Int32} {x3 : Int32} {r : RV × St} (hm : f_X4_hour_29 σ x1 x2 x3 = some r) {H : Heap} {locs : List Loc} (hP : va_P (gD G) vwCl (wld G lo σ) H) (hS : va_S (gF G) s.heap H locs) {ls : Array Slot} (hl : lv_has ls 6 [(0, .ref (gA G 8)), (1, .int x1), (2, .int x2), (3, .int x3)]) : W p l e (RM 2 42 0 0) s m args below meth c H locs 0 0 (vx_MQ below (QCr G lo r) (XCr G lo r) args s 0 0 (gF G)) (F0 m 29 ls [.ref (gA G 8)]) := by
  obtain ⟨hx, hb, hrt, hml, hown, hts, hlocks, hC, htab, hst⟩ := id F
  unfold f_X4_hour_29 at hm
  refine lv_iconst (v := 1) hx hb dX4_hour_29 (by decide) ?_
  refine lv_goto (tgt := 47) hx hb dX4_hour_30 (by decide) ?_
  exact w_X4_hour_47 F hm hP hS (lv_sub hl [0, 1, 2, 3] rfl)
def f_X4_hour (σ : St) (x1 : Int32) (x2 : Int32) (x3 : Int32) : Option (RV × St) :=
  ri (f_X4_in σ x1 0 3) (fun x1_ =>
    if x1_ = 0 then
      f_X4_hour_29 σ x1 x2 x3
    else
      ri (f_X4_isTime σ x2) (fun x3_ =>
        if x3_ = 0 then
          f_X4_hour_29 σ x1 x2 x3
        else
          ri (f_X4_isTime σ x3) (fun x5_ =>
            if x5_ = 0 then
              f_X4_hour_29 σ x1 x2 x3
            else
              if x2 ≤ x3 then
                if (σ 8 12) = 10 then
                  f_X4_hour_47 σ x1 x2 x3 2
                else
                  f_X4_hour_47 σ x1 x2 x3 0
              else
                f_X4_hour_29 σ x1 x2 x3)))
set_option maxHeartbeats 4000000 in
set_option maxRecDepth 100000 in
theorem c_X4_hour {l : Launch} {G : GT} {σ : St} {x1 : Int32} {x2 : Int32} {x3 : Int32} {r : RV × St} (hm : f_X4_hour σ x1 x2 x3 = some r) : MC l G yX4_hour cX4_hour 6 (some .int) 2 42 0 0 [.inr 8, .inl x1, .inl x2, .inl x3] σ r := by
  refine xbody (by decide) (Nat.le_of_ble_eq_true rfl) ?_
  intro lo p e s m args below meth c F hP ls hl
  have F : Fx p l s args m meth c G cX4_hour 6 (some .int) RX4 := F
  obtain ⟨hx, hb, hrt, hml, hown, hts, hlocks, hC, htab, hst⟩ := id F
  have hS : va_S (gF G) s.heap s.heap [] := va_S.rf
  have hl : lv_has ls 6 [(0, .ref (gA G 8)), (1, .int x1), (2, .int x2), (3, .int x3)] := hl
  unfold f_X4_hour at hm
  refine lv_aload_n hx hb dX4_hour_0 rfl (lv_at hl 0 rfl) ?_
  refine lv_iload_n hx hb dX4_hour_1 rfl (lv_at hl 1 rfl) ?_
  refine lv_iconst (v := 0) hx hb dX4_hour_2 (by decide) ?_
  refine lv_iconst (v := 3) hx hb dX4_hour_3 (by decide) ?_
  obtain ⟨x1_, h1, hm⟩ := ri_inv hm
  refine xSt F (c_X4_in h1) tk_635 tk_633 tk_634 tk_6 rfl 3 (by decide +kernel) rfl ⟨Nat.le_of_ble_eq_true rfl, Nat.le_of_ble_eq_true rfl⟩ hP hS hl.1 rfl (Nat.le_of_ble_eq_true rfl) dX4_hour_4 ⟨Nat.le_of_ble_eq_true rfl, Nat.le_of_ble_eq_true rfl⟩ (fun v hv H locs hP hS => ?_) (fun E hE => by cases hE)
  cases hv
  replace hP : va_P (gD G) vwCl (wld G lo σ) H := hP
  refine W.eq (g2 := F0 m 7 ls [.int x1_, .ref (gA G 8)]) rfl ?_
  refine lv_if_eq (tgt := 29) hx hb dX4_hour_7 (by decide) (fun b2 => ?_) (fun b2 => ?_)
  · rw [if_pos b2] at hm
    exact w_X4_hour_29 F hm hP hS (lv_sub hl [0, 1, 2, 3] rfl)
  · rw [if_neg b2] at hm
    refine lv_iload_n hx hb dX4_hour_10 rfl (lv_at hl 2 rfl) ?_
    obtain ⟨x3_, h3, hm⟩ := ri_inv hm
    refine xSt F (c_X4_isTime h3) tk_631 tk_629 tk_630 tk_6 rfl 1 (by decide +kernel) rfl ⟨Nat.le_of_ble_eq_true rfl, Nat.le_of_ble_eq_true rfl⟩ hP hS hl.1 rfl (Nat.le_of_ble_eq_true rfl) dX4_hour_11 ⟨Nat.le_of_ble_eq_true rfl, Nat.le_of_ble_eq_true rfl⟩ (fun v hv H locs hP hS => ?_) (fun E hE => by cases hE)
    cases hv
    replace hP : va_P (gD G) vwCl (wld G lo σ) H := hP
    refine W.eq (g2 := F0 m 14 ls [.int x3_, .ref (gA G 8)]) rfl ?_
    refine lv_if_eq (tgt := 29) hx hb dX4_hour_14 (by decide) (fun b4 => ?_) (fun b4 => ?_)
    · rw [if_pos b4] at hm
      exact w_X4_hour_29 F hm hP hS (lv_sub hl [0, 1, 2, 3] rfl)
    · rw [if_neg b4] at hm
      refine lv_iload_n hx hb dX4_hour_17 rfl (lv_at hl 3 rfl) ?_
      obtain ⟨x5_, h5, hm⟩ := ri_inv hm
      refine xSt F (c_X4_isTime h5) tk_631 tk_629 tk_630 tk_6 rfl 1 (by decide +kernel) rfl ⟨Nat.le_of_ble_eq_true rfl, Nat.le_of_ble_eq_true rfl⟩ hP hS hl.1 rfl (Nat.le_of_ble_eq_true rfl) dX4_hour_18 ⟨Nat.le_of_ble_eq_true rfl, Nat.le_of_ble_eq_true rfl⟩ (fun v hv H locs hP hS => ?_) (fun E hE => by cases hE)
      cases hv
      replace hP : va_P (gD G) vwCl (wld G lo σ) H := hP
      refine W.eq (g2 := F0 m 21 ls [.int x5_, .ref (gA G 8)]) rfl ?_
      refine lv_if_eq (tgt := 29) hx hb dX4_hour_21 (by decide) (fun b6 => ?_) (fun b6 => ?_)
      · rw [if_pos b6] at hm
        exact w_X4_hour_29 F hm hP hS (lv_sub hl [0, 1, 2, 3] rfl)
      · rw [if_neg b6] at hm
        refine lv_iload_n hx hb dX4_hour_24 rfl (lv_at hl 3 rfl) ?_
        refine lv_iload_n hx hb dX4_hour_25 rfl (lv_at hl 2 rfl) ?_
        refine lv_icmp_ge (tgt := 33) hx hb dX4_hour_26 (by decide) (fun b7 => ?_) (fun b7 => ?_)
        · rw [if_pos b7] at hm
          refine lv_aload_n hx hb dX4_hour_33 rfl (lv_at hl 0 rfl) ?_
          refine xg F 12 inX4 hP (kd_k kdc_8 (by decide)) (wc4 kdc_8) rfl (by decide) tk_565 rfl rfl dX4_hour_34 ?_
          refine lv_bipush (v := 10) hx hb dX4_hour_37 (by decide) ?_
          refine lv_icmp_ne (tgt := 46) hx hb dX4_hour_39 (by decide) (fun b8 => ?_) (fun b8 => ?_)
          · rw [if_neg b8] at hm
            refine lv_iconst (v := 0) hx hb dX4_hour_46 (by decide) ?_
            exact w_X4_hour_47 F hm hP hS (lv_sub hl [0, 1, 2, 3] rfl)
          · rw [if_pos b8] at hm
            refine lv_iconst (v := 2) hx hb dX4_hour_42 (by decide) ?_
            refine lv_goto (tgt := 47) hx hb dX4_hour_43 (by decide) ?_
            exact w_X4_hour_47 F hm hP hS (lv_sub hl [0, 1, 2, 3] rfl)
        · rw [if_neg b7] at hm
          exact w_X4_hour_29 F hm hP hS (lv_sub hl [0, 1, 2, 3] rfl)
/-! ===== X4_stock ===== -/
def f_X4_stock_27 (σ : St) (x1 : Int32) (x2 : Int32) (s1 : Int32) : Option (RV × St) :=
  if ((up2 σ 8 0 s1) 8 0) = 0 then
    if x1 < 0 ∨ 10 ≤ x1.toNatClampNeg then none
    else
      some (.inl none, (up2 (up2 σ 8 0 s1) 21 x1.toNatClampNeg x2))
  else
    some (.inl none, (up2 σ 8 0 s1))
set_option maxHeartbeats 4000000 in
set_option maxRecDepth 100000 in
theorem w_X4_stock_27 {p : Program} {l : Launch} {e : Env} {s : State} {m : MethodId} {args : Array Value} {below : List Frame} {meth : Method} {c : Code} {G : GT} {lo : Nat → Int64} (F : Fx p l s args m meth c G cX4_stock 3 none RX4) {σ : St} {x1 : Int32} {x2 : Int32} {s1 : Int32} {r : RV × St} (hm : f_X4_stock_27 σ x1 x2 s1 = some r) {H : Heap} {locs : List Loc} (hP : va_P (gD G) vwCl (wld G lo σ) H) (hS : va_S (gF G) s.heap H locs) {ls : Array Slot} (hl : lv_has ls 3 [(0, .ref (gA G 8)), (1, .int x1), (2, .int x2)]) : W p l e (RM 1 22 0 0) s m args below meth c H locs 0 0 (vx_MQ below (QCr G lo r) (XCr G lo r) args s 0 0 (gF G)) (F0 m 27 ls [.int s1, .ref (gA G 8)]) := by
  obtain ⟨hx, hb, hrt, hml, hown, hts, hlocks, hC, htab, hst⟩ := id F
  unfold f_X4_stock_27 at hm
  refine xp F (v := s1) (ty := .int) 0 inX4 tyX4_ok nmX4 hP hS (kd_k kdc_8 (by decide)) (wc4 kdc_8) (wu4_0 kdc_8) rfl (by decide) tk_553 rfl rfl rfl rfl rfl (Nat.le_of_ble_eq_true rfl) dX4_stock_27 (fun H locs hP hS => ?_)
  refine lv_aload_n hx hb dX4_stock_30 rfl (lv_at hl 0 rfl) ?_
  refine xg F 0 inX4 hP (kd_k kdc_8 (by decide)) (wc4 kdc_8) rfl (by decide) tk_553 rfl rfl dX4_stock_31 ?_
  refine lv_if_ne (tgt := 44) hx hb dX4_stock_34 (by decide) (fun b1 => ?_) (fun b1 => ?_)
  · rw [if_neg b1] at hm
    exact xvr F hP hS (Option.some.inj hm).symm (by decide) (by decide) dX4_stock_44
  · rw [if_pos b1] at hm
    refine lv_aload_n hx hb dX4_stock_37 rfl (lv_at hl 0 rfl) ?_
    refine xg F 18 inX4 hP (kd_k kdc_8 (by decide)) (wc4 kdc_8) rfl (by decide) tk_571 rfl rfl dX4_stock_38 ?_
    refine lv_iload_n hx hb dX4_stock_41 rfl (lv_at hl 1 rfl) ?_
    refine lv_iload_n hx hb dX4_stock_42 rfl (lv_at hl 2 rfl) ?_
    by_cases b2 : (x1 < 0 ∨ 10 ≤ x1.toNatClampNeg)
    · rw [if_pos b2] at hm
      cases hm
    · rw [if_neg b2] at hm
      refine xis F (v := x2) hP hS kdc_21 lnc_21 b2 dX4_stock_43 (fun H locs hP hS => ?_)
      exact xvr F hP hS (Option.some.inj hm).symm (by decide) (by decide) dX4_stock_44
def f_X4_stock_26 (σ : St) (x1 : Int32) (x2 : Int32) : Option (RV × St) :=
  f_X4_stock_27 σ x1 x2 1
set_option maxHeartbeats 4000000 in
set_option maxRecDepth 100000 in
theorem w_X4_stock_26 {p : Program} {l : Launch} {e : Env} {s : State} {m : MethodId} {args : Array Value} {below : List Frame} {meth : Method} {c : Code} {G : GT} {lo : Nat → Int64} (F : Fx p l s args m meth c G cX4_stock 3 none RX4) {σ : St} {x1 : Int32} {x2 : Int32} {r : RV × St} (hm : f_X4_stock_26 σ x1 x2 = some r) {H : Heap} {locs : List Loc} (hP : va_P (gD G) vwCl (wld G lo σ) H) (hS : va_S (gF G) s.heap H locs) {ls : Array Slot} (hl : lv_has ls 3 [(0, .ref (gA G 8)), (1, .int x1), (2, .int x2)]) : W p l e (RM 1 22 0 0) s m args below meth c H locs 0 0 (vx_MQ below (QCr G lo r) (XCr G lo r) args s 0 0 (gF G)) (F0 m 26 ls [.ref (gA G 8)]) := by
  obtain ⟨hx, hb, hrt, hml, hown, hts, hlocks, hC, htab, hst⟩ := id F
  unfold f_X4_stock_26 at hm
  refine lv_iconst (v := 1) hx hb dX4_stock_26 (by decide) ?_
  exact w_X4_stock_27 F hm hP hS (lv_sub hl [0, 1, 2] rfl)
def f_X4_stock (σ : St) (x1 : Int32) (x2 : Int32) : Option (RV × St) :=
  ri (f_X4_in σ x1 0 9) (fun x1_ =>
    if x1_ = 0 then
      f_X4_stock_26 σ x1 x2
    else
      ri (f_X4_in σ x2 0 10000) (fun x3_ =>
        if x3_ = 0 then
          f_X4_stock_26 σ x1 x2
        else
          f_X4_stock_27 σ x1 x2 0))
set_option maxHeartbeats 4000000 in
set_option maxRecDepth 100000 in
theorem c_X4_stock {l : Launch} {G : GT} {σ : St} {x1 : Int32} {x2 : Int32} {r : RV × St} (hm : f_X4_stock σ x1 x2 = some r) : MC l G yX4_stock cX4_stock 3 none 1 22 0 0 [.inr 8, .inl x1, .inl x2] σ r := by
  refine xbody (by decide) (Nat.le_of_ble_eq_true rfl) ?_
  intro lo p e s m args below meth c F hP ls hl
  have F : Fx p l s args m meth c G cX4_stock 3 none RX4 := F
  obtain ⟨hx, hb, hrt, hml, hown, hts, hlocks, hC, htab, hst⟩ := id F
  have hS : va_S (gF G) s.heap s.heap [] := va_S.rf
  have hl : lv_has ls 3 [(0, .ref (gA G 8)), (1, .int x1), (2, .int x2)] := hl
  unfold f_X4_stock at hm
  refine lv_aload_n hx hb dX4_stock_0 rfl (lv_at hl 0 rfl) ?_
  refine lv_iload_n hx hb dX4_stock_1 rfl (lv_at hl 1 rfl) ?_
  refine lv_iconst (v := 0) hx hb dX4_stock_2 (by decide) ?_
  refine lv_bipush (v := 9) hx hb dX4_stock_3 (by decide) ?_
  obtain ⟨x1_, h1, hm⟩ := ri_inv hm
  refine xSt F (c_X4_in h1) tk_635 tk_633 tk_634 tk_6 rfl 3 (by decide +kernel) rfl ⟨Nat.le_of_ble_eq_true rfl, Nat.le_of_ble_eq_true rfl⟩ hP hS hl.1 rfl (Nat.le_of_ble_eq_true rfl) dX4_stock_5 ⟨Nat.le_of_ble_eq_true rfl, Nat.le_of_ble_eq_true rfl⟩ (fun v hv H locs hP hS => ?_) (fun E hE => by cases hE)
  cases hv
  replace hP : va_P (gD G) vwCl (wld G lo σ) H := hP
  refine W.eq (g2 := F0 m 8 ls [.int x1_, .ref (gA G 8)]) rfl ?_
  refine lv_if_eq (tgt := 26) hx hb dX4_stock_8 (by decide) (fun b2 => ?_) (fun b2 => ?_)
  · rw [if_pos b2] at hm
    exact w_X4_stock_26 F hm hP hS (lv_sub hl [0, 1, 2] rfl)
  · rw [if_neg b2] at hm
    refine lv_iload_n hx hb dX4_stock_11 rfl (lv_at hl 2 rfl) ?_
    refine lv_iconst (v := 0) hx hb dX4_stock_12 (by decide) ?_
    refine lv_sipush (v := 10000) hx hb dX4_stock_13 (by decide) ?_
    obtain ⟨x3_, h3, hm⟩ := ri_inv hm
    refine xSt F (c_X4_in h3) tk_635 tk_633 tk_634 tk_6 rfl 3 (by decide +kernel) rfl ⟨Nat.le_of_ble_eq_true rfl, Nat.le_of_ble_eq_true rfl⟩ hP hS hl.1 rfl (Nat.le_of_ble_eq_true rfl) dX4_stock_16 ⟨Nat.le_of_ble_eq_true rfl, Nat.le_of_ble_eq_true rfl⟩ (fun v hv H locs hP hS => ?_) (fun E hE => by cases hE)
    cases hv
    replace hP : va_P (gD G) vwCl (wld G lo σ) H := hP
    refine W.eq (g2 := F0 m 19 ls [.int x3_, .ref (gA G 8)]) rfl ?_
    refine lv_if_eq (tgt := 26) hx hb dX4_stock_19 (by decide) (fun b4 => ?_) (fun b4 => ?_)
    · rw [if_pos b4] at hm
      exact w_X4_stock_26 F hm hP hS (lv_sub hl [0, 1, 2] rfl)
    · rw [if_neg b4] at hm
      refine lv_iconst (v := 0) hx hb dX4_stock_22 (by decide) ?_
      refine lv_goto (tgt := 27) hx hb dX4_stock_23 (by decide) ?_
      exact w_X4_stock_27 F hm hP hS (lv_sub hl [0, 1, 2] rfl)
/-! ===== X4_fits ===== -/
def f_X4_fits_2 (σ : St) (x1 : Int32) (x2 : Int32) : Nat → Int32 → Option RV
  | 0, _ => none
  | n + 1, x3 =>
    if (σ 8 12) ≤ x3 then
      some (.inl (some (.inl 0)))
    else
      if x3 < 0 ∨ 10 ≤ x3.toNatClampNeg then none
      else
        if (σ 17 x3.toNatClampNeg) = x1 then
          if x2 < (σ 18 x3.toNatClampNeg) then
            f_X4_fits_2 σ x1 x2 n (x3 + 1)
          else
            if (σ 19 x3.toNatClampNeg) < x2 then
              f_X4_fits_2 σ x1 x2 n (x3 + 1)
            else
              some (.inl (some (.inl 1)))
        else
          f_X4_fits_2 σ x1 x2 n (x3 + 1)
set_option maxHeartbeats 4000000 in
set_option maxRecDepth 100000 in
theorem w_X4_fits_2 {p : Program} {l : Launch} {e : Env} {s : State} {m : MethodId} {args : Array Value} {below : List Frame} {meth : Method} {c : Code} {G : GT} {lo : Nat → Int64} (F : Fx p l s args m meth c G cX4_fits 4 (some .boolean) RX4) {σ : St} {x1 : Int32} {x2 : Int32} : ∀ (n : Nat) {x3 : Int32} {r : RV}, f_X4_fits_2 σ x1 x2 n x3 = some r → ∀ {H : Heap} {locs : List Loc}, va_P (gD G) vwCl (wld G lo σ) H → va_S (gF G) s.heap H locs → ∀ {ls : Array Slot}, lv_has ls 4 [(0, .ref (gA G 8)), (1, .int x1), (2, .int x2), (3, .int x3)] → W p l e (RM 0 0 0 0) s m args below meth c H locs 0 0 (vx_MQ below (QCr G lo (r, σ)) (XCr G lo (r, σ)) args s 0 0 (gF G)) (F0 m 2 ls []) := by
  obtain ⟨hx, hb, hrt, hml, hown, hts, hlocks, hC, htab, hst⟩ := id F
  intro n
  induction n with
  | zero =>
    intro x3 r hm
    simp only [f_X4_fits_2] at hm
    cases hm
  | succ n ih =>
    intro x3 r hm H locs hP hS ls hl
    rw [f_X4_fits_2] at hm
    refine lv_iload_n hx hb dX4_fits_2 rfl (lv_at hl 3 rfl) ?_
    refine lv_aload_n hx hb dX4_fits_3 rfl (lv_at hl 0 rfl) ?_
    refine xg F 12 inX4 hP (kd_k kdc_8 (by decide)) (wc4 kdc_8) rfl (by decide) tk_565 rfl rfl dX4_fits_4 ?_
    refine lv_icmp_ge (tgt := 48) hx hb dX4_fits_7 (by decide) (fun b1 => ?_) (fun b1 => ?_)
    · rw [if_pos b1] at hm
      refine lv_iconst (v := 0) hx hb dX4_fits_48 (by decide) ?_
      exact xzr F hP hS rfl (congrArg (fun z => (z, σ)) (Option.some.inj hm).symm) (by decide) (by decide) dX4_fits_49
    · rw [if_neg b1] at hm
      refine lv_aload_n hx hb dX4_fits_10 rfl (lv_at hl 0 rfl) ?_
      refine xg F 13 inX4 hP (kd_k kdc_8 (by decide)) (wc4 kdc_8) rfl (by decide) tk_566 rfl rfl dX4_fits_11 ?_
      refine lv_iload_n hx hb dX4_fits_14 rfl (lv_at hl 3 rfl) ?_
      by_cases b2 : (x3 < 0 ∨ 10 ≤ x3.toNatClampNeg)
      · rw [if_pos b2] at hm
        cases hm
      · rw [if_neg b2] at hm
        refine xil F hP kdc_17 lnc_17 b2 dX4_fits_15 ?_
        refine lv_iload_n hx hb dX4_fits_16 rfl (lv_at hl 1 rfl) ?_
        refine lv_icmp_ne (tgt := 42) hx hb dX4_fits_17 (by decide) (fun b3 => ?_) (fun b3 => ?_)
        · rw [if_neg b3] at hm
          refine lv_iinc (v := (x3 + 1)) (lv' := [(3, .int (x3 + 1)), (0, .ref (gA G 8)), (1, .int x1), (2, .int x2)]) hx hb dX4_fits_42 hl (k := 3) rfl rfl (by decide) rfl (fun ls hl => ?_)
          refine lv_goto (tgt := 2) hx hb dX4_fits_45 (by decide) ?_
          exact ih hm hP hS (lv_sub hl [1, 2, 3, 0] rfl)
        · rw [if_pos b3] at hm
          refine lv_aload_n hx hb dX4_fits_20 rfl (lv_at hl 0 rfl) ?_
          refine xg F 14 inX4 hP (kd_k kdc_8 (by decide)) (wc4 kdc_8) rfl (by decide) tk_567 rfl rfl dX4_fits_21 ?_
          refine lv_iload_n hx hb dX4_fits_24 rfl (lv_at hl 3 rfl) ?_
          refine xil F hP kdc_18 lnc_18 b2 dX4_fits_25 ?_
          refine lv_iload_n hx hb dX4_fits_26 rfl (lv_at hl 2 rfl) ?_
          refine lv_icmp_gt (tgt := 42) hx hb dX4_fits_27 (by decide) (fun b4 => ?_) (fun b4 => ?_)
          · rw [if_pos b4] at hm
            refine lv_iinc (v := (x3 + 1)) (lv' := [(3, .int (x3 + 1)), (0, .ref (gA G 8)), (1, .int x1), (2, .int x2)]) hx hb dX4_fits_42 hl (k := 3) rfl rfl (by decide) rfl (fun ls hl => ?_)
            refine lv_goto (tgt := 2) hx hb dX4_fits_45 (by decide) ?_
            exact ih hm hP hS (lv_sub hl [1, 2, 3, 0] rfl)
          · rw [if_neg b4] at hm
            refine lv_iload_n hx hb dX4_fits_30 rfl (lv_at hl 2 rfl) ?_
            refine lv_aload_n hx hb dX4_fits_31 rfl (lv_at hl 0 rfl) ?_
            refine xg F 15 inX4 hP (kd_k kdc_8 (by decide)) (wc4 kdc_8) rfl (by decide) tk_568 rfl rfl dX4_fits_32 ?_
            refine lv_iload_n hx hb dX4_fits_35 rfl (lv_at hl 3 rfl) ?_
            refine xil F hP kdc_19 lnc_19 b2 dX4_fits_36 ?_
            refine lv_icmp_gt (tgt := 42) hx hb dX4_fits_37 (by decide) (fun b5 => ?_) (fun b5 => ?_)
            · rw [if_pos b5] at hm
              refine lv_iinc (v := (x3 + 1)) (lv' := [(3, .int (x3 + 1)), (0, .ref (gA G 8)), (1, .int x1), (2, .int x2)]) hx hb dX4_fits_42 hl (k := 3) rfl rfl (by decide) rfl (fun ls hl => ?_)
              refine lv_goto (tgt := 2) hx hb dX4_fits_45 (by decide) ?_
              exact ih hm hP hS (lv_sub hl [1, 2, 3, 0] rfl)
            · rw [if_neg b5] at hm
              refine lv_iconst (v := 1) hx hb dX4_fits_40 (by decide) ?_
              exact xzr F hP hS rfl (congrArg (fun z => (z, σ)) (Option.some.inj hm).symm) (by decide) (by decide) dX4_fits_41
def f_X4_fits (σ : St) (x1 : Int32) (x2 : Int32) : Option RV :=
  f_X4_fits_2 σ x1 x2 40 0
set_option maxHeartbeats 4000000 in
set_option maxRecDepth 100000 in
theorem c_X4_fits {l : Launch} {G : GT} {σ : St} {x1 : Int32} {x2 : Int32} {r : RV} (hm : f_X4_fits σ x1 x2 = some r) : MC l G yX4_fits cX4_fits 4 (some .boolean) 0 0 0 0 [.inr 8, .inl x1, .inl x2] σ (r, σ) := by
  refine xbody (by decide) (Nat.le_of_ble_eq_true rfl) ?_
  intro lo p e s m args below meth c F hP ls hl
  have F : Fx p l s args m meth c G cX4_fits 4 (some .boolean) RX4 := F
  obtain ⟨hx, hb, hrt, hml, hown, hts, hlocks, hC, htab, hst⟩ := id F
  have hS : va_S (gF G) s.heap s.heap [] := va_S.rf
  have hl : lv_has ls 4 [(0, .ref (gA G 8)), (1, .int x1), (2, .int x2)] := hl
  unfold f_X4_fits at hm
  refine lv_iconst (v := 0) hx hb dX4_fits_0 (by decide) ?_
  refine lv_istore_n (lv' := [(3, .int 0), (0, .ref (gA G 8)), (1, .int x1), (2, .int x2)]) hx hb dX4_fits_1 rfl hl (by decide) rfl (fun ls hl => ?_)
  exact w_X4_fits_2 F 40 hm hP hS (lv_sub hl [1, 2, 3, 0] rfl)
/-! ===== X4_saving ===== -/
def f_X4_saving_69 (σ : St) (x1 : Int32) (x2 : Int32) : Nat → Int32 → Int32 → Option RV
  | 0, _, _ => none
  | n + 1, x4, x5 =>
    if 10 ≤ x5 then
      if x1 < 0 ∨ 16 ≤ x1.toNatClampNeg then none
      else
        if x2 < 0 ∨ 16 ≤ x2.toNatClampNeg then none
        else
          if (σ 11 x2.toNatClampNeg) ≤ (σ 11 x1.toNatClampNeg) then
            if (σ 11 x2.toNatClampNeg) ≤ x4 then
              some (.inl (some (.inl (σ 11 x2.toNatClampNeg))))
            else
              some (.inl (some (.inl x4)))
          else
            if (σ 11 x1.toNatClampNeg) ≤ x4 then
              some (.inl (some (.inl (σ 11 x1.toNatClampNeg))))
            else
              some (.inl (some (.inl x4)))
    else
      if ((10 * x1) + x5) < 0 ∨ 160 ≤ ((10 * x1) + x5).toNatClampNeg then none
      else
        if (σ 16 ((10 * x1) + x5).toNatClampNeg) ≤ 0 then
          f_X4_saving_69 σ x1 x2 n (x4 + 0) (x5 + 1)
        else
          if ((10 * x2) + x5) < 0 ∨ 160 ≤ ((10 * x2) + x5).toNatClampNeg then none
          else
            if (σ 16 ((10 * x2) + x5).toNatClampNeg) ≤ 0 then
              f_X4_saving_69 σ x1 x2 n (x4 + 0) (x5 + 1)
            else
              f_X4_saving_69 σ x1 x2 n (x4 + 3) (x5 + 1)
set_option maxHeartbeats 4000000 in
set_option maxRecDepth 100000 in
theorem w_X4_saving_69 {p : Program} {l : Launch} {e : Env} {s : State} {m : MethodId} {args : Array Value} {below : List Frame} {meth : Method} {c : Code} {G : GT} {lo : Nat → Int64} (F : Fx p l s args m meth c G cX4_saving 6 (some .int) RX4) {σ : St} {x1 : Int32} {x2 : Int32} : ∀ (n : Nat) {x4 : Int32} {x5 : Int32} {r : RV}, f_X4_saving_69 σ x1 x2 n x4 x5 = some r → ∀ {H : Heap} {locs : List Loc}, va_P (gD G) vwCl (wld G lo σ) H → va_S (gF G) s.heap H locs → ∀ {ls : Array Slot}, lv_has ls 6 [(0, .ref (gA G 8)), (1, .int x1), (2, .int x2), (4, .int x4), (5, .int x5)] → W p l e (RM 0 0 0 0) s m args below meth c H locs 0 0 (vx_MQ below (QCr G lo (r, σ)) (XCr G lo (r, σ)) args s 0 0 (gF G)) (F0 m 69 ls []) := by
  obtain ⟨hx, hb, hrt, hml, hown, hts, hlocks, hC, htab, hst⟩ := id F
  intro n
  induction n with
  | zero =>
    intro x4 x5 r hm
    simp only [f_X4_saving_69] at hm
    cases hm
  | succ n ih =>
    intro x4 x5 r hm H locs hP hS ls hl
    rw [f_X4_saving_69] at hm
    refine lv_iload hx hb dX4_saving_69 (lv_at hl 4 rfl) ?_
    refine lv_bipush (v := 10) hx hb dX4_saving_71 (by decide) ?_
    refine lv_icmp_ge (tgt := 122) hx hb dX4_saving_73 (by decide) (fun b1 => ?_) (fun b1 => ?_)
    · rw [if_pos b1] at hm
      refine lv_aload_n hx hb dX4_saving_122 rfl (lv_at hl 0 rfl) ?_
      refine xg F 5 inX4 hP (kd_k kdc_8 (by decide)) (wc4 kdc_8) rfl (by decide) tk_558 rfl rfl dX4_saving_123 ?_
      refine lv_iload_n hx hb dX4_saving_126 rfl (lv_at hl 1 rfl) ?_
      by_cases b2 : (x1 < 0 ∨ 16 ≤ x1.toNatClampNeg)
      · rw [if_pos b2] at hm
        cases hm
      · rw [if_neg b2] at hm
        refine xil F hP kdc_11 lnc_11 b2 dX4_saving_127 ?_
        refine lv_aload_n hx hb dX4_saving_128 rfl (lv_at hl 0 rfl) ?_
        refine xg F 5 inX4 hP (kd_k kdc_8 (by decide)) (wc4 kdc_8) rfl (by decide) tk_558 rfl rfl dX4_saving_129 ?_
        refine lv_iload_n hx hb dX4_saving_132 rfl (lv_at hl 2 rfl) ?_
        by_cases b3 : (x2 < 0 ∨ 16 ≤ x2.toNatClampNeg)
        · rw [if_pos b3] at hm
          cases hm
        · rw [if_neg b3] at hm
          refine xil F hP kdc_11 lnc_11 b3 dX4_saving_133 ?_
          refine lv_icmp_ge (tgt := 146) hx hb dX4_saving_134 (by decide) (fun b4 => ?_) (fun b4 => ?_)
          · rw [if_pos b4] at hm
            refine lv_aload_n hx hb dX4_saving_146 rfl (lv_at hl 0 rfl) ?_
            refine xg F 5 inX4 hP (kd_k kdc_8 (by decide)) (wc4 kdc_8) rfl (by decide) tk_558 rfl rfl dX4_saving_147 ?_
            refine lv_iload_n hx hb dX4_saving_150 rfl (lv_at hl 2 rfl) ?_
            refine xil F hP kdc_11 lnc_11 b3 dX4_saving_151 ?_
            refine lv_istore (lv' := [(5, .int (σ 11 x2.toNatClampNeg)), (0, .ref (gA G 8)), (1, .int x1), (2, .int x2), (4, .int x4)]) hx hb dX4_saving_152 hl (by decide) rfl (fun ls hl => ?_)
            refine lv_iload hx hb dX4_saving_154 (lv_at hl 4 rfl) ?_
            refine lv_iload hx hb dX4_saving_156 (lv_at hl 0 rfl) ?_
            refine lv_icmp_ge (tgt := 166) hx hb dX4_saving_158 (by decide) (fun b5 => ?_) (fun b5 => ?_)
            · rw [if_pos b5] at hm
              refine lv_iload hx hb dX4_saving_166 (lv_at hl 0 rfl) ?_
              exact xir F hP hS (congrArg (fun z => (z, σ)) (Option.some.inj hm).symm) (by decide) (by decide) dX4_saving_168
            · rw [if_neg b5] at hm
              refine lv_iload hx hb dX4_saving_161 (lv_at hl 4 rfl) ?_
              refine lv_goto (tgt := 168) hx hb dX4_saving_163 (by decide) ?_
              exact xir F hP hS (congrArg (fun z => (z, σ)) (Option.some.inj hm).symm) (by decide) (by decide) dX4_saving_168
          · rw [if_neg b4] at hm
            refine lv_aload_n hx hb dX4_saving_137 rfl (lv_at hl 0 rfl) ?_
            refine xg F 5 inX4 hP (kd_k kdc_8 (by decide)) (wc4 kdc_8) rfl (by decide) tk_558 rfl rfl dX4_saving_138 ?_
            refine lv_iload_n hx hb dX4_saving_141 rfl (lv_at hl 1 rfl) ?_
            refine xil F hP kdc_11 lnc_11 b2 dX4_saving_142 ?_
            refine lv_goto (tgt := 152) hx hb dX4_saving_143 (by decide) ?_
            refine lv_istore (lv' := [(5, .int (σ 11 x1.toNatClampNeg)), (0, .ref (gA G 8)), (1, .int x1), (2, .int x2), (4, .int x4)]) hx hb dX4_saving_152 hl (by decide) rfl (fun ls hl => ?_)
            refine lv_iload hx hb dX4_saving_154 (lv_at hl 4 rfl) ?_
            refine lv_iload hx hb dX4_saving_156 (lv_at hl 0 rfl) ?_
            refine lv_icmp_ge (tgt := 166) hx hb dX4_saving_158 (by decide) (fun b6 => ?_) (fun b6 => ?_)
            · rw [if_pos b6] at hm
              refine lv_iload hx hb dX4_saving_166 (lv_at hl 0 rfl) ?_
              exact xir F hP hS (congrArg (fun z => (z, σ)) (Option.some.inj hm).symm) (by decide) (by decide) dX4_saving_168
            · rw [if_neg b6] at hm
              refine lv_iload hx hb dX4_saving_161 (lv_at hl 4 rfl) ?_
              refine lv_goto (tgt := 168) hx hb dX4_saving_163 (by decide) ?_
              exact xir F hP hS (congrArg (fun z => (z, σ)) (Option.some.inj hm).symm) (by decide) (by decide) dX4_saving_168
    · rw [if_neg b1] at hm
      refine lv_iload hx hb dX4_saving_76 (lv_at hl 3 rfl) ?_
      refine lv_aload_n hx hb dX4_saving_78 rfl (lv_at hl 0 rfl) ?_
      refine xg F 10 inX4 hP (kd_k kdc_8 (by decide)) (wc4 kdc_8) rfl (by decide) tk_563 rfl rfl dX4_saving_79 ?_
      refine lv_bipush (v := 10) hx hb dX4_saving_82 (by decide) ?_
      refine lv_iload_n hx hb dX4_saving_84 rfl (lv_at hl 1 rfl) ?_
      refine lv_imul hx hb dX4_saving_85 ?_
      refine lv_iload hx hb dX4_saving_86 (lv_at hl 4 rfl) ?_
      refine lv_iadd hx hb dX4_saving_88 ?_
      by_cases b7 : (((10 * x1) + x5) < 0 ∨ 160 ≤ ((10 * x1) + x5).toNatClampNeg)
      · rw [if_pos b7] at hm
        cases hm
      · rw [if_neg b7] at hm
        refine xil F hP kdc_16 lnc_16 b7 dX4_saving_89 ?_
        refine lv_if_le (tgt := 112) hx hb dX4_saving_90 (by decide) (fun b8 => ?_) (fun b8 => ?_)
        · rw [if_pos b8] at hm
          refine lv_iconst (v := 0) hx hb dX4_saving_112 (by decide) ?_
          refine lv_iadd hx hb dX4_saving_113 ?_
          refine lv_istore (lv' := [(4, .int (x4 + 0)), (0, .ref (gA G 8)), (1, .int x1), (2, .int x2), (5, .int x5)]) hx hb dX4_saving_114 hl (by decide) rfl (fun ls hl => ?_)
          refine lv_iinc (v := (x5 + 1)) (lv' := [(5, .int (x5 + 1)), (4, .int (x4 + 0)), (0, .ref (gA G 8)), (1, .int x1), (2, .int x2)]) hx hb dX4_saving_116 hl (k := 4) rfl rfl (by decide) rfl (fun ls hl => ?_)
          refine lv_goto (tgt := 69) hx hb dX4_saving_119 (by decide) ?_
          exact ih hm hP hS (lv_sub hl [2, 3, 4, 1, 0] rfl)
        · rw [if_neg b8] at hm
          refine lv_aload_n hx hb dX4_saving_93 rfl (lv_at hl 0 rfl) ?_
          refine xg F 10 inX4 hP (kd_k kdc_8 (by decide)) (wc4 kdc_8) rfl (by decide) tk_563 rfl rfl dX4_saving_94 ?_
          refine lv_bipush (v := 10) hx hb dX4_saving_97 (by decide) ?_
          refine lv_iload_n hx hb dX4_saving_99 rfl (lv_at hl 2 rfl) ?_
          refine lv_imul hx hb dX4_saving_100 ?_
          refine lv_iload hx hb dX4_saving_101 (lv_at hl 4 rfl) ?_
          refine lv_iadd hx hb dX4_saving_103 ?_
          by_cases b9 : (((10 * x2) + x5) < 0 ∨ 160 ≤ ((10 * x2) + x5).toNatClampNeg)
          · rw [if_pos b9] at hm
            cases hm
          · rw [if_neg b9] at hm
            refine xil F hP kdc_16 lnc_16 b9 dX4_saving_104 ?_
            refine lv_if_le (tgt := 112) hx hb dX4_saving_105 (by decide) (fun b10 => ?_) (fun b10 => ?_)
            · rw [if_pos b10] at hm
              refine lv_iconst (v := 0) hx hb dX4_saving_112 (by decide) ?_
              refine lv_iadd hx hb dX4_saving_113 ?_
              refine lv_istore (lv' := [(4, .int (x4 + 0)), (0, .ref (gA G 8)), (1, .int x1), (2, .int x2), (5, .int x5)]) hx hb dX4_saving_114 hl (by decide) rfl (fun ls hl => ?_)
              refine lv_iinc (v := (x5 + 1)) (lv' := [(5, .int (x5 + 1)), (4, .int (x4 + 0)), (0, .ref (gA G 8)), (1, .int x1), (2, .int x2)]) hx hb dX4_saving_116 hl (k := 4) rfl rfl (by decide) rfl (fun ls hl => ?_)
              refine lv_goto (tgt := 69) hx hb dX4_saving_119 (by decide) ?_
              exact ih hm hP hS (lv_sub hl [2, 3, 4, 1, 0] rfl)
            · rw [if_neg b10] at hm
              refine lv_iconst (v := 3) hx hb dX4_saving_108 (by decide) ?_
              refine lv_goto (tgt := 113) hx hb dX4_saving_109 (by decide) ?_
              refine lv_iadd hx hb dX4_saving_113 ?_
              refine lv_istore (lv' := [(4, .int (x4 + 3)), (0, .ref (gA G 8)), (1, .int x1), (2, .int x2), (5, .int x5)]) hx hb dX4_saving_114 hl (by decide) rfl (fun ls hl => ?_)
              refine lv_iinc (v := (x5 + 1)) (lv' := [(5, .int (x5 + 1)), (4, .int (x4 + 3)), (0, .ref (gA G 8)), (1, .int x1), (2, .int x2)]) hx hb dX4_saving_116 hl (k := 4) rfl rfl (by decide) rfl (fun ls hl => ?_)
              refine lv_goto (tgt := 69) hx hb dX4_saving_119 (by decide) ?_
              exact ih hm hP hS (lv_sub hl [2, 3, 4, 1, 0] rfl)
def f_X4_saving_64 (σ : St) (x1 : Int32) (x2 : Int32) (s0 : Int32) : Option RV :=
  f_X4_saving_69 σ x1 x2 40 s0 0
set_option maxHeartbeats 4000000 in
set_option maxRecDepth 100000 in
theorem w_X4_saving_64 {p : Program} {l : Launch} {e : Env} {s : State} {m : MethodId} {args : Array Value} {below : List Frame} {meth : Method} {c : Code} {G : GT} {lo : Nat → Int64} (F : Fx p l s args m meth c G cX4_saving 6 (some .int) RX4) {σ : St} {x1 : Int32} {x2 : Int32} {s0 : Int32} {r : RV} (hm : f_X4_saving_64 σ x1 x2 s0 = some r) {H : Heap} {locs : List Loc} (hP : va_P (gD G) vwCl (wld G lo σ) H) (hS : va_S (gF G) s.heap H locs) {ls : Array Slot} (hl : lv_has ls 6 [(0, .ref (gA G 8)), (1, .int x1), (2, .int x2)]) : W p l e (RM 0 0 0 0) s m args below meth c H locs 0 0 (vx_MQ below (QCr G lo (r, σ)) (XCr G lo (r, σ)) args s 0 0 (gF G)) (F0 m 64 ls [.int s0]) := by
  obtain ⟨hx, hb, hrt, hml, hown, hts, hlocks, hC, htab, hst⟩ := id F
  unfold f_X4_saving_64 at hm
  refine lv_istore (lv' := [(4, .int s0), (0, .ref (gA G 8)), (1, .int x1), (2, .int x2)]) hx hb dX4_saving_64 hl (by decide) rfl (fun ls hl => ?_)
  refine lv_iconst (v := 0) hx hb dX4_saving_66 (by decide) ?_
  refine lv_istore (lv' := [(5, .int 0), (4, .int s0), (0, .ref (gA G 8)), (1, .int x1), (2, .int x2)]) hx hb dX4_saving_67 hl (by decide) rfl (fun ls hl => ?_)
  exact w_X4_saving_69 F 40 hm hP hS (lv_sub hl [2, 3, 4, 1, 0] rfl)
def f_X4_saving_44 (σ : St) (x1 : Int32) (x2 : Int32) (s0 : Int32) : Option RV :=
  if s0 = 0 then
    f_X4_saving_64 σ x1 x2 10
  else
    if s0 = 1 then
      f_X4_saving_64 σ x1 x2 5
    else
      f_X4_saving_64 σ x1 x2 0
set_option maxHeartbeats 4000000 in
set_option maxRecDepth 100000 in
theorem w_X4_saving_44 {p : Program} {l : Launch} {e : Env} {s : State} {m : MethodId} {args : Array Value} {below : List Frame} {meth : Method} {c : Code} {G : GT} {lo : Nat → Int64} (F : Fx p l s args m meth c G cX4_saving 6 (some .int) RX4) {σ : St} {x1 : Int32} {x2 : Int32} {s0 : Int32} {r : RV} (hm : f_X4_saving_44 σ x1 x2 s0 = some r) {H : Heap} {locs : List Loc} (hP : va_P (gD G) vwCl (wld G lo σ) H) (hS : va_S (gF G) s.heap H locs) {ls : Array Slot} (hl : lv_has ls 6 [(0, .ref (gA G 8)), (1, .int x1), (2, .int x2)]) : W p l e (RM 0 0 0 0) s m args below meth c H locs 0 0 (vx_MQ below (QCr G lo (r, σ)) (XCr G lo (r, σ)) args s 0 0 (gF G)) (F0 m 44 ls [.int s0]) := by
  obtain ⟨hx, hb, hrt, hml, hown, hts, hlocks, hC, htab, hst⟩ := id F
  unfold f_X4_saving_44 at hm
  refine lv_istore_n (lv' := [(3, .int s0), (0, .ref (gA G 8)), (1, .int x1), (2, .int x2)]) hx hb dX4_saving_44 rfl hl (by decide) rfl (fun ls hl => ?_)
  refine lv_iload_n hx hb dX4_saving_45 rfl (lv_at hl 0 rfl) ?_
  refine lv_if_ne (tgt := 54) hx hb dX4_saving_46 (by decide) (fun b1 => ?_) (fun b1 => ?_)
  · rw [if_neg b1] at hm
    refine lv_iload_n hx hb dX4_saving_54 rfl (lv_at hl 0 rfl) ?_
    refine lv_iconst (v := 1) hx hb dX4_saving_55 (by decide) ?_
    refine lv_icmp_ne (tgt := 63) hx hb dX4_saving_56 (by decide) (fun b2 => ?_) (fun b2 => ?_)
    · rw [if_neg b2] at hm
      refine lv_iconst (v := 0) hx hb dX4_saving_63 (by decide) ?_
      exact w_X4_saving_64 F hm hP hS (lv_sub hl [1, 2, 3] rfl)
    · rw [if_pos b2] at hm
      refine lv_iconst (v := 5) hx hb dX4_saving_59 (by decide) ?_
      refine lv_goto (tgt := 64) hx hb dX4_saving_60 (by decide) ?_
      exact w_X4_saving_64 F hm hP hS (lv_sub hl [1, 2, 3] rfl)
  · rw [if_pos b1] at hm
    refine lv_bipush (v := 10) hx hb dX4_saving_49 (by decide) ?_
    refine lv_goto (tgt := 64) hx hb dX4_saving_51 (by decide) ?_
    exact w_X4_saving_64 F hm hP hS (lv_sub hl [1, 2, 3] rfl)
def f_X4_saving (σ : St) (x1 : Int32) (x2 : Int32) : Option RV :=
  if x1 < 0 ∨ 16 ≤ x1.toNatClampNeg then none
  else
    if x2 < 0 ∨ 16 ≤ x2.toNatClampNeg then none
    else
      if (σ 10 x1.toNatClampNeg) ≤ (σ 10 x2.toNatClampNeg) then
        f_X4_saving_44 σ x1 x2 ((σ 10 x2.toNatClampNeg) - (σ 10 x1.toNatClampNeg))
      else
        f_X4_saving_44 σ x1 x2 ((σ 10 x1.toNatClampNeg) - (σ 10 x2.toNatClampNeg))
set_option maxHeartbeats 4000000 in
set_option maxRecDepth 100000 in
theorem c_X4_saving {l : Launch} {G : GT} {σ : St} {x1 : Int32} {x2 : Int32} {r : RV} (hm : f_X4_saving σ x1 x2 = some r) : MC l G yX4_saving cX4_saving 6 (some .int) 0 0 0 0 [.inr 8, .inl x1, .inl x2] σ (r, σ) := by
  refine xbody (by decide) (Nat.le_of_ble_eq_true rfl) ?_
  intro lo p e s m args below meth c F hP ls hl
  have F : Fx p l s args m meth c G cX4_saving 6 (some .int) RX4 := F
  obtain ⟨hx, hb, hrt, hml, hown, hts, hlocks, hC, htab, hst⟩ := id F
  have hS : va_S (gF G) s.heap s.heap [] := va_S.rf
  have hl : lv_has ls 6 [(0, .ref (gA G 8)), (1, .int x1), (2, .int x2)] := hl
  unfold f_X4_saving at hm
  refine lv_aload_n hx hb dX4_saving_0 rfl (lv_at hl 0 rfl) ?_
  refine xg F 4 inX4 hP (kd_k kdc_8 (by decide)) (wc4 kdc_8) rfl (by decide) tk_557 rfl rfl dX4_saving_1 ?_
  refine lv_iload_n hx hb dX4_saving_4 rfl (lv_at hl 1 rfl) ?_
  by_cases b1 : (x1 < 0 ∨ 16 ≤ x1.toNatClampNeg)
  · rw [if_pos b1] at hm
    cases hm
  · rw [if_neg b1] at hm
    refine xil F hP kdc_10 lnc_10 b1 dX4_saving_5 ?_
    refine lv_aload_n hx hb dX4_saving_6 rfl (lv_at hl 0 rfl) ?_
    refine xg F 4 inX4 hP (kd_k kdc_8 (by decide)) (wc4 kdc_8) rfl (by decide) tk_557 rfl rfl dX4_saving_7 ?_
    refine lv_iload_n hx hb dX4_saving_10 rfl (lv_at hl 2 rfl) ?_
    by_cases b2 : (x2 < 0 ∨ 16 ≤ x2.toNatClampNeg)
    · rw [if_pos b2] at hm
      cases hm
    · rw [if_neg b2] at hm
      refine xil F hP kdc_10 lnc_10 b2 dX4_saving_11 ?_
      refine lv_icmp_le (tgt := 31) hx hb dX4_saving_12 (by decide) (fun b3 => ?_) (fun b3 => ?_)
      · rw [if_pos b3] at hm
        refine lv_aload_n hx hb dX4_saving_31 rfl (lv_at hl 0 rfl) ?_
        refine xg F 4 inX4 hP (kd_k kdc_8 (by decide)) (wc4 kdc_8) rfl (by decide) tk_557 rfl rfl dX4_saving_32 ?_
        refine lv_iload_n hx hb dX4_saving_35 rfl (lv_at hl 2 rfl) ?_
        refine xil F hP kdc_10 lnc_10 b2 dX4_saving_36 ?_
        refine lv_aload_n hx hb dX4_saving_37 rfl (lv_at hl 0 rfl) ?_
        refine xg F 4 inX4 hP (kd_k kdc_8 (by decide)) (wc4 kdc_8) rfl (by decide) tk_557 rfl rfl dX4_saving_38 ?_
        refine lv_iload_n hx hb dX4_saving_41 rfl (lv_at hl 1 rfl) ?_
        refine xil F hP kdc_10 lnc_10 b1 dX4_saving_42 ?_
        refine lv_isub hx hb dX4_saving_43 ?_
        exact w_X4_saving_44 F hm hP hS (lv_sub hl [0, 1, 2] rfl)
      · rw [if_neg b3] at hm
        refine lv_aload_n hx hb dX4_saving_15 rfl (lv_at hl 0 rfl) ?_
        refine xg F 4 inX4 hP (kd_k kdc_8 (by decide)) (wc4 kdc_8) rfl (by decide) tk_557 rfl rfl dX4_saving_16 ?_
        refine lv_iload_n hx hb dX4_saving_19 rfl (lv_at hl 1 rfl) ?_
        refine xil F hP kdc_10 lnc_10 b1 dX4_saving_20 ?_
        refine lv_aload_n hx hb dX4_saving_21 rfl (lv_at hl 0 rfl) ?_
        refine xg F 4 inX4 hP (kd_k kdc_8 (by decide)) (wc4 kdc_8) rfl (by decide) tk_557 rfl rfl dX4_saving_22 ?_
        refine lv_iload_n hx hb dX4_saving_25 rfl (lv_at hl 2 rfl) ?_
        refine xil F hP kdc_10 lnc_10 b2 dX4_saving_26 ?_
        refine lv_isub hx hb dX4_saving_27 ?_
        refine lv_goto (tgt := 44) hx hb dX4_saving_28 (by decide) ?_
        exact w_X4_saving_44 F hm hP hS (lv_sub hl [0, 1, 2] rfl)
/-! ===== X4_savedBy ===== -/
def f_X4_savedBy_4 (σ : St) (x1 : Int32) : Nat → Int32 → Int32 → Option RV
  | 0, _, _ => none
  | n + 1, x2, x3 =>
    if (σ 8 2) ≤ x3 then
      some (.inl (some (.inl x2)))
    else
      if x3 < 0 ∨ 16 ≤ x3.toNatClampNeg then none
      else
        if x1 < 0 ∨ 16 ≤ x1.toNatClampNeg then none
        else
          if (σ 13 x3.toNatClampNeg) = (σ 13 x1.toNatClampNeg) then
            if (σ 14 x1.toNatClampNeg) ≤ (σ 14 x3.toNatClampNeg) then
              f_X4_savedBy_4 σ x1 n x2 (x3 + 1)
            else
              ri (f_X4_saving σ x3 x1) (fun x6_ =>
                if x6_ ≤ x2 then
                  f_X4_savedBy_4 σ x1 n x2 (x3 + 1)
                else
                  ri (f_X4_saving σ x3 x1) (fun x8_ =>
                    f_X4_savedBy_4 σ x1 n x8_ (x3 + 1)))
          else
            f_X4_savedBy_4 σ x1 n x2 (x3 + 1)
set_option maxHeartbeats 4000000 in
set_option maxRecDepth 100000 in
theorem w_X4_savedBy_4 {p : Program} {l : Launch} {e : Env} {s : State} {m : MethodId} {args : Array Value} {below : List Frame} {meth : Method} {c : Code} {G : GT} {lo : Nat → Int64} (F : Fx p l s args m meth c G cX4_savedBy 4 (some .int) RX4) {σ : St} {x1 : Int32} : ∀ (n : Nat) {x2 : Int32} {x3 : Int32} {r : RV}, f_X4_savedBy_4 σ x1 n x2 x3 = some r → ∀ {H : Heap} {locs : List Loc}, va_P (gD G) vwCl (wld G lo σ) H → va_S (gF G) s.heap H locs → ∀ {ls : Array Slot}, lv_has ls 4 [(0, .ref (gA G 8)), (1, .int x1), (2, .int x2), (3, .int x3)] → W p l e (RM 1 25 0 0) s m args below meth c H locs 0 0 (vx_MQ below (QCr G lo (r, σ)) (XCr G lo (r, σ)) args s 0 0 (gF G)) (F0 m 4 ls []) := by
  obtain ⟨hx, hb, hrt, hml, hown, hts, hlocks, hC, htab, hst⟩ := id F
  intro n
  induction n with
  | zero =>
    intro x2 x3 r hm
    simp only [f_X4_savedBy_4] at hm
    cases hm
  | succ n ih =>
    intro x2 x3 r hm H locs hP hS ls hl
    rw [f_X4_savedBy_4] at hm
    refine lv_iload_n hx hb dX4_savedBy_4 rfl (lv_at hl 3 rfl) ?_
    refine lv_aload_n hx hb dX4_savedBy_5 rfl (lv_at hl 0 rfl) ?_
    refine xg F 2 inX4 hP (kd_k kdc_8 (by decide)) (wc4 kdc_8) rfl (by decide) tk_555 rfl rfl dX4_savedBy_6 ?_
    refine lv_icmp_ge (tgt := 65) hx hb dX4_savedBy_9 (by decide) (fun b1 => ?_) (fun b1 => ?_)
    · rw [if_pos b1] at hm
      refine lv_iload_n hx hb dX4_savedBy_65 rfl (lv_at hl 2 rfl) ?_
      exact xir F hP hS (congrArg (fun z => (z, σ)) (Option.some.inj hm).symm) (by decide) (by decide) dX4_savedBy_66
    · rw [if_neg b1] at hm
      refine lv_aload_n hx hb dX4_savedBy_12 rfl (lv_at hl 0 rfl) ?_
      refine xg F 7 inX4 hP (kd_k kdc_8 (by decide)) (wc4 kdc_8) rfl (by decide) tk_560 rfl rfl dX4_savedBy_13 ?_
      refine lv_iload_n hx hb dX4_savedBy_16 rfl (lv_at hl 3 rfl) ?_
      by_cases b2 : (x3 < 0 ∨ 16 ≤ x3.toNatClampNeg)
      · rw [if_pos b2] at hm
        cases hm
      · rw [if_neg b2] at hm
        refine xil F hP kdc_13 lnc_13 b2 dX4_savedBy_17 ?_
        refine lv_aload_n hx hb dX4_savedBy_18 rfl (lv_at hl 0 rfl) ?_
        refine xg F 7 inX4 hP (kd_k kdc_8 (by decide)) (wc4 kdc_8) rfl (by decide) tk_560 rfl rfl dX4_savedBy_19 ?_
        refine lv_iload_n hx hb dX4_savedBy_22 rfl (lv_at hl 1 rfl) ?_
        by_cases b3 : (x1 < 0 ∨ 16 ≤ x1.toNatClampNeg)
        · rw [if_pos b3] at hm
          cases hm
        · rw [if_neg b3] at hm
          refine xil F hP kdc_13 lnc_13 b3 dX4_savedBy_23 ?_
          refine lv_icmp_ne (tgt := 59) hx hb dX4_savedBy_24 (by decide) (fun b4 => ?_) (fun b4 => ?_)
          · rw [if_neg b4] at hm
            refine lv_iinc (v := (x3 + 1)) (lv' := [(3, .int (x3 + 1)), (0, .ref (gA G 8)), (1, .int x1), (2, .int x2)]) hx hb dX4_savedBy_59 hl (k := 3) rfl rfl (by decide) rfl (fun ls hl => ?_)
            refine lv_goto (tgt := 4) hx hb dX4_savedBy_62 (by decide) ?_
            exact ih hm hP hS (lv_sub hl [1, 2, 3, 0] rfl)
          · rw [if_pos b4] at hm
            refine lv_aload_n hx hb dX4_savedBy_27 rfl (lv_at hl 0 rfl) ?_
            refine xg F 8 inX4 hP (kd_k kdc_8 (by decide)) (wc4 kdc_8) rfl (by decide) tk_561 rfl rfl dX4_savedBy_28 ?_
            refine lv_iload_n hx hb dX4_savedBy_31 rfl (lv_at hl 3 rfl) ?_
            refine xil F hP kdc_14 lnc_14 b2 dX4_savedBy_32 ?_
            refine lv_aload_n hx hb dX4_savedBy_33 rfl (lv_at hl 0 rfl) ?_
            refine xg F 8 inX4 hP (kd_k kdc_8 (by decide)) (wc4 kdc_8) rfl (by decide) tk_561 rfl rfl dX4_savedBy_34 ?_
            refine lv_iload_n hx hb dX4_savedBy_37 rfl (lv_at hl 1 rfl) ?_
            refine xil F hP kdc_14 lnc_14 b3 dX4_savedBy_38 ?_
            refine lv_icmp_ge (tgt := 59) hx hb dX4_savedBy_39 (by decide) (fun b5 => ?_) (fun b5 => ?_)
            · rw [if_pos b5] at hm
              refine lv_iinc (v := (x3 + 1)) (lv' := [(3, .int (x3 + 1)), (0, .ref (gA G 8)), (1, .int x1), (2, .int x2)]) hx hb dX4_savedBy_59 hl (k := 3) rfl rfl (by decide) rfl (fun ls hl => ?_)
              refine lv_goto (tgt := 4) hx hb dX4_savedBy_62 (by decide) ?_
              exact ih hm hP hS (lv_sub hl [1, 2, 3, 0] rfl)
            · rw [if_neg b5] at hm
              refine lv_aload_n hx hb dX4_savedBy_42 rfl (lv_at hl 0 rfl) ?_
              refine lv_iload_n hx hb dX4_savedBy_43 rfl (lv_at hl 3 rfl) ?_
              refine lv_iload_n hx hb dX4_savedBy_44 rfl (lv_at hl 1 rfl) ?_
              obtain ⟨x6_, h6, hm⟩ := ri_inv hm
              refine xV F (c_X4_saving h6) tk_699 tk_696 tk_698 tu_44 tk_6 rfl 2 (by decide +kernel) rfl ⟨Nat.le_of_ble_eq_true rfl, Nat.le_of_ble_eq_true rfl⟩ hP hS (kd_k kdc_8 (by decide)) (wc4 kdc_8) rfl hl.1 rfl (Nat.le_of_ble_eq_true rfl) dX4_savedBy_45 ⟨Nat.le_of_ble_eq_true rfl, Nat.le_of_ble_eq_true rfl⟩ (fun v hv H locs hP hS => ?_) (fun E hE => by cases hE)
              cases hv
              replace hP : va_P (gD G) vwCl (wld G lo σ) H := hP
              refine W.eq (g2 := F0 m 48 ls [.int x6_]) rfl ?_
              refine lv_iload_n hx hb dX4_savedBy_48 rfl (lv_at hl 2 rfl) ?_
              refine lv_icmp_le (tgt := 59) hx hb dX4_savedBy_49 (by decide) (fun b7 => ?_) (fun b7 => ?_)
              · rw [if_pos b7] at hm
                refine lv_iinc (v := (x3 + 1)) (lv' := [(3, .int (x3 + 1)), (0, .ref (gA G 8)), (1, .int x1), (2, .int x2)]) hx hb dX4_savedBy_59 hl (k := 3) rfl rfl (by decide) rfl (fun ls hl => ?_)
                refine lv_goto (tgt := 4) hx hb dX4_savedBy_62 (by decide) ?_
                exact ih hm hP hS (lv_sub hl [1, 2, 3, 0] rfl)
              · rw [if_neg b7] at hm
                refine lv_aload_n hx hb dX4_savedBy_52 rfl (lv_at hl 0 rfl) ?_
                refine lv_iload_n hx hb dX4_savedBy_53 rfl (lv_at hl 3 rfl) ?_
                refine lv_iload_n hx hb dX4_savedBy_54 rfl (lv_at hl 1 rfl) ?_
                obtain ⟨x8_, h8, hm⟩ := ri_inv hm
                refine xV F (c_X4_saving h8) tk_699 tk_696 tk_698 tu_44 tk_6 rfl 2 (by decide +kernel) rfl ⟨Nat.le_of_ble_eq_true rfl, Nat.le_of_ble_eq_true rfl⟩ hP hS (kd_k kdc_8 (by decide)) (wc4 kdc_8) rfl hl.1 rfl (Nat.le_of_ble_eq_true rfl) dX4_savedBy_55 ⟨Nat.le_of_ble_eq_true rfl, Nat.le_of_ble_eq_true rfl⟩ (fun v hv H locs hP hS => ?_) (fun E hE => by cases hE)
                cases hv
                replace hP : va_P (gD G) vwCl (wld G lo σ) H := hP
                refine W.eq (g2 := F0 m 58 ls [.int x8_]) rfl ?_
                refine lv_istore_n (lv' := [(2, .int x8_), (0, .ref (gA G 8)), (1, .int x1), (3, .int x3)]) hx hb dX4_savedBy_58 rfl hl (by decide) rfl (fun ls hl => ?_)
                refine lv_iinc (v := (x3 + 1)) (lv' := [(3, .int (x3 + 1)), (2, .int x8_), (0, .ref (gA G 8)), (1, .int x1)]) hx hb dX4_savedBy_59 hl (k := 3) rfl rfl (by decide) rfl (fun ls hl => ?_)
                refine lv_goto (tgt := 4) hx hb dX4_savedBy_62 (by decide) ?_
                exact ih hm hP hS (lv_sub hl [2, 3, 1, 0] rfl)
def f_X4_savedBy (σ : St) (x1 : Int32) : Option RV :=
  f_X4_savedBy_4 σ x1 40 0 0
set_option maxHeartbeats 4000000 in
set_option maxRecDepth 100000 in
theorem c_X4_savedBy {l : Launch} {G : GT} {σ : St} {x1 : Int32} {r : RV} (hm : f_X4_savedBy σ x1 = some r) : MC l G yX4_savedBy cX4_savedBy 4 (some .int) 1 25 0 0 [.inr 8, .inl x1] σ (r, σ) := by
  refine xbody (by decide) (Nat.le_of_ble_eq_true rfl) ?_
  intro lo p e s m args below meth c F hP ls hl
  have F : Fx p l s args m meth c G cX4_savedBy 4 (some .int) RX4 := F
  obtain ⟨hx, hb, hrt, hml, hown, hts, hlocks, hC, htab, hst⟩ := id F
  have hS : va_S (gF G) s.heap s.heap [] := va_S.rf
  have hl : lv_has ls 4 [(0, .ref (gA G 8)), (1, .int x1)] := hl
  unfold f_X4_savedBy at hm
  refine lv_iconst (v := 0) hx hb dX4_savedBy_0 (by decide) ?_
  refine lv_istore_n (lv' := [(2, .int 0), (0, .ref (gA G 8)), (1, .int x1)]) hx hb dX4_savedBy_1 rfl hl (by decide) rfl (fun ls hl => ?_)
  refine lv_iconst (v := 0) hx hb dX4_savedBy_2 (by decide) ?_
  refine lv_istore_n (lv' := [(3, .int 0), (2, .int 0), (0, .ref (gA G 8)), (1, .int x1)]) hx hb dX4_savedBy_3 rfl hl (by decide) rfl (fun ls hl => ?_)
  exact w_X4_savedBy_4 F 40 hm hP hS (lv_sub hl [2, 3, 1, 0] rfl)
/-! ===== X4_savedOf ===== -/
def f_X4_savedOf_4 (σ : St) (x1 : Int32) : Nat → Int32 → Int32 → Option RV
  | 0, _, _ => none
  | n + 1, x2, x3 =>
    if (σ 8 2) ≤ x3 then
      some (.inl (some (.inl x2)))
    else
      if x3 < 0 ∨ 16 ≤ x3.toNatClampNeg then none
      else
        if (σ 13 x3.toNatClampNeg) = x1 then
          ri (f_X4_savedBy σ x3) (fun x4_ =>
            f_X4_savedOf_4 σ x1 n (x2 + x4_) (x3 + 1))
        else
          f_X4_savedOf_4 σ x1 n (x2 + 0) (x3 + 1)
set_option maxHeartbeats 4000000 in
set_option maxRecDepth 100000 in
theorem w_X4_savedOf_4 {p : Program} {l : Launch} {e : Env} {s : State} {m : MethodId} {args : Array Value} {below : List Frame} {meth : Method} {c : Code} {G : GT} {lo : Nat → Int64} (F : Fx p l s args m meth c G cX4_savedOf 4 (some .int) RX4) {σ : St} {x1 : Int32} : ∀ (n : Nat) {x2 : Int32} {x3 : Int32} {r : RV}, f_X4_savedOf_4 σ x1 n x2 x3 = some r → ∀ {H : Heap} {locs : List Loc}, va_P (gD G) vwCl (wld G lo σ) H → va_S (gF G) s.heap H locs → ∀ {ls : Array Slot}, lv_has ls 4 [(0, .ref (gA G 8)), (1, .int x1), (2, .int x2), (3, .int x3)] → W p l e (RM 2 48 0 0) s m args below meth c H locs 0 0 (vx_MQ below (QCr G lo (r, σ)) (XCr G lo (r, σ)) args s 0 0 (gF G)) (F0 m 4 ls []) := by
  obtain ⟨hx, hb, hrt, hml, hown, hts, hlocks, hC, htab, hst⟩ := id F
  intro n
  induction n with
  | zero =>
    intro x2 x3 r hm
    simp only [f_X4_savedOf_4] at hm
    cases hm
  | succ n ih =>
    intro x2 x3 r hm H locs hP hS ls hl
    rw [f_X4_savedOf_4] at hm
    refine lv_iload_n hx hb dX4_savedOf_4 rfl (lv_at hl 3 rfl) ?_
    refine lv_aload_n hx hb dX4_savedOf_5 rfl (lv_at hl 0 rfl) ?_
    refine xg F 2 inX4 hP (kd_k kdc_8 (by decide)) (wc4 kdc_8) rfl (by decide) tk_555 rfl rfl dX4_savedOf_6 ?_
    refine lv_icmp_ge (tgt := 40) hx hb dX4_savedOf_9 (by decide) (fun b1 => ?_) (fun b1 => ?_)
    · rw [if_pos b1] at hm
      refine lv_iload_n hx hb dX4_savedOf_40 rfl (lv_at hl 2 rfl) ?_
      exact xir F hP hS (congrArg (fun z => (z, σ)) (Option.some.inj hm).symm) (by decide) (by decide) dX4_savedOf_41
    · rw [if_neg b1] at hm
      refine lv_iload_n hx hb dX4_savedOf_12 rfl (lv_at hl 2 rfl) ?_
      refine lv_aload_n hx hb dX4_savedOf_13 rfl (lv_at hl 0 rfl) ?_
      refine xg F 7 inX4 hP (kd_k kdc_8 (by decide)) (wc4 kdc_8) rfl (by decide) tk_560 rfl rfl dX4_savedOf_14 ?_
      refine lv_iload_n hx hb dX4_savedOf_17 rfl (lv_at hl 3 rfl) ?_
      by_cases b2 : (x3 < 0 ∨ 16 ≤ x3.toNatClampNeg)
      · rw [if_pos b2] at hm
        cases hm
      · rw [if_neg b2] at hm
        refine xil F hP kdc_13 lnc_13 b2 dX4_savedOf_18 ?_
        refine lv_iload_n hx hb dX4_savedOf_19 rfl (lv_at hl 1 rfl) ?_
        refine lv_icmp_ne (tgt := 31) hx hb dX4_savedOf_20 (by decide) (fun b3 => ?_) (fun b3 => ?_)
        · rw [if_neg b3] at hm
          refine lv_iconst (v := 0) hx hb dX4_savedOf_31 (by decide) ?_
          refine lv_iadd hx hb dX4_savedOf_32 ?_
          refine lv_istore_n (lv' := [(2, .int (x2 + 0)), (0, .ref (gA G 8)), (1, .int x1), (3, .int x3)]) hx hb dX4_savedOf_33 rfl hl (by decide) rfl (fun ls hl => ?_)
          refine lv_iinc (v := (x3 + 1)) (lv' := [(3, .int (x3 + 1)), (2, .int (x2 + 0)), (0, .ref (gA G 8)), (1, .int x1)]) hx hb dX4_savedOf_34 hl (k := 3) rfl rfl (by decide) rfl (fun ls hl => ?_)
          refine lv_goto (tgt := 4) hx hb dX4_savedOf_37 (by decide) ?_
          exact ih hm hP hS (lv_sub hl [2, 3, 1, 0] rfl)
        · rw [if_pos b3] at hm
          refine lv_aload_n hx hb dX4_savedOf_23 rfl (lv_at hl 0 rfl) ?_
          refine lv_iload_n hx hb dX4_savedOf_24 rfl (lv_at hl 3 rfl) ?_
          obtain ⟨x4_, h4, hm⟩ := ri_inv hm
          refine xV F (c_X4_savedBy h4) tk_727 tk_724 tk_726 tu_49 tk_6 rfl 1 (by decide +kernel) rfl ⟨Nat.le_of_ble_eq_true rfl, Nat.le_of_ble_eq_true rfl⟩ hP hS (kd_k kdc_8 (by decide)) (wc4 kdc_8) rfl hl.1 rfl (Nat.le_of_ble_eq_true rfl) dX4_savedOf_25 ⟨Nat.le_of_ble_eq_true rfl, Nat.le_of_ble_eq_true rfl⟩ (fun v hv H locs hP hS => ?_) (fun E hE => by cases hE)
          cases hv
          replace hP : va_P (gD G) vwCl (wld G lo σ) H := hP
          refine W.eq (g2 := F0 m 28 ls [.int x4_, .int x2]) rfl ?_
          refine lv_goto (tgt := 32) hx hb dX4_savedOf_28 (by decide) ?_
          refine lv_iadd hx hb dX4_savedOf_32 ?_
          refine lv_istore_n (lv' := [(2, .int (x2 + x4_)), (0, .ref (gA G 8)), (1, .int x1), (3, .int x3)]) hx hb dX4_savedOf_33 rfl hl (by decide) rfl (fun ls hl => ?_)
          refine lv_iinc (v := (x3 + 1)) (lv' := [(3, .int (x3 + 1)), (2, .int (x2 + x4_)), (0, .ref (gA G 8)), (1, .int x1)]) hx hb dX4_savedOf_34 hl (k := 3) rfl rfl (by decide) rfl (fun ls hl => ?_)
          refine lv_goto (tgt := 4) hx hb dX4_savedOf_37 (by decide) ?_
          exact ih hm hP hS (lv_sub hl [2, 3, 1, 0] rfl)
def f_X4_savedOf (σ : St) (x1 : Int32) : Option RV :=
  f_X4_savedOf_4 σ x1 40 0 0
set_option maxHeartbeats 4000000 in
set_option maxRecDepth 100000 in
theorem c_X4_savedOf {l : Launch} {G : GT} {σ : St} {x1 : Int32} {r : RV} (hm : f_X4_savedOf σ x1 = some r) : MC l G yX4_savedOf cX4_savedOf 4 (some .int) 2 48 0 0 [.inr 8, .inl x1] σ (r, σ) := by
  refine xbody (by decide) (Nat.le_of_ble_eq_true rfl) ?_
  intro lo p e s m args below meth c F hP ls hl
  have F : Fx p l s args m meth c G cX4_savedOf 4 (some .int) RX4 := F
  obtain ⟨hx, hb, hrt, hml, hown, hts, hlocks, hC, htab, hst⟩ := id F
  have hS : va_S (gF G) s.heap s.heap [] := va_S.rf
  have hl : lv_has ls 4 [(0, .ref (gA G 8)), (1, .int x1)] := hl
  unfold f_X4_savedOf at hm
  refine lv_iconst (v := 0) hx hb dX4_savedOf_0 (by decide) ?_
  refine lv_istore_n (lv' := [(2, .int 0), (0, .ref (gA G 8)), (1, .int x1)]) hx hb dX4_savedOf_1 rfl hl (by decide) rfl (fun ls hl => ?_)
  refine lv_iconst (v := 0) hx hb dX4_savedOf_2 (by decide) ?_
  refine lv_istore_n (lv' := [(3, .int 0), (2, .int 0), (0, .ref (gA G 8)), (1, .int x1)]) hx hb dX4_savedOf_3 rfl hl (by decide) rfl (fun ls hl => ?_)
  exact w_X4_savedOf_4 F 40 hm hP hS (lv_sub hl [2, 3, 1, 0] rfl)
