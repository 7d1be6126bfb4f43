/-! ===== X0_open ===== -/
def f_X0_open (σ : St) (x1 : Int32) (x2 : Int32) (x3 : Int32) : Option (RV × St) :=
  if 10 ≤ (σ 1 3) then
    some (.inl none, σ)
  else
    if (σ 1 3) < 0 ∨ 10 ≤ (σ 1 3).toNatClampNeg then none
    else
      if ((up2 σ 2 (σ 1 3).toNatClampNeg x1) 1 3) < 0 ∨ 10 ≤ ((up2 σ 2 (σ 1 3).toNatClampNeg x1) 1 3).toNatClampNeg then none
      else
        if ((up2 (up2 σ 2 (σ 1 3).toNatClampNeg x1) 3 ((up2 σ 2 (σ 1 3).toNatClampNeg x1) 1 3).toNatClampNeg x2) 1 3) < 0 ∨ 10 ≤ ((up2 (up2 σ 2 (σ 1 3).toNatClampNeg x1) 3 ((up2 σ 2 (σ 1 3).toNatClampNeg x1) 1 3).toNatClampNeg x2) 1 3).toNatClampNeg then none
        else
          some (.inl none, (up2 (up2 (up2 (up2 σ 2 (σ 1 3).toNatClampNeg x1) 3 ((up2 σ 2 (σ 1 3).toNatClampNeg x1) 1 3).toNatClampNeg x2) 4 ((up2 (up2 σ 2 (σ 1 3).toNatClampNeg x1) 3 ((up2 σ 2 (σ 1 3).toNatClampNeg x1) 1 3).toNatClampNeg x2) 1 3).toNatClampNeg x3) 1 3 (((up2 (up2 (up2 σ 2 (σ 1 3).toNatClampNeg x1) 3 ((up2 σ 2 (σ 1 3).toNatClampNeg x1) 1 3).toNatClampNeg x2) 4 ((up2 (up2 σ 2 (σ 1 3).toNatClampNeg x1) 3 ((up2 σ 2 (σ 1 3).toNatClampNeg x1) 1 3).toNatClampNeg x2) 1 3).toNatClampNeg x3) 1 3) + 1)))
set_option maxHeartbeats 4000000 in
set_option maxRecDepth 100000 in
theorem c_X0_open {l : Launch} {G : GT} {σ : St} {x1 : Int32} {x2 : Int32} {x3 : Int32} {r : RV × St} (hm : f_X0_open σ x1 x2 x3 = some r) : MC l G yX0_open cX0_open 4 none 0 0 0 0 [.inr 1, .inl x1, .inl x2, .inl x3] σ r := by
  refine xbody (by decide) (Nat.le_of_ble_eq_true rfl) ?_
  intro lo p e s m args below meth c F hP ls hl
  have F : Fx p l s args m meth c G cX0_open 4 none RX0 := F
  obtain ⟨hx, hb, hrt, hml, hown, hts, hlocks, hC, htab, hst⟩ := id F
  have hS : va_S (gF G) s.heap s.heap [] := va_S.rf
  have hl : lv_has ls 4 [(0, .ref (gA G 1)), (1, .int x1), (2, .int x2), (3, .int x3)] := hl
  unfold f_X0_open at hm
  refine lv_aload_n hx hb dX0_open_0 rfl (lv_at hl 0 rfl) ?_
  refine xg F 3 inX0 hP (kd_k kdc_1 (by decide)) (wc0 kdc_1) rfl (by decide) tk_38 rfl rfl dX0_open_1 ?_
  refine lv_bipush (v := 10) hx hb dX0_open_4 (by decide) ?_
  refine lv_icmp_ge (tgt := 49) hx hb dX0_open_6 (by decide) (fun b1 => ?_) (fun b1 => ?_)
  · rw [if_pos b1] at hm
    exact xvr F hP hS (Option.some.inj hm).symm (by decide) (by decide) dX0_open_49
  · rw [if_neg b1] at hm
    refine lv_aload_n hx hb dX0_open_9 rfl (lv_at hl 0 rfl) ?_
    refine xg F 0 inX0 hP (kd_k kdc_1 (by decide)) (wc0 kdc_1) rfl (by decide) tk_35 rfl rfl dX0_open_10 ?_
    refine lv_aload_n hx hb dX0_open_13 rfl (lv_at hl 0 rfl) ?_
    refine xg F 3 inX0 hP (kd_k kdc_1 (by decide)) (wc0 kdc_1) rfl (by decide) tk_38 rfl rfl dX0_open_14 ?_
    refine lv_iload_n hx hb dX0_open_17 rfl (lv_at hl 1 rfl) ?_
    by_cases b2 : ((σ 1 3) < 0 ∨ 10 ≤ (σ 1 3).toNatClampNeg)
    · rw [if_pos b2] at hm
      cases hm
    · rw [if_neg b2] at hm
      refine xis F (v := x1) hP hS kdc_2 lnc_2 b2 dX0_open_18 (fun H locs hP hS => ?_)
      refine lv_aload_n hx hb dX0_open_19 rfl (lv_at hl 0 rfl) ?_
      refine xg F 1 inX0 hP (kd_k kdc_1 (by decide)) (wc0 kdc_1) rfl (by decide) tk_36 rfl rfl dX0_open_20 ?_
      refine lv_aload_n hx hb dX0_open_23 rfl (lv_at hl 0 rfl) ?_
      refine xg F 3 inX0 hP (kd_k kdc_1 (by decide)) (wc0 kdc_1) rfl (by decide) tk_38 rfl rfl dX0_open_24 ?_
      refine lv_iload_n hx hb dX0_open_27 rfl (lv_at hl 2 rfl) ?_
      by_cases b3 : (((up2 σ 2 (σ 1 3).toNatClampNeg x1) 1 3) < 0 ∨ 10 ≤ ((up2 σ 2 (σ 1 3).toNatClampNeg x1) 1 3).toNatClampNeg)
      · rw [if_pos b3] at hm
        cases hm
      · rw [if_neg b3] at hm
        refine xis F (v := x2) hP hS kdc_3 lnc_3 b3 dX0_open_28 (fun H locs hP hS => ?_)
        refine lv_aload_n hx hb dX0_open_29 rfl (lv_at hl 0 rfl) ?_
        refine xg F 2 inX0 hP (kd_k kdc_1 (by decide)) (wc0 kdc_1) rfl (by decide) tk_37 rfl rfl dX0_open_30 ?_
        refine lv_aload_n hx hb dX0_open_33 rfl (lv_at hl 0 rfl) ?_
        refine xg F 3 inX0 hP (kd_k kdc_1 (by decide)) (wc0 kdc_1) rfl (by decide) tk_38 rfl rfl dX0_open_34 ?_
        refine lv_iload_n hx hb dX0_open_37 rfl (lv_at hl 3 rfl) ?_
        by_cases b4 : (((up2 (up2 σ 2 (σ 1 3).toNatClampNeg x1) 3 ((up2 σ 2 (σ 1 3).toNatClampNeg x1) 1 3).toNatClampNeg x2) 1 3) < 0 ∨ 10 ≤ ((up2 (up2 σ 2 (σ 1 3).toNatClampNeg x1) 3 ((up2 σ 2 (σ 1 3).toNatClampNeg x1) 1 3).toNatClampNeg x2) 1 3).toNatClampNeg)
        · rw [if_pos b4] at hm
          cases hm
        · rw [if_neg b4] at hm
          refine xis F (v := x3) hP hS kdc_4 lnc_4 b4 dX0_open_38 (fun H locs hP hS => ?_)
          refine lv_aload_n hx hb dX0_open_39 rfl (lv_at hl 0 rfl) ?_
          refine lv_dup hx hb dX0_open_40 rfl ?_
          refine xg F 3 inX0 hP (kd_k kdc_1 (by decide)) (wc0 kdc_1) rfl (by decide) tk_38 rfl rfl dX0_open_41 ?_
          refine lv_iconst (v := 1) hx hb dX0_open_44 (by decide) ?_
          refine lv_iadd hx hb dX0_open_45 ?_
          refine xp F (v := (((up2 (up2 (up2 σ 2 (σ 1 3).toNatClampNeg x1) 3 ((up2 σ 2 (σ 1 3).toNatClampNeg x1) 1 3).toNatClampNeg x2) 4 ((up2 (up2 σ 2 (σ 1 3).toNatClampNeg x1) 3 ((up2 σ 2 (σ 1 3).toNatClampNeg x1) 1 3).toNatClampNeg x2) 1 3).toNatClampNeg x3) 1 3) + 1)) (ty := .int) 3 inX0 tyX0_ok nmX0 hP hS (kd_k kdc_1 (by decide)) (wc0 kdc_1) (wu0_3 kdc_1) rfl (by decide) tk_38 rfl rfl rfl rfl rfl (Nat.le_of_ble_eq_true rfl) dX0_open_46 (fun H locs hP hS => ?_)
          exact xvr F hP hS (Option.some.inj hm).symm (by decide) (by decide) dX0_open_49
/-! ===== X0_hoursOf ===== -/
def f_X0_hoursOf_4 (σ : St) (x1 : Int32) : Nat → Int32 → Int32 → Option RV
  | 0, _, _ => none
  | n + 1, x2, x3 =>
    if (σ 1 3) ≤ x3 then
      some (.inl (some (.inl x2)))
    else
      if x3 < 0 ∨ 10 ≤ x3.toNatClampNeg then none
      else
        if (σ 2 x3.toNatClampNeg) = x1 then
          f_X0_hoursOf_4 σ x1 n (x2 + 1) (x3 + 1)
        else
          f_X0_hoursOf_4 σ x1 n x2 (x3 + 1)
set_option maxHeartbeats 4000000 in
set_option maxRecDepth 100000 in
theorem w_X0_hoursOf_4 {p : Program} {l : Launch} {e : Env} {s : State} {m : MethodId} {args : Array Value} {below : List Frame} {meth : Method} {c : Code} {G : GT} {lo : Nat → Int64} (F : Fx p l s args m meth c G cX0_hoursOf 4 (some .int) RX0) {σ : St} {x1 : Int32} : ∀ (n : Nat) {x2 : Int32} {x3 : Int32} {r : RV}, f_X0_hoursOf_4 σ x1 n x2 x3 = some r → ∀ {H : Heap} {locs : List Loc}, va_P (gD G) vwCl (wld G lo σ) H → va_S (gF G) s.heap H locs → ∀ {ls : Array Slot}, lv_has ls 4 [(0, .ref (gA G 1)), (1, .int x1), (2, .int x2), (3, .int x3)] → W p l e (RM 0 0 0 0) s m args below meth c H locs 0 0 (vx_MQ below (QCr G lo (r, σ)) (XCr G lo (r, σ)) args s 0 0 (gF G)) (F0 m 4 ls []) := by
  obtain ⟨hx, hb, hrt, hml, hown, hts, hlocks, hC, htab, hst⟩ := id F
  intro n
  induction n with
  | zero =>
    intro x2 x3 r hm
    simp only [f_X0_hoursOf_4] at hm
    cases hm
  | succ n ih =>
    intro x2 x3 r hm H locs hP hS ls hl
    rw [f_X0_hoursOf_4] at hm
    refine lv_iload_n hx hb dX0_hoursOf_4 rfl (lv_at hl 3 rfl) ?_
    refine lv_aload_n hx hb dX0_hoursOf_5 rfl (lv_at hl 0 rfl) ?_
    refine xg F 3 inX0 hP (kd_k kdc_1 (by decide)) (wc0 kdc_1) rfl (by decide) tk_38 rfl rfl dX0_hoursOf_6 ?_
    refine lv_icmp_ge (tgt := 31) hx hb dX0_hoursOf_9 (by decide) (fun b1 => ?_) (fun b1 => ?_)
    · rw [if_pos b1] at hm
      refine lv_iload_n hx hb dX0_hoursOf_31 rfl (lv_at hl 2 rfl) ?_
      exact xir F hP hS (congrArg (fun z => (z, σ)) (Option.some.inj hm).symm) (by decide) (by decide) dX0_hoursOf_32
    · rw [if_neg b1] at hm
      refine lv_aload_n hx hb dX0_hoursOf_12 rfl (lv_at hl 0 rfl) ?_
      refine xg F 0 inX0 hP (kd_k kdc_1 (by decide)) (wc0 kdc_1) rfl (by decide) tk_35 rfl rfl dX0_hoursOf_13 ?_
      refine lv_iload_n hx hb dX0_hoursOf_16 rfl (lv_at hl 3 rfl) ?_
      by_cases b2 : (x3 < 0 ∨ 10 ≤ x3.toNatClampNeg)
      · rw [if_pos b2] at hm
        cases hm
      · rw [if_neg b2] at hm
        refine xil F hP kdc_2 lnc_2 b2 dX0_hoursOf_17 ?_
        refine lv_iload_n hx hb dX0_hoursOf_18 rfl (lv_at hl 1 rfl) ?_
        refine lv_icmp_ne (tgt := 25) hx hb dX0_hoursOf_19 (by decide) (fun b3 => ?_) (fun b3 => ?_)
        · rw [if_neg b3] at hm
          refine lv_iinc (v := (x3 + 1)) (lv' := [(3, .int (x3 + 1)), (0, .ref (gA G 1)), (1, .int x1), (2, .int x2)]) hx hb dX0_hoursOf_25 hl (k := 3) rfl rfl (by decide) rfl (fun ls hl => ?_)
          refine lv_goto (tgt := 4) hx hb dX0_hoursOf_28 (by decide) ?_
          exact ih hm hP hS (lv_sub hl [1, 2, 3, 0] rfl)
        · rw [if_pos b3] at hm
          refine lv_iinc (v := (x2 + 1)) (lv' := [(2, .int (x2 + 1)), (0, .ref (gA G 1)), (1, .int x1), (3, .int x3)]) hx hb dX0_hoursOf_22 hl (k := 2) rfl rfl (by decide) rfl (fun ls hl => ?_)
          refine lv_iinc (v := (x3 + 1)) (lv' := [(3, .int (x3 + 1)), (2, .int (x2 + 1)), (0, .ref (gA G 1)), (1, .int x1)]) hx hb dX0_hoursOf_25 hl (k := 3) rfl rfl (by decide) rfl (fun ls hl => ?_)
          refine lv_goto (tgt := 4) hx hb dX0_hoursOf_28 (by decide) ?_
          exact ih hm hP hS (lv_sub hl [2, 3, 1, 0] rfl)
def f_X0_hoursOf (σ : St) (x1 : Int32) : Option RV :=
  f_X0_hoursOf_4 σ x1 40 0 0
set_option maxHeartbeats 4000000 in
set_option maxRecDepth 100000 in
theorem c_X0_hoursOf {l : Launch} {G : GT} {σ : St} {x1 : Int32} {r : RV} (hm : f_X0_hoursOf σ x1 = some r) : MC l G yX0_hoursOf cX0_hoursOf 4 (some .int) 0 0 0 0 [.inr 1, .inl x1] σ (r, σ) := by
  refine xbody (by decide) (Nat.le_of_ble_eq_true rfl) ?_
  intro lo p e s m args below meth c F hP ls hl
  have F : Fx p l s args m meth c G cX0_hoursOf 4 (some .int) RX0 := F
  obtain ⟨hx, hb, hrt, hml, hown, hts, hlocks, hC, htab, hst⟩ := id F
  have hS : va_S (gF G) s.heap s.heap [] := va_S.rf
  have hl : lv_has ls 4 [(0, .ref (gA G 1)), (1, .int x1)] := hl
  unfold f_X0_hoursOf at hm
  refine lv_iconst (v := 0) hx hb dX0_hoursOf_0 (by decide) ?_
  refine lv_istore_n (lv' := [(2, .int 0), (0, .ref (gA G 1)), (1, .int x1)]) hx hb dX0_hoursOf_1 rfl hl (by decide) rfl (fun ls hl => ?_)
  refine lv_iconst (v := 0) hx hb dX0_hoursOf_2 (by decide) ?_
  refine lv_istore_n (lv' := [(3, .int 0), (2, .int 0), (0, .ref (gA G 1)), (1, .int x1)]) hx hb dX0_hoursOf_3 rfl hl (by decide) rfl (fun ls hl => ?_)
  exact w_X0_hoursOf_4 F 40 hm hP hS (lv_sub hl [2, 3, 1, 0] rfl)
/-! ===== X0_have ===== -/
def f_X0_have_2 (σ : St) (x1 : Int32) (x2 : Int32) : Nat → Int32 → Option RV
  | 0, _ => none
  | n + 1, x3 =>
    if (σ 1 3) ≤ x3 then
      some (.inl (some (.inl 0)))
    else
      if x3 < 0 ∨ 10 ≤ x3.toNatClampNeg then none
      else
        if (σ 2 x3.toNatClampNeg) = x1 then
          if x2 < (σ 3 x3.toNatClampNeg) then
            f_X0_have_2 σ x1 x2 n (x3 + 1)
          else
            if (σ 4 x3.toNatClampNeg) < x2 then
              f_X0_have_2 σ x1 x2 n (x3 + 1)
            else
              some (.inl (some (.inl 1)))
        else
          f_X0_have_2 σ x1 x2 n (x3 + 1)
set_option maxHeartbeats 4000000 in
set_option maxRecDepth 100000 in
theorem w_X0_have_2 {p : Program} {l : Launch} {e : Env} {s : State} {m : MethodId} {args : Array Value} {below : List Frame} {meth : Method} {c : Code} {G : GT} {lo : Nat → Int64} (F : Fx p l s args m meth c G cX0_have 4 (some .boolean) RX0) {σ : St} {x1 : Int32} {x2 : Int32} : ∀ (n : Nat) {x3 : Int32} {r : RV}, f_X0_have_2 σ x1 x2 n x3 = some r → ∀ {H : Heap} {locs : List Loc}, va_P (gD G) vwCl (wld G lo σ) H → va_S (gF G) s.heap H locs → ∀ {ls : Array Slot}, lv_has ls 4 [(0, .ref (gA G 1)), (1, .int x1), (2, .int x2), (3, .int x3)] → W p l e (RM 0 0 0 0) s m args below meth c H locs 0 0 (vx_MQ below (QCr G lo (r, σ)) (XCr G lo (r, σ)) args s 0 0 (gF G)) (F0 m 2 ls []) := by
  obtain ⟨hx, hb, hrt, hml, hown, hts, hlocks, hC, htab, hst⟩ := id F
  intro n
  induction n with
  | zero =>
    intro x3 r hm
    simp only [f_X0_have_2] at hm
    cases hm
  | succ n ih =>
    intro x3 r hm H locs hP hS ls hl
    rw [f_X0_have_2] at hm
    refine lv_iload_n hx hb dX0_have_2 rfl (lv_at hl 3 rfl) ?_
    refine lv_aload_n hx hb dX0_have_3 rfl (lv_at hl 0 rfl) ?_
    refine xg F 3 inX0 hP (kd_k kdc_1 (by decide)) (wc0 kdc_1) rfl (by decide) tk_38 rfl rfl dX0_have_4 ?_
    refine lv_icmp_ge (tgt := 48) hx hb dX0_have_7 (by decide) (fun b1 => ?_) (fun b1 => ?_)
    · rw [if_pos b1] at hm
      refine lv_iconst (v := 0) hx hb dX0_have_48 (by decide) ?_
      exact xzr F hP hS rfl (congrArg (fun z => (z, σ)) (Option.some.inj hm).symm) (by decide) (by decide) dX0_have_49
    · rw [if_neg b1] at hm
      refine lv_aload_n hx hb dX0_have_10 rfl (lv_at hl 0 rfl) ?_
      refine xg F 0 inX0 hP (kd_k kdc_1 (by decide)) (wc0 kdc_1) rfl (by decide) tk_35 rfl rfl dX0_have_11 ?_
      refine lv_iload_n hx hb dX0_have_14 rfl (lv_at hl 3 rfl) ?_
      by_cases b2 : (x3 < 0 ∨ 10 ≤ x3.toNatClampNeg)
      · rw [if_pos b2] at hm
        cases hm
      · rw [if_neg b2] at hm
        refine xil F hP kdc_2 lnc_2 b2 dX0_have_15 ?_
        refine lv_iload_n hx hb dX0_have_16 rfl (lv_at hl 1 rfl) ?_
        refine lv_icmp_ne (tgt := 42) hx hb dX0_have_17 (by decide) (fun b3 => ?_) (fun b3 => ?_)
        · rw [if_neg b3] at hm
          refine lv_iinc (v := (x3 + 1)) (lv' := [(3, .int (x3 + 1)), (0, .ref (gA G 1)), (1, .int x1), (2, .int x2)]) hx hb dX0_have_42 hl (k := 3) rfl rfl (by decide) rfl (fun ls hl => ?_)
          refine lv_goto (tgt := 2) hx hb dX0_have_45 (by decide) ?_
          exact ih hm hP hS (lv_sub hl [1, 2, 3, 0] rfl)
        · rw [if_pos b3] at hm
          refine lv_aload_n hx hb dX0_have_20 rfl (lv_at hl 0 rfl) ?_
          refine xg F 1 inX0 hP (kd_k kdc_1 (by decide)) (wc0 kdc_1) rfl (by decide) tk_36 rfl rfl dX0_have_21 ?_
          refine lv_iload_n hx hb dX0_have_24 rfl (lv_at hl 3 rfl) ?_
          refine xil F hP kdc_3 lnc_3 b2 dX0_have_25 ?_
          refine lv_iload_n hx hb dX0_have_26 rfl (lv_at hl 2 rfl) ?_
          refine lv_icmp_gt (tgt := 42) hx hb dX0_have_27 (by decide) (fun b4 => ?_) (fun b4 => ?_)
          · rw [if_pos b4] at hm
            refine lv_iinc (v := (x3 + 1)) (lv' := [(3, .int (x3 + 1)), (0, .ref (gA G 1)), (1, .int x1), (2, .int x2)]) hx hb dX0_have_42 hl (k := 3) rfl rfl (by decide) rfl (fun ls hl => ?_)
            refine lv_goto (tgt := 2) hx hb dX0_have_45 (by decide) ?_
            exact ih hm hP hS (lv_sub hl [1, 2, 3, 0] rfl)
          · rw [if_neg b4] at hm
            refine lv_iload_n hx hb dX0_have_30 rfl (lv_at hl 2 rfl) ?_
            refine lv_aload_n hx hb dX0_have_31 rfl (lv_at hl 0 rfl) ?_
            refine xg F 2 inX0 hP (kd_k kdc_1 (by decide)) (wc0 kdc_1) rfl (by decide) tk_37 rfl rfl dX0_have_32 ?_
            refine lv_iload_n hx hb dX0_have_35 rfl (lv_at hl 3 rfl) ?_
            refine xil F hP kdc_4 lnc_4 b2 dX0_have_36 ?_
            refine lv_icmp_gt (tgt := 42) hx hb dX0_have_37 (by decide) (fun b5 => ?_) (fun b5 => ?_)
            · rw [if_pos b5] at hm
              refine lv_iinc (v := (x3 + 1)) (lv' := [(3, .int (x3 + 1)), (0, .ref (gA G 1)), (1, .int x1), (2, .int x2)]) hx hb dX0_have_42 hl (k := 3) rfl rfl (by decide) rfl (fun ls hl => ?_)
              refine lv_goto (tgt := 2) hx hb dX0_have_45 (by decide) ?_
              exact ih hm hP hS (lv_sub hl [1, 2, 3, 0] rfl)
            · rw [if_neg b5] at hm
              refine lv_iconst (v := 1) hx hb dX0_have_40 (by decide) ?_
              exact xzr F hP hS rfl (congrArg (fun z => (z, σ)) (Option.some.inj hm).symm) (by decide) (by decide) dX0_have_41
def f_X0_have (σ : St) (x1 : Int32) (x2 : Int32) : Option RV :=
  f_X0_have_2 σ x1 x2 40 0
set_option maxHeartbeats 4000000 in
set_option maxRecDepth 100000 in
theorem c_X0_have {l : Launch} {G : GT} {σ : St} {x1 : Int32} {x2 : Int32} {r : RV} (hm : f_X0_have σ x1 x2 = some r) : MC l G yX0_have cX0_have 4 (some .boolean) 0 0 0 0 [.inr 1, .inl x1, .inl x2] σ (r, σ) := by
  refine xbody (by decide) (Nat.le_of_ble_eq_true rfl) ?_
  intro lo p e s m args below meth c F hP ls hl
  have F : Fx p l s args m meth c G cX0_have 4 (some .boolean) RX0 := F
  obtain ⟨hx, hb, hrt, hml, hown, hts, hlocks, hC, htab, hst⟩ := id F
  have hS : va_S (gF G) s.heap s.heap [] := va_S.rf
  have hl : lv_has ls 4 [(0, .ref (gA G 1)), (1, .int x1), (2, .int x2)] := hl
  unfold f_X0_have at hm
  refine lv_iconst (v := 0) hx hb dX0_have_0 (by decide) ?_
  refine lv_istore_n (lv' := [(3, .int 0), (0, .ref (gA G 1)), (1, .int x1), (2, .int x2)]) hx hb dX0_have_1 rfl hl (by decide) rfl (fun ls hl => ?_)
  exact w_X0_have_2 F 40 hm hP hS (lv_sub hl [1, 2, 3, 0] rfl)
/-! ===== X1_savingWith ===== -/
def f_X1_savingWith_39 (σ : St) (q0 : Nat) (q1 : Nat) : Nat → Int32 → Int32 → Option RV
  | 0, _, _ => none
  | n + 1, x2, x3 =>
    if 10 ≤ x3 then
      some (.inl (some (.inl (if (if (σ q1 2) < (σ q0 2) then (σ q1 2) else (σ q0 2)) < x2 then (if (σ q1 2) < (σ q0 2) then (σ q1 2) else (σ q0 2)) else x2))))
    else
      if x3 < 0 ∨ 10 ≤ x3.toNatClampNeg then none
      else
        if (σ (q0 + 1) x3.toNatClampNeg) ≤ 0 then
          f_X1_savingWith_39 σ q0 q1 n x2 (x3 + 1)
        else
          if (σ (q1 + 1) x3.toNatClampNeg) ≤ 0 then
            f_X1_savingWith_39 σ q0 q1 n x2 (x3 + 1)
          else
            f_X1_savingWith_39 σ q0 q1 n (x2 + 3) (x3 + 1)
set_option maxHeartbeats 4000000 in
set_option maxRecDepth 100000 in
theorem w_X1_savingWith_39 {p : Program} {l : Launch} {e : Env} {s : State} {m : MethodId} {args : Array Value} {below : List Frame} {meth : Method} {c : Code} {G : GT} {lo : Nat → Int64} (F : Fx p l s args m meth c G cX1_savingWith 4 (some .int) RX1) {σ : St} {q0 : Nat} {q1 : Nat} (k0 : kd q0 = 1) (k1 : kd q1 = 1) : ∀ (n : Nat) {x2 : Int32} {x3 : Int32} {r : RV}, f_X1_savingWith_39 σ q0 q1 n x2 x3 = some r → ∀ {H : Heap} {locs : List Loc}, va_P (gD G) vwCl (wld G lo σ) H → va_S (gF G) s.heap H locs → ∀ {ls : Array Slot}, lv_has ls 4 [(0, .ref (gA G q0)), (1, .ref (gA G q1)), (2, .int x2), (3, .int x3)] → W p l e (RM 1 21 0 0) s m args below meth c H locs 0 0 (vx_MQ below (QCr G lo (r, σ)) (XCr G lo (r, σ)) args s 0 0 (gF G)) (F0 m 39 ls []) := by
  obtain ⟨hx, hb, hrt, hml, hown, hts, hlocks, hC, htab, hst⟩ := id F
  intro n
  induction n with
  | zero =>
    intro x2 x3 r hm
    simp only [f_X1_savingWith_39] at hm
    cases hm
  | succ n ih =>
    intro x2 x3 r hm H locs hP hS ls hl
    rw [f_X1_savingWith_39] at hm
    refine lv_iload_n hx hb dX1_savingWith_39 rfl (lv_at hl 3 rfl) ?_
    refine lv_bipush (v := 10) hx hb dX1_savingWith_40 (by decide) ?_
    refine lv_icmp_ge (tgt := 72) hx hb dX1_savingWith_42 (by decide) (fun b1 => ?_) (fun b1 => ?_)
    · rw [if_pos b1] at hm
      refine lv_iload_n hx hb dX1_savingWith_72 rfl (lv_at hl 2 rfl) ?_
      refine lv_aload_n hx hb dX1_savingWith_73 rfl (lv_at hl 0 rfl) ?_
      refine xg F 2 inX1 hP (kd_k k0 (by decide)) (wc1 k0) rfl (by decide) tk_61 rfl rfl dX1_savingWith_74 ?_
      refine lv_aload_n hx hb dX1_savingWith_77 rfl (lv_at hl 1 rfl) ?_
      refine xg F 2 inX1 hP (kd_k k1 (by decide)) (wc1 k1) rfl (by decide) tk_61 rfl rfl dX1_savingWith_78 ?_
      refine xmn F tk_171 tk_24 tk_2 tk_25 hl.1 (by decide) (Nat.le_of_ble_eq_true rfl) (by decide) (by decide) dX1_savingWith_81 ?_
      refine xmn F tk_171 tk_24 tk_2 tk_25 hl.1 (by decide) (Nat.le_of_ble_eq_true rfl) (by decide) (by decide) dX1_savingWith_84 ?_
      exact xir F hP hS (congrArg (fun z => (z, σ)) (Option.some.inj hm).symm) (by decide) (by decide) dX1_savingWith_87
    · rw [if_neg b1] at hm
      refine lv_aload_n hx hb dX1_savingWith_45 rfl (lv_at hl 0 rfl) ?_
      refine xg F 5 inX1 hP (kd_k k0 (by decide)) (wc1 k0) rfl (by decide) tk_64 rfl rfl dX1_savingWith_46 ?_
      refine lv_iload_n hx hb dX1_savingWith_49 rfl (lv_at hl 3 rfl) ?_
      by_cases b2 : (x3 < 0 ∨ 10 ≤ x3.toNatClampNeg)
      · rw [if_pos b2] at hm
        cases hm
      · rw [if_neg b2] at hm
        refine xil F hP ((kd_ordA _ k0).1) ((kd_ordA _ k0).2) b2 dX1_savingWith_50 ?_
        refine lv_if_le (tgt := 66) hx hb dX1_savingWith_51 (by decide) (fun b3 => ?_) (fun b3 => ?_)
        · rw [if_pos b3] at hm
          refine lv_iinc (v := (x3 + 1)) (lv' := [(3, .int (x3 + 1)), (0, .ref (gA G q0)), (1, .ref (gA G q1)), (2, .int x2)]) hx hb dX1_savingWith_66 hl (k := 3) rfl rfl (by decide) rfl (fun ls hl => ?_)
          refine lv_goto (tgt := 39) hx hb dX1_savingWith_69 (by decide) ?_
          exact ih hm hP hS (lv_sub hl [1, 2, 3, 0] rfl)
        · rw [if_neg b3] at hm
          refine lv_aload_n hx hb dX1_savingWith_54 rfl (lv_at hl 1 rfl) ?_
          refine xg F 5 inX1 hP (kd_k k1 (by decide)) (wc1 k1) rfl (by decide) tk_64 rfl rfl dX1_savingWith_55 ?_
          refine lv_iload_n hx hb dX1_savingWith_58 rfl (lv_at hl 3 rfl) ?_
          refine xil F hP ((kd_ordA _ k1).1) ((kd_ordA _ k1).2) b2 dX1_savingWith_59 ?_
          refine lv_if_le (tgt := 66) hx hb dX1_savingWith_60 (by decide) (fun b4 => ?_) (fun b4 => ?_)
          · rw [if_pos b4] at hm
            refine lv_iinc (v := (x3 + 1)) (lv' := [(3, .int (x3 + 1)), (0, .ref (gA G q0)), (1, .ref (gA G q1)), (2, .int x2)]) hx hb dX1_savingWith_66 hl (k := 3) rfl rfl (by decide) rfl (fun ls hl => ?_)
            refine lv_goto (tgt := 39) hx hb dX1_savingWith_69 (by decide) ?_
            exact ih hm hP hS (lv_sub hl [1, 2, 3, 0] rfl)
          · rw [if_neg b4] at hm
            refine lv_iinc (v := (x2 + 3)) (lv' := [(2, .int (x2 + 3)), (0, .ref (gA G q0)), (1, .ref (gA G q1)), (3, .int x3)]) hx hb dX1_savingWith_63 hl (k := 2) rfl rfl (by decide) rfl (fun ls hl => ?_)
            refine lv_iinc (v := (x3 + 1)) (lv' := [(3, .int (x3 + 1)), (2, .int (x2 + 3)), (0, .ref (gA G q0)), (1, .ref (gA G q1))]) hx hb dX1_savingWith_66 hl (k := 3) rfl rfl (by decide) rfl (fun ls hl => ?_)
            refine lv_goto (tgt := 39) hx hb dX1_savingWith_69 (by decide) ?_
            exact ih hm hP hS (lv_sub hl [2, 3, 1, 0] rfl)
def f_X1_savingWith_37 (σ : St) (q0 : Nat) (q1 : Nat) (x2 : Int32) : Option RV :=
  f_X1_savingWith_39 σ q0 q1 40 x2 0
set_option maxHeartbeats 4000000 in
set_option maxRecDepth 100000 in
theorem w_X1_savingWith_37 {p : Program} {l : Launch} {e : Env} {s : State} {m : MethodId} {args : Array Value} {below : List Frame} {meth : Method} {c : Code} {G : GT} {lo : Nat → Int64} (F : Fx p l s args m meth c G cX1_savingWith 4 (some .int) RX1) {σ : St} {q0 : Nat} {q1 : Nat} {x2 : Int32} (k0 : kd q0 = 1) (k1 : kd q1 = 1) {r : RV} (hm : f_X1_savingWith_37 σ q0 q1 x2 = some r) {H : Heap} {locs : List Loc} (hP : va_P (gD G) vwCl (wld G lo σ) H) (hS : va_S (gF G) s.heap H locs) {ls : Array Slot} (hl : lv_has ls 4 [(0, .ref (gA G q0)), (1, .ref (gA G q1)), (2, .int x2)]) : W p l e (RM 1 21 0 0) s m args below meth c H locs 0 0 (vx_MQ below (QCr G lo (r, σ)) (XCr G lo (r, σ)) args s 0 0 (gF G)) (F0 m 37 ls []) := by
  obtain ⟨hx, hb, hrt, hml, hown, hts, hlocks, hC, htab, hst⟩ := id F
  unfold f_X1_savingWith_37 at hm
  refine lv_iconst (v := 0) hx hb dX1_savingWith_37 (by decide) ?_
  refine lv_istore_n (lv' := [(3, .int 0), (0, .ref (gA G q0)), (1, .ref (gA G q1)), (2, .int x2)]) hx hb dX1_savingWith_38 rfl hl (by decide) rfl (fun ls hl => ?_)
  exact w_X1_savingWith_39 F k0 k1 40 hm hP hS (lv_sub hl [1, 2, 3, 0] rfl)
def f_X1_savingWith (σ : St) (q0 : Nat) (q1 : Nat) : Option RV :=
  if (σ q0 1) = (σ q1 1) then
    f_X1_savingWith_37 σ q0 q1 10
  else
    if (if 0 ≤ ((σ q0 1) - (σ q1 1)) then ((σ q0 1) - (σ q1 1)) else 0 - ((σ q0 1) - (σ q1 1))) = 1 then
      f_X1_savingWith_37 σ q0 q1 5
    else
      f_X1_savingWith_37 σ q0 q1 0
set_option maxHeartbeats 4000000 in
set_option maxRecDepth 100000 in
theorem c_X1_savingWith {l : Launch} {G : GT} {σ : St} {q0 : Nat} {q1 : Nat} (k0 : kd q0 = 1) (k1 : kd q1 = 1) {r : RV} (hm : f_X1_savingWith σ q0 q1 = some r) : MC l G yX1_savingWith cX1_savingWith 4 (some .int) 1 21 0 0 [.inr q0, .inr q1] σ (r, σ) := by
  refine xbody (by decide) (Nat.le_of_ble_eq_true rfl) ?_
  intro lo p e s m args below meth c F hP ls hl
  have F : Fx p l s args m meth c G cX1_savingWith 4 (some .int) RX1 := F
  obtain ⟨hx, hb, hrt, hml, hown, hts, hlocks, hC, htab, hst⟩ := id F
  have hS : va_S (gF G) s.heap s.heap [] := va_S.rf
  have hl : lv_has ls 4 [(0, .ref (gA G q0)), (1, .ref (gA G q1))] := hl
  unfold f_X1_savingWith at hm
  refine lv_iconst (v := 0) hx hb dX1_savingWith_0 (by decide) ?_
  refine lv_istore_n (lv' := [(2, .int 0), (0, .ref (gA G q0)), (1, .ref (gA G q1))]) hx hb dX1_savingWith_1 rfl hl (by decide) rfl (fun ls hl => ?_)
  refine lv_aload_n hx hb dX1_savingWith_2 rfl (lv_at hl 1 rfl) ?_
  refine xg F 1 inX1 hP (kd_k k0 (by decide)) (wc1 k0) rfl (by decide) tk_58 rfl rfl dX1_savingWith_3 ?_
  refine lv_aload_n hx hb dX1_savingWith_6 rfl (lv_at hl 2 rfl) ?_
  refine xg F 1 inX1 hP (kd_k k1 (by decide)) (wc1 k1) rfl (by decide) tk_58 rfl rfl dX1_savingWith_7 ?_
  refine lv_icmp_ne (tgt := 19) hx hb dX1_savingWith_10 (by decide) (fun b1 => ?_) (fun b1 => ?_)
  · rw [if_neg b1] at hm
    refine lv_aload_n hx hb dX1_savingWith_19 rfl (lv_at hl 1 rfl) ?_
    refine xg F 1 inX1 hP (kd_k k0 (by decide)) (wc1 k0) rfl (by decide) tk_58 rfl rfl dX1_savingWith_20 ?_
    refine lv_aload_n hx hb dX1_savingWith_23 rfl (lv_at hl 2 rfl) ?_
    refine xg F 1 inX1 hP (kd_k k1 (by decide)) (wc1 k1) rfl (by decide) tk_58 rfl rfl dX1_savingWith_24 ?_
    refine lv_isub hx hb dX1_savingWith_27 ?_
    refine xab F tk_168 tk_169 tk_2 tk_170 hl.1 (by decide) (Nat.le_of_ble_eq_true rfl) (by decide) (by decide) dX1_savingWith_28 ?_
    refine lv_iconst (v := 1) hx hb dX1_savingWith_31 (by decide) ?_
    refine lv_icmp_ne (tgt := 37) hx hb dX1_savingWith_32 (by decide) (fun b2 => ?_) (fun b2 => ?_)
    · rw [if_neg b2] at hm
      exact w_X1_savingWith_37 F k0 k1 hm hP hS (lv_sub hl [1, 2, 0] rfl)
    · rw [if_pos b2] at hm
      refine lv_iconst (v := 5) hx hb dX1_savingWith_35 (by decide) ?_
      refine lv_istore_n (lv' := [(2, .int 5), (0, .ref (gA G q0)), (1, .ref (gA G q1))]) hx hb dX1_savingWith_36 rfl hl (by decide) rfl (fun ls hl => ?_)
      exact w_X1_savingWith_37 F k0 k1 hm hP hS (lv_sub hl [1, 2, 0] rfl)
  · rw [if_pos b1] at hm
    refine lv_bipush (v := 10) hx hb dX1_savingWith_13 (by decide) ?_
    refine lv_istore_n (lv' := [(2, .int 10), (0, .ref (gA G q0)), (1, .ref (gA G q1))]) hx hb dX1_savingWith_15 rfl hl (by decide) rfl (fun ls hl => ?_)
    refine lv_goto (tgt := 37) hx hb dX1_savingWith_16 (by decide) ?_
    exact w_X1_savingWith_37 F k0 k1 hm hP hS (lv_sub hl [1, 2, 0] rfl)
/-! ===== X2_add ===== -/
def f_X2_add (σ : St) (q0 : Nat) (x1 : Int32) : Option (RV × St) :=
  if 16 ≤ (σ q0 1) then
    some (.inl none, σ)
  else
    if (σ q0 1) < 0 ∨ 16 ≤ (σ q0 1).toNatClampNeg then none
    else
      some (.inl none, (up2 (up2 σ (q0 + 1) (σ q0 1).toNatClampNeg x1) q0 1 (((up2 σ (q0 + 1) (σ q0 1).toNatClampNeg x1) q0 1) + 1)))
set_option maxHeartbeats 4000000 in
set_option maxRecDepth 100000 in
theorem c_X2_add {l : Launch} {G : GT} {σ : St} {q0 : Nat} {x1 : Int32} (k0 : kd q0 = 2) {r : RV × St} (hm : f_X2_add σ q0 x1 = some r) : MC l G yX2_add cX2_add 2 none 0 0 0 0 [.inr q0, .inl x1] σ r := by
  refine xbody (by decide) (Nat.le_of_ble_eq_true rfl) ?_
  intro lo p e s m args below meth c F hP ls hl
  have F : Fx p l s args m meth c G cX2_add 2 none RX2 := F
  obtain ⟨hx, hb, hrt, hml, hown, hts, hlocks, hC, htab, hst⟩ := id F
  have hS : va_S (gF G) s.heap s.heap [] := va_S.rf
  have hl : lv_has ls 2 [(0, .ref (gA G q0)), (1, .int x1)] := hl
  unfold f_X2_add at hm
  refine lv_aload_n hx hb dX2_add_0 rfl (lv_at hl 0 rfl) ?_
  refine xg F 1 inX2 hP (kd_k k0 (by decide)) (wc2 k0) rfl (by decide) tk_98 rfl rfl dX2_add_1 ?_
  refine lv_bipush (v := 16) hx hb dX2_add_4 (by decide) ?_
  refine lv_icmp_ge (tgt := 29) hx hb dX2_add_6 (by decide) (fun b1 => ?_) (fun b1 => ?_)
  · rw [if_pos b1] at hm
    exact xvr F hP hS (Option.some.inj hm).symm (by decide) (by decide) dX2_add_29
  · rw [if_neg b1] at hm
    refine lv_aload_n hx hb dX2_add_9 rfl (lv_at hl 0 rfl) ?_
    refine xg F 0 inX2 hP (kd_k k0 (by decide)) (wc2 k0) rfl (by decide) tk_96 rfl rfl dX2_add_10 ?_
    refine lv_aload_n hx hb dX2_add_13 rfl (lv_at hl 0 rfl) ?_
    refine xg F 1 inX2 hP (kd_k k0 (by decide)) (wc2 k0) rfl (by decide) tk_98 rfl rfl dX2_add_14 ?_
    refine lv_iload_n hx hb dX2_add_17 rfl (lv_at hl 1 rfl) ?_
    by_cases b2 : ((σ q0 1) < 0 ∨ 16 ≤ (σ q0 1).toNatClampNeg)
    · rw [if_pos b2] at hm
      cases hm
    · rw [if_neg b2] at hm
      refine xis F (v := x1) hP hS ((kd_wavA _ k0).1) ((kd_wavA _ k0).2) b2 dX2_add_18 (fun H locs hP hS => ?_)
      refine lv_aload_n hx hb dX2_add_19 rfl (lv_at hl 0 rfl) ?_
      refine lv_dup hx hb dX2_add_20 rfl ?_
      refine xg F 1 inX2 hP (kd_k k0 (by decide)) (wc2 k0) rfl (by decide) tk_98 rfl rfl dX2_add_21 ?_
      refine lv_iconst (v := 1) hx hb dX2_add_24 (by decide) ?_
      refine lv_iadd hx hb dX2_add_25 ?_
      refine xp F (v := (((up2 σ (q0 + 1) (σ q0 1).toNatClampNeg x1) q0 1) + 1)) (ty := .int) 1 inX2 tyX2_ok nmX2 hP hS (kd_k k0 (by decide)) (wc2 k0) (wu2_1 k0) rfl (by decide) tk_98 rfl rfl rfl rfl rfl (Nat.le_of_ble_eq_true rfl) dX2_add_26 (fun H locs hP hS => ?_)
      exact xvr F hP hS (Option.some.inj hm).symm (by decide) (by decide) dX2_add_29
/-! ===== X2_addAll ===== -/
def f_X2_addAll_2 (q0 : Nat) (q1 : Nat) : Nat → St → Int32 → Option (RV × St)
  | 0, _, _ => none
  | n + 1, σ, x2 =>
    if (σ q1 1) ≤ x2 then
      some (.inl none, σ)
    else
      if x2 < 0 ∨ 16 ≤ x2.toNatClampNeg then none
      else
        nv (f_X2_add σ q0 (σ (q1 + 1) x2.toNatClampNeg)) (fun σ3 =>
          f_X2_addAll_2 q0 q1 n σ3 (x2 + 1))
set_option maxHeartbeats 4000000 in
set_option maxRecDepth 100000 in
theorem w_X2_addAll_2 {p : Program} {l : Launch} {e : Env} {s : State} {m : MethodId} {args : Array Value} {below : List Frame} {meth : Method} {c : Code} {G : GT} {lo : Nat → Int64} (F : Fx p l s args m meth c G cX2_addAll 3 none RX2) {q0 : Nat} {q1 : Nat} (k0 : kd q0 = 2) (k1 : kd q1 = 2) : ∀ (n : Nat) {σ : St} {x2 : Int32} {r : RV × St}, f_X2_addAll_2 q0 q1 n σ x2 = some r → ∀ {H : Heap} {locs : List Loc}, va_P (gD G) vwCl (wld G lo σ) H → va_S (gF G) s.heap H locs → ∀ {ls : Array Slot}, lv_has ls 3 [(0, .ref (gA G q0)), (1, .ref (gA G q1)), (2, .int x2)] → W p l e (RM 1 21 0 0) s m args below meth c H locs 0 0 (vx_MQ below (QCr G lo r) (XCr G lo r) args s 0 0 (gF G)) (F0 m 2 ls []) := by
  obtain ⟨hx, hb, hrt, hml, hown, hts, hlocks, hC, htab, hst⟩ := id F
  intro n
  induction n with
  | zero =>
    intro σ x2 r hm
    simp only [f_X2_addAll_2] at hm
    cases hm
  | succ n ih =>
    intro σ x2 r hm H locs hP hS ls hl
    rw [f_X2_addAll_2] at hm
    refine lv_iload_n hx hb dX2_addAll_2 rfl (lv_at hl 2 rfl) ?_
    refine lv_aload_n hx hb dX2_addAll_3 rfl (lv_at hl 1 rfl) ?_
    refine xg F 1 inX2 hP (kd_k k1 (by decide)) (wc2 k1) rfl (by decide) tk_98 rfl rfl dX2_addAll_4 ?_
    refine lv_icmp_ge (tgt := 26) hx hb dX2_addAll_7 (by decide) (fun b1 => ?_) (fun b1 => ?_)
    · rw [if_pos b1] at hm
      exact xvr F hP hS (Option.some.inj hm).symm (by decide) (by decide) dX2_addAll_26
    · rw [if_neg b1] at hm
      refine lv_aload_n hx hb dX2_addAll_10 rfl (lv_at hl 0 rfl) ?_
      refine lv_aload_n hx hb dX2_addAll_11 rfl (lv_at hl 1 rfl) ?_
      refine xg F 0 inX2 hP (kd_k k1 (by decide)) (wc2 k1) rfl (by decide) tk_96 rfl rfl dX2_addAll_12 ?_
      refine lv_iload_n hx hb dX2_addAll_15 rfl (lv_at hl 2 rfl) ?_
      by_cases b2 : (x2 < 0 ∨ 16 ≤ x2.toNatClampNeg)
      · rw [if_pos b2] at hm
        cases hm
      · rw [if_neg b2] at hm
        refine xil F hP ((kd_wavA _ k1).1) ((kd_wavA _ k1).2) b2 dX2_addAll_16 ?_
        obtain ⟨σ3, h3, hm⟩ := nv_inv hm
        refine xV F (c_X2_add k0 h3) tk_387 tk_530 tk_386 tu_17 tk_5 rfl 1 (by decide +kernel) rfl ⟨Nat.le_of_ble_eq_true rfl, Nat.le_of_ble_eq_true rfl⟩ hP hS (kd_k k0 (by decide)) (wc2 k0) rfl hl.1 rfl (Nat.le_of_ble_eq_true rfl) dX2_addAll_17 ⟨Nat.le_of_ble_eq_true rfl, Nat.le_of_ble_eq_true rfl⟩ (fun v hv H locs hP hS => ?_) (fun E hE => by cases hE)
        cases hv
        replace hP : va_P (gD G) vwCl (wld G lo σ3) H := hP
        refine W.eq (g2 := F0 m 20 ls []) rfl ?_
        refine lv_iinc (v := (x2 + 1)) (lv' := [(2, .int (x2 + 1)), (0, .ref (gA G q0)), (1, .ref (gA G q1))]) hx hb dX2_addAll_20 hl (k := 2) rfl rfl (by decide) rfl (fun ls hl => ?_)
        refine lv_goto (tgt := 2) hx hb dX2_addAll_23 (by decide) ?_
        exact ih hm hP hS (lv_sub hl [1, 2, 0] rfl)
def f_X2_addAll (σ : St) (q0 : Nat) (q1 : Nat) : Option (RV × St) :=
  f_X2_addAll_2 q0 q1 40 σ 0
set_option maxHeartbeats 4000000 in
set_option maxRecDepth 100000 in
theorem c_X2_addAll {l : Launch} {G : GT} {σ : St} {q0 : Nat} {q1 : Nat} (k0 : kd q0 = 2) (k1 : kd q1 = 2) {r : RV × St} (hm : f_X2_addAll σ q0 q1 = some r) : MC l G yX2_addAll cX2_addAll 3 none 1 21 0 0 [.inr q0, .inr q1] σ r := by
  refine xbody (by decide) (Nat.le_of_ble_eq_true rfl) ?_
  intro lo p e s m args below meth c F hP ls hl
  have F : Fx p l s args m meth c G cX2_addAll 3 none RX2 := F
  obtain ⟨hx, hb, hrt, hml, hown, hts, hlocks, hC, htab, hst⟩ := id F
  have hS : va_S (gF G) s.heap s.heap [] := va_S.rf
  have hl : lv_has ls 3 [(0, .ref (gA G q0)), (1, .ref (gA G q1))] := hl
  unfold f_X2_addAll at hm
  refine lv_iconst (v := 0) hx hb dX2_addAll_0 (by decide) ?_
  refine lv_istore_n (lv' := [(2, .int 0), (0, .ref (gA G q0)), (1, .ref (gA G q1))]) hx hb dX2_addAll_1 rfl hl (by decide) rfl (fun ls hl => ?_)
  exact w_X2_addAll_2 F k0 k1 40 hm hP hS (lv_sub hl [1, 2, 0] rfl)
/-! ===== X2_remove ===== -/
def f_X2_remove_4 (q0 : Nat) (x1 : Int32) : Nat → St → Int32 → Int32 → Option (RV × St)
  | 0, _, _, _ => none
  | n + 1, σ, x2, x3 =>
    if (σ q0 1) ≤ x3 then
      some (.inl none, (up2 σ q0 1 x2))
    else
      if x3 < 0 ∨ 16 ≤ x3.toNatClampNeg then none
      else
        if (σ (q0 + 1) x3.toNatClampNeg) = x1 then
          f_X2_remove_4 q0 x1 n σ x2 (x3 + 1)
        else
          if x2 < 0 ∨ 16 ≤ x2.toNatClampNeg then none
          else
            f_X2_remove_4 q0 x1 n (up2 σ (q0 + 1) x2.toNatClampNeg (σ (q0 + 1) x3.toNatClampNeg)) (x2 + 1) (x3 + 1)
set_option maxHeartbeats 4000000 in
set_option maxRecDepth 100000 in
theorem w_X2_remove_4 {p : Program} {l : Launch} {e : Env} {s : State} {m : MethodId} {args : Array Value} {below : List Frame} {meth : Method} {c : Code} {G : GT} {lo : Nat → Int64} (F : Fx p l s args m meth c G cX2_remove 4 none RX2) {q0 : Nat} {x1 : Int32} (k0 : kd q0 = 2) : ∀ (n : Nat) {σ : St} {x2 : Int32} {x3 : Int32} {r : RV × St}, f_X2_remove_4 q0 x1 n σ x2 x3 = some r → ∀ {H : Heap} {locs : List Loc}, va_P (gD G) vwCl (wld G lo σ) H → va_S (gF G) s.heap H locs → ∀ {ls : Array Slot}, lv_has ls 4 [(0, .ref (gA G q0)), (1, .int x1), (2, .int x2), (3, .int x3)] → W p l e (RM 0 0 0 0) s m args below meth c H locs 0 0 (vx_MQ below (QCr G lo r) (XCr G lo r) args s 0 0 (gF G)) (F0 m 4 ls []) := by
  obtain ⟨hx, hb, hrt, hml, hown, hts, hlocks, hC, htab, hst⟩ := id F
  intro n
  induction n with
  | zero =>
    intro σ x2 x3 r hm
    simp only [f_X2_remove_4] at hm
    cases hm
  | succ n ih =>
    intro σ x2 x3 r hm H locs hP hS ls hl
    rw [f_X2_remove_4] at hm
    refine lv_iload_n hx hb dX2_remove_4 rfl (lv_at hl 3 rfl) ?_
    refine lv_aload_n hx hb dX2_remove_5 rfl (lv_at hl 0 rfl) ?_
    refine xg F 1 inX2 hP (kd_k k0 (by decide)) (wc2 k0) rfl (by decide) tk_98 rfl rfl dX2_remove_6 ?_
    refine lv_icmp_ge (tgt := 43) hx hb dX2_remove_9 (by decide) (fun b1 => ?_) (fun b1 => ?_)
    · rw [if_pos b1] at hm
      refine lv_aload_n hx hb dX2_remove_43 rfl (lv_at hl 0 rfl) ?_
      refine lv_iload_n hx hb dX2_remove_44 rfl (lv_at hl 2 rfl) ?_
      refine xp F (v := x2) (ty := .int) 1 inX2 tyX2_ok nmX2 hP hS (kd_k k0 (by decide)) (wc2 k0) (wu2_1 k0) rfl (by decide) tk_98 rfl rfl rfl rfl rfl (Nat.le_of_ble_eq_true rfl) dX2_remove_45 (fun H locs hP hS => ?_)
      exact xvr F hP hS (Option.some.inj hm).symm (by decide) (by decide) dX2_remove_48
    · rw [if_neg b1] at hm
      refine lv_aload_n hx hb dX2_remove_12 rfl (lv_at hl 0 rfl) ?_
      refine xg F 0 inX2 hP (kd_k k0 (by decide)) (wc2 k0) rfl (by decide) tk_96 rfl rfl dX2_remove_13 ?_
      refine lv_iload_n hx hb dX2_remove_16 rfl (lv_at hl 3 rfl) ?_
      by_cases b2 : (x3 < 0 ∨ 16 ≤ x3.toNatClampNeg)
      · rw [if_pos b2] at hm
        cases hm
      · rw [if_neg b2] at hm
        refine xil F hP ((kd_wavA _ k0).1) ((kd_wavA _ k0).2) b2 dX2_remove_17 ?_
        refine lv_iload_n hx hb dX2_remove_18 rfl (lv_at hl 1 rfl) ?_
        refine lv_icmp_eq (tgt := 37) hx hb dX2_remove_19 (by decide) (fun b3 => ?_) (fun b3 => ?_)
        · rw [if_pos b3] at hm
          refine lv_iinc (v := (x3 + 1)) (lv' := [(3, .int (x3 + 1)), (0, .ref (gA G q0)), (1, .int x1), (2, .int x2)]) hx hb dX2_remove_37 hl (k := 3) rfl rfl (by decide) rfl (fun ls hl => ?_)
          refine lv_goto (tgt := 4) hx hb dX2_remove_40 (by decide) ?_
          exact ih hm hP hS (lv_sub hl [1, 2, 3, 0] rfl)
        · rw [if_neg b3] at hm
          refine lv_aload_n hx hb dX2_remove_22 rfl (lv_at hl 0 rfl) ?_
          refine xg F 0 inX2 hP (kd_k k0 (by decide)) (wc2 k0) rfl (by decide) tk_96 rfl rfl dX2_remove_23 ?_
          refine lv_iload_n hx hb dX2_remove_26 rfl (lv_at hl 2 rfl) ?_
          refine lv_aload_n hx hb dX2_remove_27 rfl (lv_at hl 0 rfl) ?_
          refine xg F 0 inX2 hP (kd_k k0 (by decide)) (wc2 k0) rfl (by decide) tk_96 rfl rfl dX2_remove_28 ?_
          refine lv_iload_n hx hb dX2_remove_31 rfl (lv_at hl 3 rfl) ?_
          refine xil F hP ((kd_wavA _ k0).1) ((kd_wavA _ k0).2) b2 dX2_remove_32 ?_
          by_cases b4 : (x2 < 0 ∨ 16 ≤ x2.toNatClampNeg)
          · rw [if_pos b4] at hm
            cases hm
          · rw [if_neg b4] at hm
            refine xis F (v := (σ (q0 + 1) x3.toNatClampNeg)) hP hS ((kd_wavA _ k0).1) ((kd_wavA _ k0).2) b4 dX2_remove_33 (fun H locs hP hS => ?_)
            refine lv_iinc (v := (x2 + 1)) (lv' := [(2, .int (x2 + 1)), (0, .ref (gA G q0)), (1, .int x1), (3, .int x3)]) hx hb dX2_remove_34 hl (k := 2) rfl rfl (by decide) rfl (fun ls hl => ?_)
            refine lv_iinc (v := (x3 + 1)) (lv' := [(3, .int (x3 + 1)), (2, .int (x2 + 1)), (0, .ref (gA G q0)), (1, .int x1)]) hx hb dX2_remove_37 hl (k := 3) rfl rfl (by decide) rfl (fun ls hl => ?_)
            refine lv_goto (tgt := 4) hx hb dX2_remove_40 (by decide) ?_
            exact ih hm hP hS (lv_sub hl [2, 3, 1, 0] rfl)
def f_X2_remove (σ : St) (q0 : Nat) (x1 : Int32) : Option (RV × St) :=
  f_X2_remove_4 q0 x1 40 σ 0 0
set_option maxHeartbeats 4000000 in
set_option maxRecDepth 100000 in
theorem c_X2_remove {l : Launch} {G : GT} {σ : St} {q0 : Nat} {x1 : Int32} (k0 : kd q0 = 2) {r : RV × St} (hm : f_X2_remove σ q0 x1 = some r) : MC l G yX2_remove cX2_remove 4 none 0 0 0 0 [.inr q0, .inl x1] σ r := by
  refine xbody (by decide) (Nat.le_of_ble_eq_true rfl) ?_
  intro lo p e s m args below meth c F hP ls hl
  have F : Fx p l s args m meth c G cX2_remove 4 none RX2 := F
  obtain ⟨hx, hb, hrt, hml, hown, hts, hlocks, hC, htab, hst⟩ := id F
  have hS : va_S (gF G) s.heap s.heap [] := va_S.rf
  have hl : lv_has ls 4 [(0, .ref (gA G q0)), (1, .int x1)] := hl
  unfold f_X2_remove at hm
  refine lv_iconst (v := 0) hx hb dX2_remove_0 (by decide) ?_
  refine lv_istore_n (lv' := [(2, .int 0), (0, .ref (gA G q0)), (1, .int x1)]) hx hb dX2_remove_1 rfl hl (by decide) rfl (fun ls hl => ?_)
  refine lv_iconst (v := 0) hx hb dX2_remove_2 (by decide) ?_
  refine lv_istore_n (lv' := [(3, .int 0), (2, .int 0), (0, .ref (gA G q0)), (1, .int x1)]) hx hb dX2_remove_3 rfl hl (by decide) rfl (fun ls hl => ?_)
  exact w_X2_remove_4 F k0 40 hm hP hS (lv_sub hl [2, 3, 1, 0] rfl)
/-! ===== X2_empty ===== -/
def f_X2_empty (σ : St) (q0 : Nat) : Option (RV × St) :=
  some (.inl none, (up2 σ q0 1 0))
set_option maxHeartbeats 4000000 in
set_option maxRecDepth 100000 in
theorem c_X2_empty {l : Launch} {G : GT} {σ : St} {q0 : Nat} (k0 : kd q0 = 2) {r : RV × St} (hm : f_X2_empty σ q0 = some r) : MC l G yX2_empty cX2_empty 1 none 0 0 0 0 [.inr q0] σ r := by
  refine xbody (by decide) (Nat.le_of_ble_eq_true rfl) ?_
  intro lo p e s m args below meth c F hP ls hl
  have F : Fx p l s args m meth c G cX2_empty 1 none RX2 := F
  obtain ⟨hx, hb, hrt, hml, hown, hts, hlocks, hC, htab, hst⟩ := id F
  have hS : va_S (gF G) s.heap s.heap [] := va_S.rf
  have hl : lv_has ls 1 [(0, .ref (gA G q0))] := hl
  unfold f_X2_empty at hm
  refine lv_aload_n hx hb dX2_empty_0 rfl (lv_at hl 0 rfl) ?_
  refine lv_iconst (v := 0) hx hb dX2_empty_1 (by decide) ?_
  refine xp F (v := 0) (ty := .int) 1 inX2 tyX2_ok nmX2 hP hS (kd_k k0 (by decide)) (wc2 k0) (wu2_1 k0) rfl (by decide) tk_98 rfl rfl rfl rfl rfl (Nat.le_of_ble_eq_true rfl) dX2_empty_2 (fun H locs hP hS => ?_)
  exact xvr F hP hS (Option.some.inj hm).symm (by decide) (by decide) dX2_empty_5
/-! ===== X3_requireRange ===== -/
def f_X3_requireRange (σ : St) (x0 : Int32) (x1 : Int32) (x2 : Int32) : Option RV :=
  if x0 < x1 then
    some (.inr "java/lang/IllegalArgumentException")
  else
    if x0 ≤ x2 then
      some (.inl none)
    else
      some (.inr "java/lang/IllegalArgumentException")
set_option maxHeartbeats 4000000 in
set_option maxRecDepth 100000 in
theorem c_X3_requireRange {l : Launch} {G : GT} {σ : St} {x0 : Int32} {x1 : Int32} {x2 : Int32} {r : RV} (hm : f_X3_requireRange σ x0 x1 x2 = some r) : MC l G yX3_requireRange cX3_requireRange 3 none 6 90 1 6 [.inl x0, .inl x1, .inl x2] σ (r, σ) := by
  refine xbody (by decide) (Nat.le_of_ble_eq_true rfl) ?_
  intro lo p e s m args below meth c F hP ls hl
  have F : Fx p l s args m meth c G cX3_requireRange 3 none RX3 := F
  obtain ⟨hx, hb, hrt, hml, hown, hts, hlocks, hC, htab, hst⟩ := id F
  have hS : va_S (gF G) s.heap s.heap [] := va_S.rf
  have hl : lv_has ls 3 [(0, .int x0), (1, .int x1), (2, .int x2)] := hl
  unfold f_X3_requireRange at hm
  refine lv_iload_n hx hb dX3_requireRange_0 rfl (lv_at hl 0 rfl) ?_
  refine lv_iload_n hx hb dX3_requireRange_1 rfl (lv_at hl 1 rfl) ?_
  refine lv_icmp_lt (tgt := 10) hx hb dX3_requireRange_2 (by decide) (fun b1 => ?_) (fun b1 => ?_)
  · rw [if_pos b1] at hm
    exact xthr F hP hS (congrArg (fun z => (z, σ)) (Option.some.inj hm).symm) (by decide) (by decide) hl.1 (by decide +kernel) tk_188 tk_10 (List.mem_of_getElem? (i := 0) rfl) xt_158_1 xt_158_2 xt_158_154 dX3_requireRange_10 dX3_requireRange_13 dX3_requireRange_14 dX3_requireRange_16 dX3_requireRange_19 (Nat.le_of_ble_eq_true rfl) (Nat.le_of_ble_eq_true rfl) (Nat.le_of_ble_eq_true rfl) (Nat.le_of_ble_eq_true rfl)
  · rw [if_neg b1] at hm
    refine lv_iload_n hx hb dX3_requireRange_5 rfl (lv_at hl 0 rfl) ?_
    refine lv_iload_n hx hb dX3_requireRange_6 rfl (lv_at hl 2 rfl) ?_
    refine lv_icmp_le (tgt := 20) hx hb dX3_requireRange_7 (by decide) (fun b2 => ?_) (fun b2 => ?_)
    · rw [if_pos b2] at hm
      exact xvr F hP hS (congrArg (fun z => (z, σ)) (Option.some.inj hm).symm) (by decide) (by decide) dX3_requireRange_20
    · rw [if_neg b2] at hm
      exact xthr F hP hS (congrArg (fun z => (z, σ)) (Option.some.inj hm).symm) (by decide) (by decide) hl.1 (by decide +kernel) tk_188 tk_10 (List.mem_of_getElem? (i := 0) rfl) xt_158_1 xt_158_2 xt_158_154 dX3_requireRange_10 dX3_requireRange_13 dX3_requireRange_14 dX3_requireRange_16 dX3_requireRange_19 (Nat.le_of_ble_eq_true rfl) (Nat.le_of_ble_eq_true rfl) (Nat.le_of_ble_eq_true rfl) (Nat.le_of_ble_eq_true rfl)
/-! ===== X3_order ===== -/
def f_X3_order (σ : St) (x1 : Int32) (x2 : Int32) (x3 : Int32) : Option (RV × St) :=
  qv (f_X3_requireRange σ x1 0 100000) (fun E => some (.inr E, σ)) (
    qv (f_X3_requireRange σ x2 0 7) (fun E => some (.inr E, σ)) (
      qv (f_X3_requireRange σ x3 1 10000) (fun E => some (.inr E, σ)) (
        if (σ 0 4) < 16 then
          if (σ 0 4) < 0 ∨ 16 ≤ (σ 0 4).toNatClampNeg then none
          else
            some (.inl (some (.inl (((up2 (up2 (up2 (up2 σ (26 + 2 * (σ 0 4).toNatClampNeg) 0 x1) (26 + 2 * (σ 0 4).toNatClampNeg) 1 x2) (26 + 2 * (σ 0 4).toNatClampNeg) 2 x3) 0 4 (((up2 (up2 (up2 σ (26 + 2 * (σ 0 4).toNatClampNeg) 0 x1) (26 + 2 * (σ 0 4).toNatClampNeg) 1 x2) (26 + 2 * (σ 0 4).toNatClampNeg) 2 x3) 0 4) + 1)) 0 4) - 1))), (up2 (up2 (up2 (up2 σ (26 + 2 * (σ 0 4).toNatClampNeg) 0 x1) (26 + 2 * (σ 0 4).toNatClampNeg) 1 x2) (26 + 2 * (σ 0 4).toNatClampNeg) 2 x3) 0 4 (((up2 (up2 (up2 σ (26 + 2 * (σ 0 4).toNatClampNeg) 0 x1) (26 + 2 * (σ 0 4).toNatClampNeg) 1 x2) (26 + 2 * (σ 0 4).toNatClampNeg) 2 x3) 0 4) + 1)))
        else
          some (.inr "java/lang/UnsupportedOperationException", σ))))
set_option maxHeartbeats 4000000 in
set_option maxRecDepth 100000 in
theorem c_X3_order {l : Launch} {G : GT} {σ : St} {x1 : Int32} {x2 : Int32} {x3 : Int32} {r : RV × St} (hm : f_X3_order σ x1 x2 x3 = some r) : MC l G yX3_order cX3_order 5 (some .int) 7 112 4 24 [.inr 0, .inl x1, .inl x2, .inl x3] σ r := by
  refine xbody (by decide) (Nat.le_of_ble_eq_true rfl) ?_
  intro lo p e s m args below meth c F hP ls hl
  have F : Fx p l s args m meth c G cX3_order 5 (some .int) RX3 := F
  obtain ⟨hx, hb, hrt, hml, hown, hts, hlocks, hC, htab, hst⟩ := id F
  have hS : va_S (gF G) s.heap s.heap [] := va_S.rf
  have hl : lv_has ls 5 [(0, .ref (gA G 0)), (1, .int x1), (2, .int x2), (3, .int x3)] := hl
  unfold f_X3_order at hm
  refine lv_iload_n hx hb dX3_order_0 rfl (lv_at hl 1 rfl) ?_
  refine lv_iconst (v := 0) hx hb dX3_order_1 (by decide) ?_
  refine lv_ldc (v := 100000) hx hb hown (hts _ tk_184) dX3_order_2 ?_
  rcases qv_inv hm with ⟨h1, hm⟩ | ⟨E1, h1, hm⟩
  · refine xSt F (c_X3_requireRange h1) tk_187 tk_185 tk_186 tk_1 rfl 3 (by decide +kernel) rfl ⟨Nat.le_of_ble_eq_true rfl, Nat.le_of_ble_eq_true rfl⟩ hP hS hl.1 rfl (Nat.le_of_ble_eq_true rfl) dX3_order_4 ⟨Nat.le_of_ble_eq_true rfl, Nat.le_of_ble_eq_true rfl⟩ (fun v hv H locs hP hS => ?_) (fun E hE => by cases hE)
    cases hv
    replace hP : va_P (gD G) vwCl (wld G lo σ) H := hP
    refine W.eq (g2 := F0 m 7 ls []) rfl ?_
    refine lv_iload_n hx hb dX3_order_7 rfl (lv_at hl 2 rfl) ?_
    refine lv_iconst (v := 0) hx hb dX3_order_8 (by decide) ?_
    refine lv_bipush (v := 7) hx hb dX3_order_9 (by decide) ?_
    rcases qv_inv hm with ⟨h2, hm⟩ | ⟨E2, h2, hm⟩
    · refine xSt F (c_X3_requireRange h2) tk_187 tk_185 tk_186 tk_1 rfl 3 (by decide +kernel) rfl ⟨Nat.le_of_ble_eq_true rfl, Nat.le_of_ble_eq_true rfl⟩ hP hS hl.1 rfl (Nat.le_of_ble_eq_true rfl) dX3_order_11 ⟨Nat.le_of_ble_eq_true rfl, Nat.le_of_ble_eq_true rfl⟩ (fun v hv H locs hP hS => ?_) (fun E hE => by cases hE)
      cases hv
      replace hP : va_P (gD G) vwCl (wld G lo σ) H := hP
      refine W.eq (g2 := F0 m 14 ls []) rfl ?_
      refine lv_iload_n hx hb dX3_order_14 rfl (lv_at hl 3 rfl) ?_
      refine lv_iconst (v := 1) hx hb dX3_order_15 (by decide) ?_
      refine lv_sipush (v := 10000) hx hb dX3_order_16 (by decide) ?_
      rcases qv_inv hm with ⟨h3, hm⟩ | ⟨E3, h3, hm⟩
      · refine xSt F (c_X3_requireRange h3) tk_187 tk_185 tk_186 tk_1 rfl 3 (by decide +kernel) rfl ⟨Nat.le_of_ble_eq_true rfl, Nat.le_of_ble_eq_true rfl⟩ hP hS hl.1 rfl (Nat.le_of_ble_eq_true rfl) dX3_order_19 ⟨Nat.le_of_ble_eq_true rfl, Nat.le_of_ble_eq_true rfl⟩ (fun v hv H locs hP hS => ?_) (fun E hE => by cases hE)
        cases hv
        replace hP : va_P (gD G) vwCl (wld G lo σ) H := hP
        refine W.eq (g2 := F0 m 22 ls []) rfl ?_
        refine lv_aload_n hx hb dX3_order_22 rfl (lv_at hl 0 rfl) ?_
        refine xg F 4 inX3 hP (kd_k kdc_0 (by decide)) (wc3 kdc_0) rfl (by decide) tk_115 rfl rfl dX3_order_23 ?_
        refine lv_bipush (v := 16) hx hb dX3_order_26 (by decide) ?_
        refine lv_icmp_lt (tgt := 41) hx hb dX3_order_28 (by decide) (fun b4 => ?_) (fun b4 => ?_)
        · rw [if_pos b4] at hm
          refine lv_aload_n hx hb dX3_order_41 rfl (lv_at hl 0 rfl) ?_
          refine xg F 3 inX3 hP (kd_k kdc_0 (by decide)) (wc3 kdc_0) rfl (by decide) tk_114 rfl rfl dX3_order_42 ?_
          refine lv_aload_n hx hb dX3_order_45 rfl (lv_at hl 0 rfl) ?_
          refine xg F 4 inX3 hP (kd_k kdc_0 (by decide)) (wc3 kdc_0) rfl (by decide) tk_115 rfl rfl dX3_order_46 ?_
          by_cases b5 : ((σ 0 4) < 0 ∨ 16 ≤ (σ 0 4).toNatClampNeg)
          · rw [if_pos b5] at hm
            cases hm
          · rw [if_neg b5] at hm
            refine xol F hP kdc_6 b5 dX3_order_49 ?_
            refine lv_astore (lv' := [(4, .ref (gA G (26 + 2 * (σ 0 4).toNatClampNeg))), (0, .ref (gA G 0)), (1, .int x1), (2, .int x2), (3, .int x3)]) hx hb dX3_order_50 hl (by decide) rfl (fun ls hl => ?_)
            refine lv_aload hx hb dX3_order_52 (lv_at hl 0 rfl) ?_
            refine lv_iload_n hx hb dX3_order_54 rfl (lv_at hl 2 rfl) ?_
            refine xpN F (v := x1) (ty := .int) 0 inX1 tyX1_ok nmX1 hP hS (kd_k (kd_ord b5) (by decide)) (wc1 (kd_ord b5)) (wu1_0 (kd_ord b5)) rfl (by decide) tn_3 rfl rfl rfl rfl rfl (Nat.le_of_ble_eq_true rfl) dX3_order_55 (fun H locs hP hS => ?_)
            refine lv_aload hx hb dX3_order_58 (lv_at hl 0 rfl) ?_
            refine lv_iload_n hx hb dX3_order_60 rfl (lv_at hl 3 rfl) ?_
            refine xpN F (v := x2) (ty := .int) 1 inX1 tyX1_ok nmX1 hP hS (kd_k (kd_ord b5) (by decide)) (wc1 (kd_ord b5)) (wu1_1 (kd_ord b5)) rfl (by decide) tn_4 rfl rfl rfl rfl rfl (Nat.le_of_ble_eq_true rfl) dX3_order_61 (fun H locs hP hS => ?_)
            refine lv_aload hx hb dX3_order_64 (lv_at hl 0 rfl) ?_
            refine lv_iload_n hx hb dX3_order_66 rfl (lv_at hl 4 rfl) ?_
            refine xpN F (v := x3) (ty := .int) 2 inX1 tyX1_ok nmX1 hP hS (kd_k (kd_ord b5) (by decide)) (wc1 (kd_ord b5)) (wu1_2 (kd_ord b5)) rfl (by decide) tn_5 rfl rfl rfl rfl rfl (Nat.le_of_ble_eq_true rfl) dX3_order_67 (fun H locs hP hS => ?_)
            refine lv_aload_n hx hb dX3_order_70 rfl (lv_at hl 1 rfl) ?_
            refine lv_dup hx hb dX3_order_71 rfl ?_
            refine xg F 4 inX3 hP (kd_k kdc_0 (by decide)) (wc3 kdc_0) rfl (by decide) tk_115 rfl rfl dX3_order_72 ?_
            refine lv_iconst (v := 1) hx hb dX3_order_75 (by decide) ?_
            refine lv_iadd hx hb dX3_order_76 ?_
            refine xp F (v := (((up2 (up2 (up2 σ (26 + 2 * (σ 0 4).toNatClampNeg) 0 x1) (26 + 2 * (σ 0 4).toNatClampNeg) 1 x2) (26 + 2 * (σ 0 4).toNatClampNeg) 2 x3) 0 4) + 1)) (ty := .int) 4 inX3 tyX3_ok nmX3 hP hS (kd_k kdc_0 (by decide)) (wc3 kdc_0) (wu3_4 kdc_0) rfl (by decide) tk_115 rfl rfl rfl rfl rfl (Nat.le_of_ble_eq_true rfl) dX3_order_77 (fun H locs hP hS => ?_)
            refine lv_aload_n hx hb dX3_order_80 rfl (lv_at hl 1 rfl) ?_
            refine xg F 4 inX3 hP (kd_k kdc_0 (by decide)) (wc3 kdc_0) rfl (by decide) tk_115 rfl rfl dX3_order_81 ?_
            refine lv_iconst (v := 1) hx hb dX3_order_84 (by decide) ?_
            refine lv_isub hx hb dX3_order_85 ?_
            exact xir F hP hS (Option.some.inj hm).symm (by decide) (by decide) dX3_order_86
        · rw [if_neg b4] at hm
          exact xthr F hP hS (Option.some.inj hm).symm (by decide) (by decide) hl.1 (by decide +kernel) tk_257 tk_11 (List.mem_of_getElem? (i := 1) rfl) xt_64_1 xt_64_2 xt_64_60 dX3_order_31 dX3_order_34 dX3_order_35 dX3_order_37 dX3_order_40 (Nat.le_of_ble_eq_true rfl) (Nat.le_of_ble_eq_true rfl) (Nat.le_of_ble_eq_true rfl) (Nat.le_of_ble_eq_true rfl)
      · refine xSt F (c_X3_requireRange h3) tk_187 tk_185 tk_186 tk_1 rfl 3 (by decide +kernel) rfl ⟨Nat.le_of_ble_eq_true rfl, Nat.le_of_ble_eq_true rfl⟩ hP hS hl.1 rfl (Nat.le_of_ble_eq_true rfl) dX3_order_19 ⟨Nat.le_of_ble_eq_true rfl, Nat.le_of_ble_eq_true rfl⟩ (fun v hv => by cases hv) (fun E hE H locs q9 ce hP hS e1 e2 e3 => ?_)
        cases hE
        exact xto F hP hS (Option.some.inj hm).symm (by decide) (by decide) e1 e2 e3
    · refine xSt F (c_X3_requireRange h2) tk_187 tk_185 tk_186 tk_1 rfl 3 (by decide +kernel) rfl ⟨Nat.le_of_ble_eq_true rfl, Nat.le_of_ble_eq_true rfl⟩ hP hS hl.1 rfl (Nat.le_of_ble_eq_true rfl) dX3_order_11 ⟨Nat.le_of_ble_eq_true rfl, Nat.le_of_ble_eq_true rfl⟩ (fun v hv => by cases hv) (fun E hE H locs q9 ce hP hS e1 e2 e3 => ?_)
      cases hE
      exact xto F hP hS (Option.some.inj hm).symm (by decide) (by decide) e1 e2 e3
  · refine xSt F (c_X3_requireRange h1) tk_187 tk_185 tk_186 tk_1 rfl 3 (by decide +kernel) rfl ⟨Nat.le_of_ble_eq_true rfl, Nat.le_of_ble_eq_true rfl⟩ hP hS hl.1 rfl (Nat.le_of_ble_eq_true rfl) dX3_order_4 ⟨Nat.le_of_ble_eq_true rfl, Nat.le_of_ble_eq_true rfl⟩ (fun v hv => by cases hv) (fun E hE H locs q9 ce hP hS e1 e2 e3 => ?_)
    cases hE
    exact xto F hP hS (Option.some.inj hm).symm (by decide) (by decide) e1 e2 e3
/-! ===== X3_requireOrder ===== -/
def f_X3_requireOrder (σ : St) (x1 : Int32) : Option RV :=
  if x1 < 0 then
    some (.inr "java/util/NoSuchElementException")
  else
    if x1 < (σ 0 4) then
      if x1 < 0 ∨ 16 ≤ x1.toNatClampNeg then none
      else
        some (.inl (some (.inr (26 + 2 * x1.toNatClampNeg))))
    else
      some (.inr "java/util/NoSuchElementException")
set_option maxHeartbeats 4000000 in
set_option maxRecDepth 100000 in
theorem c_X3_requireOrder {l : Launch} {G : GT} {σ : St} {x1 : Int32} {r : RV} (hm : f_X3_requireOrder σ x1 = some r) : MC l G yX3_requireOrder cX3_requireOrder 2 (some (.object "WavePlans$Order")) 6 90 1 6 [.inr 0, .inl x1] σ (r, σ) := by
  refine xbody (by decide) (Nat.le_of_ble_eq_true rfl) ?_
  intro lo p e s m args below meth c F hP ls hl
  have F : Fx p l s args m meth c G cX3_requireOrder 2 (some (.object "WavePlans$Order")) RX3 := F
  obtain ⟨hx, hb, hrt, hml, hown, hts, hlocks, hC, htab, hst⟩ := id F
  have hS : va_S (gF G) s.heap s.heap [] := va_S.rf
  have hl : lv_has ls 2 [(0, .ref (gA G 0)), (1, .int x1)] := hl
  unfold f_X3_requireOrder at hm
  refine lv_iload_n hx hb dX3_requireOrder_0 rfl (lv_at hl 1 rfl) ?_
  refine lv_if_lt (tgt := 12) hx hb dX3_requireOrder_1 (by decide) (fun b1 => ?_) (fun b1 => ?_)
  · rw [if_pos b1] at hm
    exact xthrN F hP hS (congrArg (fun z => (z, σ)) (Option.some.inj hm).symm) (by decide) (by decide) hl.1 tk_286 tk_12 (List.mem_of_getElem? (i := 2) rfl) dX3_requireOrder_12 dX3_requireOrder_15 dX3_requireOrder_16 dX3_requireOrder_18 dX3_requireOrder_21 (Nat.le_of_ble_eq_true rfl) (Nat.le_of_ble_eq_true rfl) (Nat.le_of_ble_eq_true rfl) (Nat.le_of_ble_eq_true rfl)
  · rw [if_neg b1] at hm
    refine lv_iload_n hx hb dX3_requireOrder_4 rfl (lv_at hl 1 rfl) ?_
    refine lv_aload_n hx hb dX3_requireOrder_5 rfl (lv_at hl 0 rfl) ?_
    refine xg F 4 inX3 hP (kd_k kdc_0 (by decide)) (wc3 kdc_0) rfl (by decide) tk_115 rfl rfl dX3_requireOrder_6 ?_
    refine lv_icmp_lt (tgt := 22) hx hb dX3_requireOrder_9 (by decide) (fun b2 => ?_) (fun b2 => ?_)
    · rw [if_pos b2] at hm
      refine lv_aload_n hx hb dX3_requireOrder_22 rfl (lv_at hl 0 rfl) ?_
      refine xg F 3 inX3 hP (kd_k kdc_0 (by decide)) (wc3 kdc_0) rfl (by decide) tk_114 rfl rfl dX3_requireOrder_23 ?_
      refine lv_iload_n hx hb dX3_requireOrder_26 rfl (lv_at hl 1 rfl) ?_
      by_cases b3 : (x1 < 0 ∨ 16 ≤ x1.toNatClampNeg)
      · rw [if_pos b3] at hm
        cases hm
      · rw [if_neg b3] at hm
        refine xol F hP kdc_6 b3 dX3_requireOrder_27 ?_
        exact xar F hP hS (congrArg (fun z => (z, σ)) (Option.some.inj hm).symm) (by decide) (by decide) dX3_requireOrder_28
    · rw [if_neg b2] at hm
      exact xthrN F hP hS (congrArg (fun z => (z, σ)) (Option.some.inj hm).symm) (by decide) (by decide) hl.1 tk_286 tk_12 (List.mem_of_getElem? (i := 2) rfl) dX3_requireOrder_12 dX3_requireOrder_15 dX3_requireOrder_16 dX3_requireOrder_18 dX3_requireOrder_21 (Nat.le_of_ble_eq_true rfl) (Nat.le_of_ble_eq_true rfl) (Nat.le_of_ble_eq_true rfl) (Nat.le_of_ble_eq_true rfl)
/-! ===== X3_requireFree ===== -/
def f_X3_requireFree (σ : St) (q0 : Nat) : Option RV :=
  if (σ q0 6) = 0 then
    some (.inl none)
  else
    some (.inr "java/lang/IllegalStateException")
set_option maxHeartbeats 4000000 in
set_option maxRecDepth 100000 in
theorem c_X3_requireFree {l : Launch} {G : GT} {σ : St} {q0 : Nat} (k0 : kd q0 = 1) {r : RV} (hm : f_X3_requireFree σ q0 = some r) : MC l G yX3_requireFree cX3_requireFree 1 none 6 90 1 6 [.inr q0] σ (r, σ) := by
  refine xbody (by decide) (Nat.le_of_ble_eq_true rfl) ?_
  intro lo p e s m args below meth c F hP ls hl
  have F : Fx p l s args m meth c G cX3_requireFree 1 none RX3 := F
  obtain ⟨hx, hb, hrt, hml, hown, hts, hlocks, hC, htab, hst⟩ := id F
  have hS : va_S (gF G) s.heap s.heap [] := va_S.rf
  have hl : lv_has ls 1 [(0, .ref (gA G q0))] := hl
  unfold f_X3_requireFree at hm
  refine lv_aload_n hx hb dX3_requireFree_0 rfl (lv_at hl 0 rfl) ?_
  refine xgN F 6 inX1 hP (kd_k k0 (by decide)) (wc1 k0) rfl (by decide) tn_9 rfl rfl dX3_requireFree_1 ?_
  refine lv_if_eq (tgt := 17) hx hb dX3_requireFree_4 (by decide) (fun b1 => ?_) (fun b1 => ?_)
  · rw [if_pos b1] at hm
    exact xvr F hP hS (congrArg (fun z => (z, σ)) (Option.some.inj hm).symm) (by decide) (by decide) dX3_requireFree_17
  · rw [if_neg b1] at hm
    exact xthr F hP hS (congrArg (fun z => (z, σ)) (Option.some.inj hm).symm) (by decide) (by decide) hl.1 (by decide +kernel) tk_305 tk_13 (List.mem_of_getElem? (i := 3) rfl) xt_91_1 xt_91_2 xt_91_87 dX3_requireFree_7 dX3_requireFree_10 dX3_requireFree_11 dX3_requireFree_13 dX3_requireFree_16 (Nat.le_of_ble_eq_true rfl) (Nat.le_of_ble_eq_true rfl) (Nat.le_of_ble_eq_true rfl) (Nat.le_of_ble_eq_true rfl)
/-! ===== X3_line ===== -/
def f_X3_line (σ : St) (x1 : Int32) (x2 : Int32) (x3 : Int32) : Option (RV × St) :=
  qp (f_X3_requireOrder σ x1) (fun E => some (.inr E, σ)) (fun q1_ =>
    if kd q1_ = 1 then
      qv (f_X3_requireRange σ x2 0 9) (fun E => some (.inr E, σ)) (
        qv (f_X3_requireRange σ x3 1 100) (fun E => some (.inr E, σ)) (
          qv (f_X3_requireFree σ q1_) (fun E => some (.inr E, σ)) (
            if x2 < 0 ∨ 10 ≤ x2.toNatClampNeg then none
            else
              if (σ (q1_ + 1) x2.toNatClampNeg) ≤ 0 then
                if (σ q1_ 4) < 4 then
                  some (.inl (some (.inl ((up2 (up2 σ (q1_ + 1) x2.toNatClampNeg x3) q1_ 4 (((up2 σ (q1_ + 1) x2.toNatClampNeg x3) q1_ 4) + 1)) q1_ 4))), (up2 (up2 σ (q1_ + 1) x2.toNatClampNeg x3) q1_ 4 (((up2 σ (q1_ + 1) x2.toNatClampNeg x3) q1_ 4) + 1)))
                else
                  some (.inr "java/lang/UnsupportedOperationException", σ)
              else
                some (.inr "java/lang/IllegalStateException", σ))))
    else none)
set_option maxHeartbeats 4000000 in
set_option maxRecDepth 100000 in
theorem c_X3_line {l : Launch} {G : GT} {σ : St} {x1 : Int32} {x2 : Int32} {x3 : Int32} {r : RV × St} (hm : f_X3_line σ x1 x2 x3 = some r) : MC l G yX3_line cX3_line 5 (some .int) 7 112 5 30 [.inr 0, .inl x1, .inl x2, .inl x3] σ r := by
  refine xbody (by decide) (Nat.le_of_ble_eq_true rfl) ?_
  intro lo p e s m args below meth c F hP ls hl
  have F : Fx p l s args m meth c G cX3_line 5 (some .int) RX3 := F
  obtain ⟨hx, hb, hrt, hml, hown, hts, hlocks, hC, htab, hst⟩ := id F
  have hS : va_S (gF G) s.heap s.heap [] := va_S.rf
  have hl : lv_has ls 5 [(0, .ref (gA G 0)), (1, .int x1), (2, .int x2), (3, .int x3)] := hl
  unfold f_X3_line at hm
  refine lv_aload_n hx hb dX3_line_0 rfl (lv_at hl 0 rfl) ?_
  refine lv_iload_n hx hb dX3_line_1 rfl (lv_at hl 1 rfl) ?_
  rcases qp_inv hm with ⟨q1_, h1, hm⟩ | ⟨E1, h1, hm⟩
  · refine xV F (c_X3_requireOrder h1) tk_285 tk_282 tk_284 tu_8 tk_1 rfl 1 (by decide +kernel) rfl ⟨Nat.le_of_ble_eq_true rfl, Nat.le_of_ble_eq_true rfl⟩ hP hS (kd_k kdc_0 (by decide)) (wc3 kdc_0) rfl hl.1 rfl (Nat.le_of_ble_eq_true rfl) dX3_line_2 ⟨Nat.le_of_ble_eq_true rfl, Nat.le_of_ble_eq_true rfl⟩ (fun v hv H locs hP hS => ?_) (fun E hE => by cases hE)
    cases hv
    replace hP : va_P (gD G) vwCl (wld G lo σ) H := hP
    refine W.eq (g2 := F0 m 5 ls [.ref (gA G q1_)]) rfl ?_
    by_cases k1_ : kd q1_ = 1
    · rw [if_pos k1_] at hm
      refine lv_astore (lv' := [(4, .ref (gA G q1_)), (0, .ref (gA G 0)), (1, .int x1), (2, .int x2), (3, .int x3)]) hx hb dX3_line_5 hl (by decide) rfl (fun ls hl => ?_)
      refine lv_iload_n hx hb dX3_line_7 rfl (lv_at hl 3 rfl) ?_
      refine lv_iconst (v := 0) hx hb dX3_line_8 (by decide) ?_
      refine lv_bipush (v := 9) hx hb dX3_line_9 (by decide) ?_
      rcases qv_inv hm with ⟨h2, hm⟩ | ⟨E2, h2, hm⟩
      · refine xSt F (c_X3_requireRange h2) tk_187 tk_185 tk_186 tk_1 rfl 3 (by decide +kernel) rfl ⟨Nat.le_of_ble_eq_true rfl, Nat.le_of_ble_eq_true rfl⟩ hP hS hl.1 rfl (Nat.le_of_ble_eq_true rfl) dX3_line_11 ⟨Nat.le_of_ble_eq_true rfl, Nat.le_of_ble_eq_true rfl⟩ (fun v hv H locs hP hS => ?_) (fun E hE => by cases hE)
        cases hv
        replace hP : va_P (gD G) vwCl (wld G lo σ) H := hP
        refine W.eq (g2 := F0 m 14 ls []) rfl ?_
        refine lv_iload_n hx hb dX3_line_14 rfl (lv_at hl 4 rfl) ?_
        refine lv_iconst (v := 1) hx hb dX3_line_15 (by decide) ?_
        refine lv_bipush (v := 100) hx hb dX3_line_16 (by decide) ?_
        rcases qv_inv hm with ⟨h3, hm⟩ | ⟨E3, h3, hm⟩
        · refine xSt F (c_X3_requireRange h3) tk_187 tk_185 tk_186 tk_1 rfl 3 (by decide +kernel) rfl ⟨Nat.le_of_ble_eq_true rfl, Nat.le_of_ble_eq_true rfl⟩ hP hS hl.1 rfl (Nat.le_of_ble_eq_true rfl) dX3_line_18 ⟨Nat.le_of_ble_eq_true rfl, Nat.le_of_ble_eq_true rfl⟩ (fun v hv H locs hP hS => ?_) (fun E hE => by cases hE)
          cases hv
          replace hP : va_P (gD G) vwCl (wld G lo σ) H := hP
          refine W.eq (g2 := F0 m 21 ls []) rfl ?_
          refine lv_aload hx hb dX3_line_21 (lv_at hl 0 rfl) ?_
          rcases qv_inv hm with ⟨h4, hm⟩ | ⟨E4, h4, hm⟩
          · refine xSt F (c_X3_requireFree k1_ h4) tk_304 tk_302 tk_303 tk_1 rfl 1 (by decide +kernel) rfl ⟨Nat.le_of_ble_eq_true rfl, Nat.le_of_ble_eq_true rfl⟩ hP hS hl.1 rfl (Nat.le_of_ble_eq_true rfl) dX3_line_23 ⟨Nat.le_of_ble_eq_true rfl, Nat.le_of_ble_eq_true rfl⟩ (fun v hv H locs hP hS => ?_) (fun E hE => by cases hE)
            cases hv
            replace hP : va_P (gD G) vwCl (wld G lo σ) H := hP
            refine W.eq (g2 := F0 m 26 ls []) rfl ?_
            refine lv_aload hx hb dX3_line_26 (lv_at hl 0 rfl) ?_
            refine xgN F 5 inX1 hP (kd_k k1_ (by decide)) (wc1 k1_) rfl (by decide) tn_8 rfl rfl dX3_line_28 ?_
            refine lv_iload_n hx hb dX3_line_31 rfl (lv_at hl 3 rfl) ?_
            by_cases b5 : (x2 < 0 ∨ 10 ≤ x2.toNatClampNeg)
            · rw [if_pos b5] at hm
              cases hm
            · rw [if_neg b5] at hm
              refine xil F hP ((kd_ordA _ k1_).1) ((kd_ordA _ k1_).2) b5 dX3_line_32 ?_
              refine lv_if_le (tgt := 46) hx hb dX3_line_33 (by decide) (fun b6 => ?_) (fun b6 => ?_)
              · rw [if_pos b6] at hm
                refine lv_aload hx hb dX3_line_46 (lv_at hl 0 rfl) ?_
                refine xgN F 4 inX1 hP (kd_k k1_ (by decide)) (wc1 k1_) rfl (by decide) tn_7 rfl rfl dX3_line_48 ?_
                refine lv_iconst (v := 4) hx hb dX3_line_51 (by decide) ?_
                refine lv_icmp_lt (tgt := 65) hx hb dX3_line_52 (by decide) (fun b7 => ?_) (fun b7 => ?_)
                · rw [if_pos b7] at hm
                  refine lv_aload hx hb dX3_line_65 (lv_at hl 0 rfl) ?_
                  refine xgN F 5 inX1 hP (kd_k k1_ (by decide)) (wc1 k1_) rfl (by decide) tn_8 rfl rfl dX3_line_67 ?_
                  refine lv_iload_n hx hb dX3_line_70 rfl (lv_at hl 3 rfl) ?_
                  refine lv_iload_n hx hb dX3_line_71 rfl (lv_at hl 4 rfl) ?_
                  refine xis F (v := x3) hP hS ((kd_ordA _ k1_).1) ((kd_ordA _ k1_).2) b5 dX3_line_72 (fun H locs hP hS => ?_)
                  refine lv_aload hx hb dX3_line_73 (lv_at hl 0 rfl) ?_
                  refine lv_dup hx hb dX3_line_75 rfl ?_
                  refine xgN F 4 inX1 hP (kd_k k1_ (by decide)) (wc1 k1_) rfl (by decide) tn_7 rfl rfl dX3_line_76 ?_
                  refine lv_iconst (v := 1) hx hb dX3_line_79 (by decide) ?_
                  refine lv_iadd hx hb dX3_line_80 ?_
                  refine xpN F (v := (((up2 σ (q1_ + 1) x2.toNatClampNeg x3) q1_ 4) + 1)) (ty := .int) 4 inX1 tyX1_ok nmX1 hP hS (kd_k k1_ (by decide)) (wc1 k1_) (wu1_4 k1_) rfl (by decide) tn_7 rfl rfl rfl rfl rfl (Nat.le_of_ble_eq_true rfl) dX3_line_81 (fun H locs hP hS => ?_)
                  refine lv_aload hx hb dX3_line_84 (lv_at hl 0 rfl) ?_
                  refine xgN F 4 inX1 hP (kd_k k1_ (by decide)) (wc1 k1_) rfl (by decide) tn_7 rfl rfl dX3_line_86 ?_
                  exact xir F hP hS (Option.some.inj hm).symm (by decide) (by decide) dX3_line_89
                · rw [if_neg b7] at hm
                  exact xthr F hP hS (Option.some.inj hm).symm (by decide) (by decide) hl.1 (by decide +kernel) tk_257 tk_11 (List.mem_of_getElem? (i := 5) rfl) xt_64_1 xt_64_2 xt_64_60 dX3_line_55 dX3_line_58 dX3_line_59 dX3_line_61 dX3_line_64 (Nat.le_of_ble_eq_true rfl) (Nat.le_of_ble_eq_true rfl) (Nat.le_of_ble_eq_true rfl) (Nat.le_of_ble_eq_true rfl)
              · rw [if_neg b6] at hm
                exact xthr F hP hS (Option.some.inj hm).symm (by decide) (by decide) hl.1 (by decide +kernel) tk_305 tk_13 (List.mem_of_getElem? (i := 4) rfl) xt_91_1 xt_91_2 xt_91_87 dX3_line_36 dX3_line_39 dX3_line_40 dX3_line_42 dX3_line_45 (Nat.le_of_ble_eq_true rfl) (Nat.le_of_ble_eq_true rfl) (Nat.le_of_ble_eq_true rfl) (Nat.le_of_ble_eq_true rfl)
          · refine xSt F (c_X3_requireFree k1_ h4) tk_304 tk_302 tk_303 tk_1 rfl 1 (by decide +kernel) rfl ⟨Nat.le_of_ble_eq_true rfl, Nat.le_of_ble_eq_true rfl⟩ hP hS hl.1 rfl (Nat.le_of_ble_eq_true rfl) dX3_line_23 ⟨Nat.le_of_ble_eq_true rfl, Nat.le_of_ble_eq_true rfl⟩ (fun v hv => by cases hv) (fun E hE H locs q9 ce hP hS e1 e2 e3 => ?_)
            cases hE
            exact xto F hP hS (Option.some.inj hm).symm (by decide) (by decide) e1 e2 e3
        · refine xSt F (c_X3_requireRange h3) tk_187 tk_185 tk_186 tk_1 rfl 3 (by decide +kernel) rfl ⟨Nat.le_of_ble_eq_true rfl, Nat.le_of_ble_eq_true rfl⟩ hP hS hl.1 rfl (Nat.le_of_ble_eq_true rfl) dX3_line_18 ⟨Nat.le_of_ble_eq_true rfl, Nat.le_of_ble_eq_true rfl⟩ (fun v hv => by cases hv) (fun E hE H locs q9 ce hP hS e1 e2 e3 => ?_)
          cases hE
          exact xto F hP hS (Option.some.inj hm).symm (by decide) (by decide) e1 e2 e3
      · refine xSt F (c_X3_requireRange h2) tk_187 tk_185 tk_186 tk_1 rfl 3 (by decide +kernel) rfl ⟨Nat.le_of_ble_eq_true rfl, Nat.le_of_ble_eq_true rfl⟩ hP hS hl.1 rfl (Nat.le_of_ble_eq_true rfl) dX3_line_11 ⟨Nat.le_of_ble_eq_true rfl, Nat.le_of_ble_eq_true rfl⟩ (fun v hv => by cases hv) (fun E hE H locs q9 ce hP hS e1 e2 e3 => ?_)
        cases hE
        exact xto F hP hS (Option.some.inj hm).symm (by decide) (by decide) e1 e2 e3
    · rw [if_neg k1_] at hm
      cases hm
  · refine xV F (c_X3_requireOrder h1) tk_285 tk_282 tk_284 tu_8 tk_1 rfl 1 (by decide +kernel) rfl ⟨Nat.le_of_ble_eq_true rfl, Nat.le_of_ble_eq_true rfl⟩ hP hS (kd_k kdc_0 (by decide)) (wc3 kdc_0) rfl hl.1 rfl (Nat.le_of_ble_eq_true rfl) dX3_line_2 ⟨Nat.le_of_ble_eq_true rfl, Nat.le_of_ble_eq_true rfl⟩ (fun v hv => by cases hv) (fun E hE H locs q9 ce hP hS e1 e2 e3 => ?_)
    cases hE
    exact xto F hP hS (Option.some.inj hm).symm (by decide) (by decide) e1 e2 e3
/-! ===== X3_carrier ===== -/
def f_X3_carrier (σ : St) (x1 : Int32) (x2 : Int32) : Option (RV × St) :=
  qp (f_X3_requireOrder σ x1) (fun E => some (.inr E, σ)) (fun q1_ =>
    if kd q1_ = 1 then
      qv (f_X3_requireRange σ x2 0 3) (fun E => some (.inr E, σ)) (
        qv (f_X3_requireFree σ q1_) (fun E => some (.inr E, σ)) (
          some (.inl none, (up2 σ q1_ 3 x2))))
    else none)
set_option maxHeartbeats 4000000 in
set_option maxRecDepth 100000 in
theorem c_X3_carrier {l : Launch} {G : GT} {σ : St} {x1 : Int32} {x2 : Int32} {r : RV × St} (hm : f_X3_carrier σ x1 x2 = some r) : MC l G yX3_carrier cX3_carrier 4 none 7 112 3 18 [.inr 0, .inl x1, .inl x2] σ r := by
  refine xbody (by decide) (Nat.le_of_ble_eq_true rfl) ?_
  intro lo p e s m args below meth c F hP ls hl
  have F : Fx p l s args m meth c G cX3_carrier 4 none RX3 := F
  obtain ⟨hx, hb, hrt, hml, hown, hts, hlocks, hC, htab, hst⟩ := id F
  have hS : va_S (gF G) s.heap s.heap [] := va_S.rf
  have hl : lv_has ls 4 [(0, .ref (gA G 0)), (1, .int x1), (2, .int x2)] := hl
  unfold f_X3_carrier at hm
  refine lv_aload_n hx hb dX3_carrier_0 rfl (lv_at hl 0 rfl) ?_
  refine lv_iload_n hx hb dX3_carrier_1 rfl (lv_at hl 1 rfl) ?_
  rcases qp_inv hm with ⟨q1_, h1, hm⟩ | ⟨E1, h1, hm⟩
  · refine xV F (c_X3_requireOrder h1) tk_285 tk_282 tk_284 tu_8 tk_1 rfl 1 (by decide +kernel) rfl ⟨Nat.le_of_ble_eq_true rfl, Nat.le_of_ble_eq_true rfl⟩ hP hS (kd_k kdc_0 (by decide)) (wc3 kdc_0) rfl hl.1 rfl (Nat.le_of_ble_eq_true rfl) dX3_carrier_2 ⟨Nat.le_of_ble_eq_true rfl, Nat.le_of_ble_eq_true rfl⟩ (fun v hv H locs hP hS => ?_) (fun E hE => by cases hE)
    cases hv
    replace hP : va_P (gD G) vwCl (wld G lo σ) H := hP
    refine W.eq (g2 := F0 m 5 ls [.ref (gA G q1_)]) rfl ?_
    by_cases k1_ : kd q1_ = 1
    · rw [if_pos k1_] at hm
      refine lv_astore_n (lv' := [(3, .ref (gA G q1_)), (0, .ref (gA G 0)), (1, .int x1), (2, .int x2)]) hx hb dX3_carrier_5 rfl hl (by decide) rfl (fun ls hl => ?_)
      refine lv_iload_n hx hb dX3_carrier_6 rfl (lv_at hl 3 rfl) ?_
      refine lv_iconst (v := 0) hx hb dX3_carrier_7 (by decide) ?_
      refine lv_iconst (v := 3) hx hb dX3_carrier_8 (by decide) ?_
      rcases qv_inv hm with ⟨h2, hm⟩ | ⟨E2, h2, hm⟩
      · refine xSt F (c_X3_requireRange h2) tk_187 tk_185 tk_186 tk_1 rfl 3 (by decide +kernel) rfl ⟨Nat.le_of_ble_eq_true rfl, Nat.le_of_ble_eq_true rfl⟩ hP hS hl.1 rfl (Nat.le_of_ble_eq_true rfl) dX3_carrier_9 ⟨Nat.le_of_ble_eq_true rfl, Nat.le_of_ble_eq_true rfl⟩ (fun v hv H locs hP hS => ?_) (fun E hE => by cases hE)
        cases hv
        replace hP : va_P (gD G) vwCl (wld G lo σ) H := hP
        refine W.eq (g2 := F0 m 12 ls []) rfl ?_
        refine lv_aload_n hx hb dX3_carrier_12 rfl (lv_at hl 0 rfl) ?_
        rcases qv_inv hm with ⟨h3, hm⟩ | ⟨E3, h3, hm⟩
        · refine xSt F (c_X3_requireFree k1_ h3) tk_304 tk_302 tk_303 tk_1 rfl 1 (by decide +kernel) rfl ⟨Nat.le_of_ble_eq_true rfl, Nat.le_of_ble_eq_true rfl⟩ hP hS hl.1 rfl (Nat.le_of_ble_eq_true rfl) dX3_carrier_13 ⟨Nat.le_of_ble_eq_true rfl, Nat.le_of_ble_eq_true rfl⟩ (fun v hv H locs hP hS => ?_) (fun E hE => by cases hE)
          cases hv
          replace hP : va_P (gD G) vwCl (wld G lo σ) H := hP
          refine W.eq (g2 := F0 m 16 ls []) rfl ?_
          refine lv_aload_n hx hb dX3_carrier_16 rfl (lv_at hl 0 rfl) ?_
          refine lv_iload_n hx hb dX3_carrier_17 rfl (lv_at hl 3 rfl) ?_
          refine xpN F (v := x2) (ty := .int) 3 inX1 tyX1_ok nmX1 hP hS (kd_k k1_ (by decide)) (wc1 k1_) (wu1_3 k1_) rfl (by decide) tn_6 rfl rfl rfl rfl rfl (Nat.le_of_ble_eq_true rfl) dX3_carrier_18 (fun H locs hP hS => ?_)
          exact xvr F hP hS (Option.some.inj hm).symm (by decide) (by decide) dX3_carrier_21
        · refine xSt F (c_X3_requireFree k1_ h3) tk_304 tk_302 tk_303 tk_1 rfl 1 (by decide +kernel) rfl ⟨Nat.le_of_ble_eq_true rfl, Nat.le_of_ble_eq_true rfl⟩ hP hS hl.1 rfl (Nat.le_of_ble_eq_true rfl) dX3_carrier_13 ⟨Nat.le_of_ble_eq_true rfl, Nat.le_of_ble_eq_true rfl⟩ (fun v hv => by cases hv) (fun E hE H locs q9 ce hP hS e1 e2 e3 => ?_)
          cases hE
          exact xto F hP hS (Option.some.inj hm).symm (by decide) (by decide) e1 e2 e3
      · refine xSt F (c_X3_requireRange h2) tk_187 tk_185 tk_186 tk_1 rfl 3 (by decide +kernel) rfl ⟨Nat.le_of_ble_eq_true rfl, Nat.le_of_ble_eq_true rfl⟩ hP hS hl.1 rfl (Nat.le_of_ble_eq_true rfl) dX3_carrier_9 ⟨Nat.le_of_ble_eq_true rfl, Nat.le_of_ble_eq_true rfl⟩ (fun v hv => by cases hv) (fun E hE H locs q9 ce hP hS e1 e2 e3 => ?_)
        cases hE
        exact xto F hP hS (Option.some.inj hm).symm (by decide) (by decide) e1 e2 e3
    · rw [if_neg k1_] at hm
      cases hm
  · refine xV F (c_X3_requireOrder h1) tk_285 tk_282 tk_284 tu_8 tk_1 rfl 1 (by decide +kernel) rfl ⟨Nat.le_of_ble_eq_true rfl, Nat.le_of_ble_eq_true rfl⟩ hP hS (kd_k kdc_0 (by decide)) (wc3 kdc_0) rfl hl.1 rfl (Nat.le_of_ble_eq_true rfl) dX3_carrier_2 ⟨Nat.le_of_ble_eq_true rfl, Nat.le_of_ble_eq_true rfl⟩ (fun v hv => by cases hv) (fun E hE H locs q9 ce hP hS e1 e2 e3 => ?_)
    cases hE
    exact xto F hP hS (Option.some.inj hm).symm (by decide) (by decide) e1 e2 e3
/-! ===== X3_hour ===== -/
def f_X3_hour (σ : St) (x1 : Int32) (x2 : Int32) (x3 : Int32) : Option (RV × St) :=
  qv (f_X3_requireRange σ x1 0 3) (fun E => some (.inr E, σ)) (
    qv (f_X3_requireRange σ x2 0 100000) (fun E => some (.inr E, σ)) (
      qv (f_X3_requireRange σ x3 x2 100000) (fun E => some (.inr E, σ)) (
        if (σ 1 3) < 10 then
          nv (f_X0_open σ x1 x2 x3) (fun σ5 =>
            ri (f_X0_hoursOf σ5 x1) (fun x6_ =>
              some (.inl (some (.inl x6_)), σ5)))
        else
          some (.inr "java/lang/UnsupportedOperationException", σ))))
set_option maxHeartbeats 4000000 in
set_option maxRecDepth 100000 in
theorem c_X3_hour {l : Launch} {G : GT} {σ : St} {x1 : Int32} {x2 : Int32} {x3 : Int32} {r : RV × St} (hm : f_X3_hour σ x1 x2 x3 = some r) : MC l G yX3_hour cX3_hour 4 (some .int) 7 112 4 24 [.inr 0, .inl x1, .inl x2, .inl x3] σ r := by
  refine xbody (by decide) (Nat.le_of_ble_eq_true rfl) ?_
  intro lo p e s m args below meth c F hP ls hl
  have F : Fx p l s args m meth c G cX3_hour 4 (some .int) RX3 := F
  obtain ⟨hx, hb, hrt, hml, hown, hts, hlocks, hC, htab, hst⟩ := id F
  have hS : va_S (gF G) s.heap s.heap [] := va_S.rf
  have hl : lv_has ls 4 [(0, .ref (gA G 0)), (1, .int x1), (2, .int x2), (3, .int x3)] := hl
  unfold f_X3_hour at hm
  refine lv_iload_n hx hb dX3_hour_0 rfl (lv_at hl 1 rfl) ?_
  refine lv_iconst (v := 0) hx hb dX3_hour_1 (by decide) ?_
  refine lv_iconst (v := 3) hx hb dX3_hour_2 (by decide) ?_
  rcases qv_inv hm with ⟨h1, hm⟩ | ⟨E1, h1, hm⟩
  · refine xSt F (c_X3_requireRange h1) tk_187 tk_185 tk_186 tk_1 rfl 3 (by decide +kernel) rfl ⟨Nat.le_of_ble_eq_true rfl, Nat.le_of_ble_eq_true rfl⟩ hP hS hl.1 rfl (Nat.le_of_ble_eq_true rfl) dX3_hour_3 ⟨Nat.le_of_ble_eq_true rfl, Nat.le_of_ble_eq_true rfl⟩ (fun v hv H locs hP hS => ?_) (fun E hE => by cases hE)
    cases hv
    replace hP : va_P (gD G) vwCl (wld G lo σ) H := hP
    refine W.eq (g2 := F0 m 6 ls []) rfl ?_
    refine lv_iload_n hx hb dX3_hour_6 rfl (lv_at hl 2 rfl) ?_
    refine lv_iconst (v := 0) hx hb dX3_hour_7 (by decide) ?_
    refine lv_ldc (v := 100000) hx hb hown (hts _ tk_184) dX3_hour_8 ?_
    rcases qv_inv hm with ⟨h2, hm⟩ | ⟨E2, h2, hm⟩
    · refine xSt F (c_X3_requireRange h2) tk_187 tk_185 tk_186 tk_1 rfl 3 (by decide +kernel) rfl ⟨Nat.le_of_ble_eq_true rfl, Nat.le_of_ble_eq_true rfl⟩ hP hS hl.1 rfl (Nat.le_of_ble_eq_true rfl) dX3_hour_10 ⟨Nat.le_of_ble_eq_true rfl, Nat.le_of_ble_eq_true rfl⟩ (fun v hv H locs hP hS => ?_) (fun E hE => by cases hE)
      cases hv
      replace hP : va_P (gD G) vwCl (wld G lo σ) H := hP
      refine W.eq (g2 := F0 m 13 ls []) rfl ?_
      refine lv_iload_n hx hb dX3_hour_13 rfl (lv_at hl 3 rfl) ?_
      refine lv_iload_n hx hb dX3_hour_14 rfl (lv_at hl 2 rfl) ?_
      refine lv_ldc (v := 100000) hx hb hown (hts _ tk_184) dX3_hour_15 ?_
      rcases qv_inv hm with ⟨h3, hm⟩ | ⟨E3, h3, hm⟩
      · refine xSt F (c_X3_requireRange h3) tk_187 tk_185 tk_186 tk_1 rfl 3 (by decide +kernel) rfl ⟨Nat.le_of_ble_eq_true rfl, Nat.le_of_ble_eq_true rfl⟩ hP hS hl.1 rfl (Nat.le_of_ble_eq_true rfl) dX3_hour_17 ⟨Nat.le_of_ble_eq_true rfl, Nat.le_of_ble_eq_true rfl⟩ (fun v hv H locs hP hS => ?_) (fun E hE => by cases hE)
        cases hv
        replace hP : va_P (gD G) vwCl (wld G lo σ) H := hP
        refine W.eq (g2 := F0 m 20 ls []) rfl ?_
        refine lv_aload_n hx hb dX3_hour_20 rfl (lv_at hl 0 rfl) ?_
        refine xg F 1 inX3 hP (kd_k kdc_0 (by decide)) (wc3 kdc_0) rfl (by decide) tk_112 rfl rfl dX3_hour_21 ?_
        refine xgN F 3 inX0 hP (kd_k kdc_1 (by decide)) (wc0 kdc_1) rfl (by decide) tn_1 rfl rfl dX3_hour_24 ?_
        refine lv_bipush (v := 10) hx hb dX3_hour_27 (by decide) ?_
        refine lv_icmp_lt (tgt := 42) hx hb dX3_hour_29 (by decide) (fun b4 => ?_) (fun b4 => ?_)
        · rw [if_pos b4] at hm
          refine lv_aload_n hx hb dX3_hour_42 rfl (lv_at hl 0 rfl) ?_
          refine xg F 1 inX3 hP (kd_k kdc_0 (by decide)) (wc3 kdc_0) rfl (by decide) tk_112 rfl rfl dX3_hour_43 ?_
          refine lv_iload_n hx hb dX3_hour_46 rfl (lv_at hl 1 rfl) ?_
          refine lv_iload_n hx hb dX3_hour_47 rfl (lv_at hl 2 rfl) ?_
          refine lv_iload_n hx hb dX3_hour_48 rfl (lv_at hl 3 rfl) ?_
          obtain ⟨σ5, h5, hm⟩ := nv_inv hm
          refine xVN F (c_X0_open h5) rfl tk_341 tn_28 tk_340 tu_9 tk_3 rfl 3 (by decide +kernel) rfl ⟨Nat.le_of_ble_eq_true rfl, Nat.le_of_ble_eq_true rfl⟩ hP hS (kd_k kdc_1 (by decide)) (wc0 kdc_1) rfl hl.1 rfl (Nat.le_of_ble_eq_true rfl) dX3_hour_49 ⟨Nat.le_of_ble_eq_true rfl, Nat.le_of_ble_eq_true rfl⟩ (fun H locs hP hS => ?_)
          replace hP : va_P (gD G) vwCl (wld G lo σ5) H := hP
          refine W.eq (g2 := F0 m 52 ls []) rfl ?_
          refine lv_aload_n hx hb dX3_hour_52 rfl (lv_at hl 0 rfl) ?_
          refine xg F 1 inX3 hP (kd_k kdc_0 (by decide)) (wc3 kdc_0) rfl (by decide) tk_112 rfl rfl dX3_hour_53 ?_
          refine lv_iload_n hx hb dX3_hour_56 rfl (lv_at hl 1 rfl) ?_
          obtain ⟨x6_, h6, hm⟩ := ri_inv hm
          refine xVN F (c_X0_hoursOf h6) rfl tk_345 tn_29 tk_344 tu_10 tk_3 rfl 1 (by decide +kernel) rfl ⟨Nat.le_of_ble_eq_true rfl, Nat.le_of_ble_eq_true rfl⟩ hP hS (kd_k kdc_1 (by decide)) (wc0 kdc_1) rfl hl.1 rfl (Nat.le_of_ble_eq_true rfl) dX3_hour_57 ⟨Nat.le_of_ble_eq_true rfl, Nat.le_of_ble_eq_true rfl⟩ (fun H locs hP hS => ?_)
          replace hP : va_P (gD G) vwCl (wld G lo σ5) H := hP
          refine W.eq (g2 := F0 m 60 ls [.int x6_]) rfl ?_
          exact xir F hP hS (Option.some.inj hm).symm (by decide) (by decide) dX3_hour_60
        · rw [if_neg b4] at hm
          exact xthr F hP hS (Option.some.inj hm).symm (by decide) (by decide) hl.1 (by decide +kernel) tk_257 tk_11 (List.mem_of_getElem? (i := 6) rfl) xt_64_1 xt_64_2 xt_64_60 dX3_hour_32 dX3_hour_35 dX3_hour_36 dX3_hour_38 dX3_hour_41 (Nat.le_of_ble_eq_true rfl) (Nat.le_of_ble_eq_true rfl) (Nat.le_of_ble_eq_true rfl) (Nat.le_of_ble_eq_true rfl)
      · refine xSt F (c_X3_requireRange h3) tk_187 tk_185 tk_186 tk_1 rfl 3 (by decide +kernel) rfl ⟨Nat.le_of_ble_eq_true rfl, Nat.le_of_ble_eq_true rfl⟩ hP hS hl.1 rfl (Nat.le_of_ble_eq_true rfl) dX3_hour_17 ⟨Nat.le_of_ble_eq_true rfl, Nat.le_of_ble_eq_true rfl⟩ (fun v hv => by cases hv) (fun E hE H locs q9 ce hP hS e1 e2 e3 => ?_)
        cases hE
        exact xto F hP hS (Option.some.inj hm).symm (by decide) (by decide) e1 e2 e3
    · refine xSt F (c_X3_requireRange h2) tk_187 tk_185 tk_186 tk_1 rfl 3 (by decide +kernel) rfl ⟨Nat.le_of_ble_eq_true rfl, Nat.le_of_ble_eq_true rfl⟩ hP hS hl.1 rfl (Nat.le_of_ble_eq_true rfl) dX3_hour_10 ⟨Nat.le_of_ble_eq_true rfl, Nat.le_of_ble_eq_true rfl⟩ (fun v hv => by cases hv) (fun E hE H locs q9 ce hP hS e1 e2 e3 => ?_)
      cases hE
      exact xto F hP hS (Option.some.inj hm).symm (by decide) (by decide) e1 e2 e3
  · refine xSt F (c_X3_requireRange h1) tk_187 tk_185 tk_186 tk_1 rfl 3 (by decide +kernel) rfl ⟨Nat.le_of_ble_eq_true rfl, Nat.le_of_ble_eq_true rfl⟩ hP hS hl.1 rfl (Nat.le_of_ble_eq_true rfl) dX3_hour_3 ⟨Nat.le_of_ble_eq_true rfl, Nat.le_of_ble_eq_true rfl⟩ (fun v hv => by cases hv) (fun E hE H locs q9 ce hP hS e1 e2 e3 => ?_)
    cases hE
    exact xto F hP hS (Option.some.inj hm).symm (by decide) (by decide) e1 e2 e3
/-! ===== X3_stock ===== -/
def f_X3_stock (σ : St) (x1 : Int32) (x2 : Int32) : Option (RV × St) :=
  qv (f_X3_requireRange σ x1 0 9) (fun E => some (.inr E, σ)) (
    qv (f_X3_requireRange σ x2 0 10000) (fun E => some (.inr E, σ)) (
      if x1 < 0 ∨ 10 ≤ x1.toNatClampNeg then none
      else
        some (.inl none, (up2 σ 5 x1.toNatClampNeg x2))))
set_option maxHeartbeats 4000000 in
set_option maxRecDepth 100000 in
theorem c_X3_stock {l : Launch} {G : GT} {σ : St} {x1 : Int32} {x2 : Int32} {r : RV × St} (hm : f_X3_stock σ x1 x2 = some r) : MC l G yX3_stock cX3_stock 3 none 7 112 2 12 [.inr 0, .inl x1, .inl x2] σ r := by
  refine xbody (by decide) (Nat.le_of_ble_eq_true rfl) ?_
  intro lo p e s m args below meth c F hP ls hl
  have F : Fx p l s args m meth c G cX3_stock 3 none RX3 := F
  obtain ⟨hx, hb, hrt, hml, hown, hts, hlocks, hC, htab, hst⟩ := id F
  have hS : va_S (gF G) s.heap s.heap [] := va_S.rf
  have hl : lv_has ls 3 [(0, .ref (gA G 0)), (1, .int x1), (2, .int x2)] := hl
  unfold f_X3_stock at hm
  refine lv_iload_n hx hb dX3_stock_0 rfl (lv_at hl 1 rfl) ?_
  refine lv_iconst (v := 0) hx hb dX3_stock_1 (by decide) ?_
  refine lv_bipush (v := 9) hx hb dX3_stock_2 (by decide) ?_
  rcases qv_inv hm with ⟨h1, hm⟩ | ⟨E1, h1, hm⟩
  · refine xSt F (c_X3_requireRange h1) tk_187 tk_185 tk_186 tk_1 rfl 3 (by decide +kernel) rfl ⟨Nat.le_of_ble_eq_true rfl, Nat.le_of_ble_eq_true rfl⟩ hP hS hl.1 rfl (Nat.le_of_ble_eq_true rfl) dX3_stock_4 ⟨Nat.le_of_ble_eq_true rfl, Nat.le_of_ble_eq_true rfl⟩ (fun v hv H locs hP hS => ?_) (fun E hE => by cases hE)
    cases hv
    replace hP : va_P (gD G) vwCl (wld G lo σ) H := hP
    refine W.eq (g2 := F0 m 7 ls []) rfl ?_
    refine lv_iload_n hx hb dX3_stock_7 rfl (lv_at hl 2 rfl) ?_
    refine lv_iconst (v := 0) hx hb dX3_stock_8 (by decide) ?_
    refine lv_sipush (v := 10000) hx hb dX3_stock_9 (by decide) ?_
    rcases qv_inv hm with ⟨h2, hm⟩ | ⟨E2, h2, hm⟩
    · refine xSt F (c_X3_requireRange h2) tk_187 tk_185 tk_186 tk_1 rfl 3 (by decide +kernel) rfl ⟨Nat.le_of_ble_eq_true rfl, Nat.le_of_ble_eq_true rfl⟩ hP hS hl.1 rfl (Nat.le_of_ble_eq_true rfl) dX3_stock_12 ⟨Nat.le_of_ble_eq_true rfl, Nat.le_of_ble_eq_true rfl⟩ (fun v hv H locs hP hS => ?_) (fun E hE => by cases hE)
      cases hv
      replace hP : va_P (gD G) vwCl (wld G lo σ) H := hP
      refine W.eq (g2 := F0 m 15 ls []) rfl ?_
      refine lv_aload_n hx hb dX3_stock_15 rfl (lv_at hl 0 rfl) ?_
      refine xg F 2 inX3 hP (kd_k kdc_0 (by decide)) (wc3 kdc_0) rfl (by decide) tk_113 rfl rfl dX3_stock_16 ?_
      refine lv_iload_n hx hb dX3_stock_19 rfl (lv_at hl 1 rfl) ?_
      refine lv_iload_n hx hb dX3_stock_20 rfl (lv_at hl 2 rfl) ?_
      by_cases b3 : (x1 < 0 ∨ 10 ≤ x1.toNatClampNeg)
      · rw [if_pos b3] at hm
        cases hm
      · rw [if_neg b3] at hm
        refine xis F (v := x2) hP hS kdc_5 lnc_5 b3 dX3_stock_21 (fun H locs hP hS => ?_)
        exact xvr F hP hS (Option.some.inj hm).symm (by decide) (by decide) dX3_stock_22
    · refine xSt F (c_X3_requireRange h2) tk_187 tk_185 tk_186 tk_1 rfl 3 (by decide +kernel) rfl ⟨Nat.le_of_ble_eq_true rfl, Nat.le_of_ble_eq_true rfl⟩ hP hS hl.1 rfl (Nat.le_of_ble_eq_true rfl) dX3_stock_12 ⟨Nat.le_of_ble_eq_true rfl, Nat.le_of_ble_eq_true rfl⟩ (fun v hv => by cases hv) (fun E hE H locs q9 ce hP hS e1 e2 e3 => ?_)
      cases hE
      exact xto F hP hS (Option.some.inj hm).symm (by decide) (by decide) e1 e2 e3
  · refine xSt F (c_X3_requireRange h1) tk_187 tk_185 tk_186 tk_1 rfl 3 (by decide +kernel) rfl ⟨Nat.le_of_ble_eq_true rfl, Nat.le_of_ble_eq_true rfl⟩ hP hS hl.1 rfl (Nat.le_of_ble_eq_true rfl) dX3_stock_4 ⟨Nat.le_of_ble_eq_true rfl, Nat.le_of_ble_eq_true rfl⟩ (fun v hv => by cases hv) (fun E hE H locs q9 ce hP hS e1 e2 e3 => ?_)
    cases hE
    exact xto F hP hS (Option.some.inj hm).symm (by decide) (by decide) e1 e2 e3
/-! ===== X3_fits ===== -/
def f_X3_fits (σ : St) (q1 : Nat) : Option RV :=
  ri (f_X0_have σ (σ q1 3) (σ q1 0)) (fun x1_ =>
    if x1_ = 0 ∨ x1_ = 1 then some (.inl (some (.inl x1_))) else none)
set_option maxHeartbeats 4000000 in
set_option maxRecDepth 100000 in
theorem c_X3_fits {l : Launch} {G : GT} {σ : St} {q1 : Nat} (k1 : kd q1 = 1) {r : RV} (hm : f_X3_fits σ q1 = some r) : MC l G yX3_fits cX3_fits 2 (some .boolean) 1 23 0 0 [.inr 0, .inr q1] σ (r, σ) := by
  refine xbody (by decide) (Nat.le_of_ble_eq_true rfl) ?_
  intro lo p e s m args below meth c F hP ls hl
  have F : Fx p l s args m meth c G cX3_fits 2 (some .boolean) RX3 := F
  obtain ⟨hx, hb, hrt, hml, hown, hts, hlocks, hC, htab, hst⟩ := id F
  have hS : va_S (gF G) s.heap s.heap [] := va_S.rf
  have hl : lv_has ls 2 [(0, .ref (gA G 0)), (1, .ref (gA G q1))] := hl
  unfold f_X3_fits at hm
  refine lv_aload_n hx hb dX3_fits_0 rfl (lv_at hl 0 rfl) ?_
  refine xg F 1 inX3 hP (kd_k kdc_0 (by decide)) (wc3 kdc_0) rfl (by decide) tk_112 rfl rfl dX3_fits_1 ?_
  refine lv_aload_n hx hb dX3_fits_4 rfl (lv_at hl 1 rfl) ?_
  refine xgN F 3 inX1 hP (kd_k k1 (by decide)) (wc1 k1) rfl (by decide) tn_6 rfl rfl dX3_fits_5 ?_
  refine lv_aload_n hx hb dX3_fits_8 rfl (lv_at hl 1 rfl) ?_
  refine xgN F 0 inX1 hP (kd_k k1 (by decide)) (wc1 k1) rfl (by decide) tn_3 rfl rfl dX3_fits_9 ?_
  obtain ⟨x1_, h1, hm⟩ := ri_inv hm
  refine xVN F (c_X0_have h1) rfl tk_379 tn_30 tk_378 tu_15 tk_3 rfl 2 (by decide +kernel) rfl ⟨Nat.le_of_ble_eq_true rfl, Nat.le_of_ble_eq_true rfl⟩ hP hS (kd_k kdc_1 (by decide)) (wc0 kdc_1) rfl hl.1 rfl (Nat.le_of_ble_eq_true rfl) dX3_fits_12 ⟨Nat.le_of_ble_eq_true rfl, Nat.le_of_ble_eq_true rfl⟩ (fun H locs hP hS => ?_)
  replace hP : va_P (gD G) vwCl (wld G lo σ) H := hP
  refine W.eq (g2 := F0 m 15 ls [.int x1_]) rfl ?_
  by_cases b2 : (x1_ = 0 ∨ x1_ = 1)
  · rw [if_pos b2] at hm
    exact xzr F hP hS (nar_b b2) (congrArg (fun z => (z, σ)) (Option.some.inj hm).symm) (by decide) (by decide) dX3_fits_15
  · rw [if_neg b2] at hm
    cases hm
/-! ===== X3_mayBePlanned ===== -/
def f_X3_mayBePlanned (σ : St) (q1 : Nat) : Option RV :=
  if (σ q1 6) = 0 then
    ri (f_X3_fits σ q1) (fun x2_ =>
      if x2_ = 0 then
        some (.inl (some (.inl 0)))
      else
        some (.inl (some (.inl 1))))
  else
    some (.inl (some (.inl 0)))
set_option maxHeartbeats 4000000 in
set_option maxRecDepth 100000 in
theorem c_X3_mayBePlanned {l : Launch} {G : GT} {σ : St} {q1 : Nat} (k1 : kd q1 = 1) {r : RV} (hm : f_X3_mayBePlanned σ q1 = some r) : MC l G yX3_mayBePlanned cX3_mayBePlanned 2 (some .boolean) 2 44 0 0 [.inr 0, .inr q1] σ (r, σ) := by
  refine xbody (by decide) (Nat.le_of_ble_eq_true rfl) ?_
  intro lo p e s m args below meth c F hP ls hl
  have F : Fx p l s args m meth c G cX3_mayBePlanned 2 (some .boolean) RX3 := F
  obtain ⟨hx, hb, hrt, hml, hown, hts, hlocks, hC, htab, hst⟩ := id F
  have hS : va_S (gF G) s.heap s.heap [] := va_S.rf
  have hl : lv_has ls 2 [(0, .ref (gA G 0)), (1, .ref (gA G q1))] := hl
  unfold f_X3_mayBePlanned at hm
  refine lv_aload_n hx hb dX3_mayBePlanned_0 rfl (lv_at hl 1 rfl) ?_
  refine xgN F 6 inX1 hP (kd_k k1 (by decide)) (wc1 k1) rfl (by decide) tn_9 rfl rfl dX3_mayBePlanned_1 ?_
  refine lv_if_ne (tgt := 19) hx hb dX3_mayBePlanned_4 (by decide) (fun b1 => ?_) (fun b1 => ?_)
  · rw [if_neg b1] at hm
    refine lv_iconst (v := 0) hx hb dX3_mayBePlanned_19 (by decide) ?_
    exact xzr F hP hS rfl (congrArg (fun z => (z, σ)) (Option.some.inj hm).symm) (by decide) (by decide) dX3_mayBePlanned_20
  · rw [if_pos b1] at hm
    refine lv_aload_n hx hb dX3_mayBePlanned_7 rfl (lv_at hl 0 rfl) ?_
    refine lv_aload_n hx hb dX3_mayBePlanned_8 rfl (lv_at hl 1 rfl) ?_
    obtain ⟨x2_, h2, hm⟩ := ri_inv hm
    refine xV F (c_X3_fits k1 h2) tk_375 tk_372 tk_374 tu_14 tk_1 rfl 1 (by decide +kernel) rfl ⟨Nat.le_of_ble_eq_true rfl, Nat.le_of_ble_eq_true rfl⟩ hP hS (kd_k kdc_0 (by decide)) (wc3 kdc_0) rfl hl.1 rfl (Nat.le_of_ble_eq_true rfl) dX3_mayBePlanned_9 ⟨Nat.le_of_ble_eq_true rfl, Nat.le_of_ble_eq_true rfl⟩ (fun v hv H locs hP hS => ?_) (fun E hE => by cases hE)
    cases hv
    replace hP : va_P (gD G) vwCl (wld G lo σ) H := hP
    refine W.eq (g2 := F0 m 12 ls [.int x2_]) rfl ?_
    refine lv_if_eq (tgt := 19) hx hb dX3_mayBePlanned_12 (by decide) (fun b3 => ?_) (fun b3 => ?_)
    · rw [if_pos b3] at hm
      refine lv_iconst (v := 0) hx hb dX3_mayBePlanned_19 (by decide) ?_
      exact xzr F hP hS rfl (congrArg (fun z => (z, σ)) (Option.some.inj hm).symm) (by decide) (by decide) dX3_mayBePlanned_20
    · rw [if_neg b3] at hm
      refine lv_iconst (v := 1) hx hb dX3_mayBePlanned_15 (by decide) ?_
      refine lv_goto (tgt := 20) hx hb dX3_mayBePlanned_16 (by decide) ?_
      exact xzr F hP hS rfl (congrArg (fun z => (z, σ)) (Option.some.inj hm).symm) (by decide) (by decide) dX3_mayBePlanned_20
/-! ===== X3_nextBeginning ===== -/
def f_X3_nextBeginning_4 (σ : St) : Nat → Int32 → Int32 → Option RV
  | 0, _, _ => none
  | n + 1, x1, x2 =>
    if (σ 0 4) ≤ x2 then
      some (.inl (some (.inl x1)))
    else
      if x2 < 0 ∨ 16 ≤ x2.toNatClampNeg then none
      else
        ri (f_X3_mayBePlanned σ (26 + 2 * x2.toNatClampNeg)) (fun x3_ =>
          if x3_ = 0 then
            f_X3_nextBeginning_4 σ n x1 (x2 + 1)
          else
            if (σ (26 + 2 * x2.toNatClampNeg) 8) = 0 then
              if x1 = (-1) then
                f_X3_nextBeginning_4 σ n x2 (x2 + 1)
              else
                if x1 < 0 ∨ 16 ≤ x1.toNatClampNeg then none
                else
                  if (σ (26 + 2 * x1.toNatClampNeg) 0) ≤ (σ (26 + 2 * x2.toNatClampNeg) 0) then
                    f_X3_nextBeginning_4 σ n x1 (x2 + 1)
                  else
                    f_X3_nextBeginning_4 σ n x2 (x2 + 1)
            else
              f_X3_nextBeginning_4 σ n x1 (x2 + 1))
set_option maxHeartbeats 4000000 in
set_option maxRecDepth 100000 in
theorem w_X3_nextBeginning_4 {p : Program} {l : Launch} {e : Env} {s : State} {m : MethodId} {args : Array Value} {below : List Frame} {meth : Method} {c : Code} {G : GT} {lo : Nat → Int64} (F : Fx p l s args m meth c G cX3_nextBeginning 4 (some .int) RX3) {σ : St} : ∀ (n : Nat) {x1 : Int32} {x2 : Int32} {r : RV}, f_X3_nextBeginning_4 σ n x1 x2 = some r → ∀ {H : Heap} {locs : List Loc}, va_P (gD G) vwCl (wld G lo σ) H → va_S (gF G) s.heap H locs → ∀ {ls : Array Slot}, lv_has ls 4 [(0, .ref (gA G 0)), (1, .int x1), (2, .int x2)] → W p l e (RM 3 65 0 0) s m args below meth c H locs 0 0 (vx_MQ below (QCr G lo (r, σ)) (XCr G lo (r, σ)) args s 0 0 (gF G)) (F0 m 4 ls []) := by
  obtain ⟨hx, hb, hrt, hml, hown, hts, hlocks, hC, htab, hst⟩ := id F
  intro n
  induction n with
  | zero =>
    intro x1 x2 r hm
    simp only [f_X3_nextBeginning_4] at hm
    cases hm
  | succ n ih =>
    intro x1 x2 r hm H locs hP hS ls hl
    rw [f_X3_nextBeginning_4] at hm
    refine lv_iload_n hx hb dX3_nextBeginning_4 rfl (lv_at hl 2 rfl) ?_
    refine lv_aload_n hx hb dX3_nextBeginning_5 rfl (lv_at hl 0 rfl) ?_
    refine xg F 4 inX3 hP (kd_k kdc_0 (by decide)) (wc3 kdc_0) rfl (by decide) tk_115 rfl rfl dX3_nextBeginning_6 ?_
    refine lv_icmp_ge (tgt := 63) hx hb dX3_nextBeginning_9 (by decide) (fun b1 => ?_) (fun b1 => ?_)
    · rw [if_pos b1] at hm
      refine lv_iload_n hx hb dX3_nextBeginning_63 rfl (lv_at hl 1 rfl) ?_
      exact xir F hP hS (congrArg (fun z => (z, σ)) (Option.some.inj hm).symm) (by decide) (by decide) dX3_nextBeginning_64
    · rw [if_neg b1] at hm
      refine lv_aload_n hx hb dX3_nextBeginning_12 rfl (lv_at hl 0 rfl) ?_
      refine xg F 3 inX3 hP (kd_k kdc_0 (by decide)) (wc3 kdc_0) rfl (by decide) tk_114 rfl rfl dX3_nextBeginning_13 ?_
      refine lv_iload_n hx hb dX3_nextBeginning_16 rfl (lv_at hl 2 rfl) ?_
      by_cases b2 : (x2 < 0 ∨ 16 ≤ x2.toNatClampNeg)
      · rw [if_pos b2] at hm
        cases hm
      · rw [if_neg b2] at hm
        refine xol F hP kdc_6 b2 dX3_nextBeginning_17 ?_
        refine lv_astore_n (lv' := [(3, .ref (gA G (26 + 2 * x2.toNatClampNeg))), (0, .ref (gA G 0)), (1, .int x1), (2, .int x2)]) hx hb dX3_nextBeginning_18 rfl hl (by decide) rfl (fun ls hl => ?_)
        refine lv_aload_n hx hb dX3_nextBeginning_19 rfl (lv_at hl 1 rfl) ?_
        refine lv_aload_n hx hb dX3_nextBeginning_20 rfl (lv_at hl 0 rfl) ?_
        obtain ⟨x3_, h3, hm⟩ := ri_inv hm
        refine xV F (c_X3_mayBePlanned (kd_ord b2) h3) tk_371 tk_368 tk_370 tu_13 tk_1 rfl 1 (by decide +kernel) rfl ⟨Nat.le_of_ble_eq_true rfl, Nat.le_of_ble_eq_true rfl⟩ hP hS (kd_k kdc_0 (by decide)) (wc3 kdc_0) rfl hl.1 rfl (Nat.le_of_ble_eq_true rfl) dX3_nextBeginning_21 ⟨Nat.le_of_ble_eq_true rfl, Nat.le_of_ble_eq_true rfl⟩ (fun v hv H locs hP hS => ?_) (fun E hE => by cases hE)
        cases hv
        replace hP : va_P (gD G) vwCl (wld G lo σ) H := hP
        refine W.eq (g2 := F0 m 24 ls [.int x3_]) rfl ?_
        refine lv_if_eq (tgt := 57) hx hb dX3_nextBeginning_24 (by decide) (fun b4 => ?_) (fun b4 => ?_)
        · rw [if_pos b4] at hm
          refine lv_iinc (v := (x2 + 1)) (lv' := [(2, .int (x2 + 1)), (3, .ref (gA G (26 + 2 * x2.toNatClampNeg))), (0, .ref (gA G 0)), (1, .int x1)]) hx hb dX3_nextBeginning_57 hl (k := 3) rfl rfl (by decide) rfl (fun ls hl => ?_)
          refine lv_goto (tgt := 4) hx hb dX3_nextBeginning_60 (by decide) ?_
          exact ih hm hP hS (lv_sub hl [2, 3, 0] rfl)
        · rw [if_neg b4] at hm
          refine lv_aload_n hx hb dX3_nextBeginning_27 rfl (lv_at hl 0 rfl) ?_
          refine xgN F 8 inX1 hP (kd_k (kd_ord b2) (by decide)) (wc1 (kd_ord b2)) rfl (by decide) tn_11 rfl rfl dX3_nextBeginning_28 ?_
          refine lv_if_ne (tgt := 57) hx hb dX3_nextBeginning_31 (by decide) (fun b5 => ?_) (fun b5 => ?_)
          · rw [if_neg b5] at hm
            refine lv_iinc (v := (x2 + 1)) (lv' := [(2, .int (x2 + 1)), (3, .ref (gA G (26 + 2 * x2.toNatClampNeg))), (0, .ref (gA G 0)), (1, .int x1)]) hx hb dX3_nextBeginning_57 hl (k := 3) rfl rfl (by decide) rfl (fun ls hl => ?_)
            refine lv_goto (tgt := 4) hx hb dX3_nextBeginning_60 (by decide) ?_
            exact ih hm hP hS (lv_sub hl [2, 3, 0] rfl)
          · rw [if_pos b5] at hm
            refine lv_iload_n hx hb dX3_nextBeginning_34 rfl (lv_at hl 2 rfl) ?_
            refine lv_iconst (v := (-1)) hx hb dX3_nextBeginning_35 (by decide) ?_
            refine lv_icmp_eq (tgt := 55) hx hb dX3_nextBeginning_36 (by decide) (fun b6 => ?_) (fun b6 => ?_)
            · rw [if_pos b6] at hm
              refine lv_iload_n hx hb dX3_nextBeginning_55 rfl (lv_at hl 3 rfl) ?_
              refine lv_istore_n (lv' := [(1, .int x2), (3, .ref (gA G (26 + 2 * x2.toNatClampNeg))), (0, .ref (gA G 0)), (2, .int x2)]) hx hb dX3_nextBeginning_56 rfl hl (by decide) rfl (fun ls hl => ?_)
              refine lv_iinc (v := (x2 + 1)) (lv' := [(2, .int (x2 + 1)), (1, .int x2), (3, .ref (gA G (26 + 2 * x2.toNatClampNeg))), (0, .ref (gA G 0))]) hx hb dX3_nextBeginning_57 hl (k := 3) rfl rfl (by decide) rfl (fun ls hl => ?_)
              refine lv_goto (tgt := 4) hx hb dX3_nextBeginning_60 (by decide) ?_
              exact ih hm hP hS (lv_sub hl [3, 1, 0] rfl)
            · rw [if_neg b6] at hm
              refine lv_aload_n hx hb dX3_nextBeginning_39 rfl (lv_at hl 0 rfl) ?_
              refine xgN F 0 inX1 hP (kd_k (kd_ord b2) (by decide)) (wc1 (kd_ord b2)) rfl (by decide) tn_3 rfl rfl dX3_nextBeginning_40 ?_
              refine lv_aload_n hx hb dX3_nextBeginning_43 rfl (lv_at hl 1 rfl) ?_
              refine xg F 3 inX3 hP (kd_k kdc_0 (by decide)) (wc3 kdc_0) rfl (by decide) tk_114 rfl rfl dX3_nextBeginning_44 ?_
              refine lv_iload_n hx hb dX3_nextBeginning_47 rfl (lv_at hl 2 rfl) ?_
              by_cases b7 : (x1 < 0 ∨ 16 ≤ x1.toNatClampNeg)
              · rw [if_pos b7] at hm
                cases hm
              · rw [if_neg b7] at hm
                refine xol F hP kdc_6 b7 dX3_nextBeginning_48 ?_
                refine xgN F 0 inX1 hP (kd_k (kd_ord b7) (by decide)) (wc1 (kd_ord b7)) rfl (by decide) tn_3 rfl rfl dX3_nextBeginning_49 ?_
                refine lv_icmp_ge (tgt := 57) hx hb dX3_nextBeginning_52 (by decide) (fun b8 => ?_) (fun b8 => ?_)
                · rw [if_pos b8] at hm
                  refine lv_iinc (v := (x2 + 1)) (lv' := [(2, .int (x2 + 1)), (3, .ref (gA G (26 + 2 * x2.toNatClampNeg))), (0, .ref (gA G 0)), (1, .int x1)]) hx hb dX3_nextBeginning_57 hl (k := 3) rfl rfl (by decide) rfl (fun ls hl => ?_)
                  refine lv_goto (tgt := 4) hx hb dX3_nextBeginning_60 (by decide) ?_
                  exact ih hm hP hS (lv_sub hl [2, 3, 0] rfl)
                · rw [if_neg b8] at hm
                  refine lv_iload_n hx hb dX3_nextBeginning_55 rfl (lv_at hl 3 rfl) ?_
                  refine lv_istore_n (lv' := [(1, .int x2), (3, .ref (gA G (26 + 2 * x2.toNatClampNeg))), (0, .ref (gA G 0)), (2, .int x2)]) hx hb dX3_nextBeginning_56 rfl hl (by decide) rfl (fun ls hl => ?_)
                  refine lv_iinc (v := (x2 + 1)) (lv' := [(2, .int (x2 + 1)), (1, .int x2), (3, .ref (gA G (26 + 2 * x2.toNatClampNeg))), (0, .ref (gA G 0))]) hx hb dX3_nextBeginning_57 hl (k := 3) rfl rfl (by decide) rfl (fun ls hl => ?_)
                  refine lv_goto (tgt := 4) hx hb dX3_nextBeginning_60 (by decide) ?_
                  exact ih hm hP hS (lv_sub hl [3, 1, 0] rfl)
def f_X3_nextBeginning (σ : St) : Option RV :=
  f_X3_nextBeginning_4 σ 40 (-1) 0
set_option maxHeartbeats 4000000 in
set_option maxRecDepth 100000 in
theorem c_X3_nextBeginning {l : Launch} {G : GT} {σ : St} {r : RV} (hm : f_X3_nextBeginning σ = some r) : MC l G yX3_nextBeginning cX3_nextBeginning 4 (some .int) 3 65 0 0 [.inr 0] σ (r, σ) := by
  refine xbody (by decide) (Nat.le_of_ble_eq_true rfl) ?_
  intro lo p e s m args below meth c F hP ls hl
  have F : Fx p l s args m meth c G cX3_nextBeginning 4 (some .int) RX3 := F
  obtain ⟨hx, hb, hrt, hml, hown, hts, hlocks, hC, htab, hst⟩ := id F
  have hS : va_S (gF G) s.heap s.heap [] := va_S.rf
  have hl : lv_has ls 4 [(0, .ref (gA G 0))] := hl
  unfold f_X3_nextBeginning at hm
  refine lv_iconst (v := (-1)) hx hb dX3_nextBeginning_0 (by decide) ?_
  refine lv_istore_n (lv' := [(1, .int (-1)), (0, .ref (gA G 0))]) hx hb dX3_nextBeginning_1 rfl hl (by decide) rfl (fun ls hl => ?_)
  refine lv_iconst (v := 0) hx hb dX3_nextBeginning_2 (by decide) ?_
  refine lv_istore_n (lv' := [(2, .int 0), (1, .int (-1)), (0, .ref (gA G 0))]) hx hb dX3_nextBeginning_3 rfl hl (by decide) rfl (fun ls hl => ?_)
  exact w_X3_nextBeginning_4 F 40 hm hP hS (lv_sub hl [2, 1, 0] rfl)
/-! ===== X3_greatestSaving ===== -/
def f_X3_greatestSaving_6 (σ : St) (q1 : Nat) (q2 : Nat) (x3 : Int32) : Nat → Int32 → Int32 → Option RV
  | 0, _, _ => none
  | n + 1, x4, x5 =>
    if x3 ≤ x5 then
      some (.inl (some (.inl x4)))
    else
      if (σ q2 1) ≤ x5 then
        some (.inl (some (.inl x4)))
      else
        if x5 < 0 ∨ 16 ≤ x5.toNatClampNeg then none
        else
          if (σ (q2 + 1) x5.toNatClampNeg) < 0 ∨ 16 ≤ (σ (q2 + 1) x5.toNatClampNeg).toNatClampNeg then none
          else
            ri (f_X1_savingWith σ q1 (26 + 2 * (σ (q2 + 1) x5.toNatClampNeg).toNatClampNeg)) (fun x5_ =>
              f_X3_greatestSaving_6 σ q1 q2 x3 n (if x4 < x5_ then x5_ else x4) (x5 + 1))
set_option maxHeartbeats 4000000 in
set_option maxRecDepth 100000 in
theorem w_X3_greatestSaving_6 {p : Program} {l : Launch} {e : Env} {s : State} {m : MethodId} {args : Array Value} {below : List Frame} {meth : Method} {c : Code} {G : GT} {lo : Nat → Int64} (F : Fx p l s args m meth c G cX3_greatestSaving 6 (some .int) RX3) {σ : St} {q1 : Nat} {q2 : Nat} {x3 : Int32} (k1 : kd q1 = 1) (k2 : kd q2 = 2) : ∀ (n : Nat) {x4 : Int32} {x5 : Int32} {r : RV}, f_X3_greatestSaving_6 σ q1 q2 x3 n x4 x5 = some r → ∀ {H : Heap} {locs : List Loc}, va_P (gD G) vwCl (wld G lo σ) H → va_S (gF G) s.heap H locs → ∀ {ls : Array Slot}, lv_has ls 6 [(0, .ref (gA G 0)), (1, .ref (gA G q1)), (2, .ref (gA G q2)), (3, .int x3), (4, .int x4), (5, .int x5)] → W p l e (RM 2 44 0 0) s m args below meth c H locs 0 0 (vx_MQ below (QCr G lo (r, σ)) (XCr G lo (r, σ)) args s 0 0 (gF G)) (F0 m 6 ls []) := by
  obtain ⟨hx, hb, hrt, hml, hown, hts, hlocks, hC, htab, hst⟩ := id F
  intro n
  induction n with
  | zero =>
    intro x4 x5 r hm
    simp only [f_X3_greatestSaving_6] at hm
    cases hm
  | succ n ih =>
    intro x4 x5 r hm H locs hP hS ls hl
    rw [f_X3_greatestSaving_6] at hm
    refine lv_iload hx hb dX3_greatestSaving_6 (lv_at hl 5 rfl) ?_
    refine lv_iload_n hx hb dX3_greatestSaving_8 rfl (lv_at hl 3 rfl) ?_
    refine lv_icmp_ge (tgt := 50) hx hb dX3_greatestSaving_9 (by decide) (fun b1 => ?_) (fun b1 => ?_)
    · rw [if_pos b1] at hm
      refine lv_iload hx hb dX3_greatestSaving_50 (lv_at hl 4 rfl) ?_
      exact xir F hP hS (congrArg (fun z => (z, σ)) (Option.some.inj hm).symm) (by decide) (by decide) dX3_greatestSaving_52
    · rw [if_neg b1] at hm
      refine lv_iload hx hb dX3_greatestSaving_12 (lv_at hl 5 rfl) ?_
      refine lv_aload_n hx hb dX3_greatestSaving_14 rfl (lv_at hl 2 rfl) ?_
      refine xgN F 1 inX2 hP (kd_k k2 (by decide)) (wc2 k2) rfl (by decide) tn_14 rfl rfl dX3_greatestSaving_15 ?_
      refine lv_icmp_ge (tgt := 50) hx hb dX3_greatestSaving_18 (by decide) (fun b2 => ?_) (fun b2 => ?_)
      · rw [if_pos b2] at hm
        refine lv_iload hx hb dX3_greatestSaving_50 (lv_at hl 4 rfl) ?_
        exact xir F hP hS (congrArg (fun z => (z, σ)) (Option.some.inj hm).symm) (by decide) (by decide) dX3_greatestSaving_52
      · rw [if_neg b2] at hm
        refine lv_iload hx hb dX3_greatestSaving_21 (lv_at hl 4 rfl) ?_
        refine lv_aload_n hx hb dX3_greatestSaving_23 rfl (lv_at hl 1 rfl) ?_
        refine lv_aload_n hx hb dX3_greatestSaving_24 rfl (lv_at hl 0 rfl) ?_
        refine xg F 3 inX3 hP (kd_k kdc_0 (by decide)) (wc3 kdc_0) rfl (by decide) tk_114 rfl rfl dX3_greatestSaving_25 ?_
        refine lv_aload_n hx hb dX3_greatestSaving_28 rfl (lv_at hl 2 rfl) ?_
        refine xgN F 0 inX2 hP (kd_k k2 (by decide)) (wc2 k2) rfl (by decide) tn_13 rfl rfl dX3_greatestSaving_29 ?_
        refine lv_iload hx hb dX3_greatestSaving_32 (lv_at hl 5 rfl) ?_
        by_cases b3 : (x5 < 0 ∨ 16 ≤ x5.toNatClampNeg)
        · rw [if_pos b3] at hm
          cases hm
        · rw [if_neg b3] at hm
          refine xil F hP ((kd_wavA _ k2).1) ((kd_wavA _ k2).2) b3 dX3_greatestSaving_34 ?_
          by_cases b4 : ((σ (q2 + 1) x5.toNatClampNeg) < 0 ∨ 16 ≤ (σ (q2 + 1) x5.toNatClampNeg).toNatClampNeg)
          · rw [if_pos b4] at hm
            cases hm
          · rw [if_neg b4] at hm
            refine xol F hP kdc_6 b4 dX3_greatestSaving_35 ?_
            obtain ⟨x5_, h5, hm⟩ := ri_inv hm
            refine xVN F (c_X1_savingWith k1 (kd_ord b4) h5) rfl tk_167 tn_17 tk_166 tu_6 tk_4 rfl 1 (by decide +kernel) rfl ⟨Nat.le_of_ble_eq_true rfl, Nat.le_of_ble_eq_true rfl⟩ hP hS (kd_k k1 (by decide)) (wc1 k1) rfl hl.1 rfl (Nat.le_of_ble_eq_true rfl) dX3_greatestSaving_36 ⟨Nat.le_of_ble_eq_true rfl, Nat.le_of_ble_eq_true rfl⟩ (fun H locs hP hS => ?_)
            replace hP : va_P (gD G) vwCl (wld G lo σ) H := hP
            refine W.eq (g2 := F0 m 39 ls [.int x5_, .int x4]) rfl ?_
            refine xmx F tk_26 tk_27 tk_2 tk_28 hl.1 (by decide) (Nat.le_of_ble_eq_true rfl) (by decide) (by decide) dX3_greatestSaving_39 ?_
            refine lv_istore (lv' := [(4, .int (if x4 < x5_ then x5_ else x4)), (0, .ref (gA G 0)), (1, .ref (gA G q1)), (2, .ref (gA G q2)), (3, .int x3), (5, .int x5)]) hx hb dX3_greatestSaving_42 hl (by decide) rfl (fun ls hl => ?_)
            refine lv_iinc (v := (x5 + 1)) (lv' := [(5, .int (x5 + 1)), (4, .int (if x4 < x5_ then x5_ else x4)), (0, .ref (gA G 0)), (1, .ref (gA G q1)), (2, .ref (gA G q2)), (3, .int x3)]) hx hb dX3_greatestSaving_44 hl (k := 5) rfl rfl (by decide) rfl (fun ls hl => ?_)
            refine lv_goto (tgt := 6) hx hb dX3_greatestSaving_47 (by decide) ?_
            exact ih hm hP hS (lv_sub hl [2, 3, 4, 5, 1, 0] rfl)
def f_X3_greatestSaving (σ : St) (q1 : Nat) (q2 : Nat) (x3 : Int32) : Option RV :=
  f_X3_greatestSaving_6 σ q1 q2 x3 40 0 0
set_option maxHeartbeats 4000000 in
set_option maxRecDepth 100000 in
theorem c_X3_greatestSaving {l : Launch} {G : GT} {σ : St} {q1 : Nat} {q2 : Nat} {x3 : Int32} (k1 : kd q1 = 1) (k2 : kd q2 = 2) {r : RV} (hm : f_X3_greatestSaving σ q1 q2 x3 = some r) : MC l G yX3_greatestSaving cX3_greatestSaving 6 (some .int) 2 44 0 0 [.inr 0, .inr q1, .inr q2, .inl x3] σ (r, σ) := by
  refine xbody (by decide) (Nat.le_of_ble_eq_true rfl) ?_
  intro lo p e s m args below meth c F hP ls hl
  have F : Fx p l s args m meth c G cX3_greatestSaving 6 (some .int) RX3 := F
  obtain ⟨hx, hb, hrt, hml, hown, hts, hlocks, hC, htab, hst⟩ := id F
  have hS : va_S (gF G) s.heap s.heap [] := va_S.rf
  have hl : lv_has ls 6 [(0, .ref (gA G 0)), (1, .ref (gA G q1)), (2, .ref (gA G q2)), (3, .int x3)] := hl
  unfold f_X3_greatestSaving at hm
  refine lv_iconst (v := 0) hx hb dX3_greatestSaving_0 (by decide) ?_
  refine lv_istore (lv' := [(4, .int 0), (0, .ref (gA G 0)), (1, .ref (gA G q1)), (2, .ref (gA G q2)), (3, .int x3)]) hx hb dX3_greatestSaving_1 hl (by decide) rfl (fun ls hl => ?_)
  refine lv_iconst (v := 0) hx hb dX3_greatestSaving_3 (by decide) ?_
  refine lv_istore (lv' := [(5, .int 0), (4, .int 0), (0, .ref (gA G 0)), (1, .ref (gA G q1)), (2, .ref (gA G q2)), (3, .int x3)]) hx hb dX3_greatestSaving_4 hl (by decide) rfl (fun ls hl => ?_)
  exact w_X3_greatestSaving_6 F k1 k2 40 hm hP hS (lv_sub hl [2, 3, 4, 5, 1, 0] rfl)
/-! ===== X3_bestAddition ===== -/
def f_X3_bestAddition_8 (σ : St) (q1 : Nat) (x2 : Int32) : Nat → Int32 → Int32 → Int32 → Option RV
  | 0, _, _, _ => none
  | n + 1, x3, x4, x5 =>
    if (σ 0 4) ≤ x5 then
      some (.inl (some (.inl x3)))
    else
      if x5 < 0 ∨ 16 ≤ x5.toNatClampNeg then none
      else
        ri (f_X3_mayBePlanned σ (26 + 2 * x5.toNatClampNeg)) (fun x3_ =>
          if x3_ = 0 then
            f_X3_bestAddition_8 σ q1 x2 n x3 x4 (x5 + 1)
          else
            if (σ (26 + 2 * x5.toNatClampNeg) 3) = (σ q1 2) then
              ri (f_X3_greatestSaving σ (26 + 2 * x5.toNatClampNeg) q1 (σ q1 1)) (fun x6_ =>
                if ((σ (26 + 2 * x5.toNatClampNeg) 2) - x6_) ≤ x2 then
                  if x3 = (-1) then
                    if x3 = (-1) then
                      f_X3_bestAddition_8 σ q1 x2 n x5 x6_ (x5 + 1)
                    else
                      if x4 < x6_ then
                        f_X3_bestAddition_8 σ q1 x2 n x5 x6_ (x5 + 1)
                      else
                        f_X3_bestAddition_8 σ q1 x2 n x3 x4 (x5 + 1)
                  else
                    if x6_ = x4 then
                      if x3 < 0 ∨ 16 ≤ x3.toNatClampNeg then none
                      else
                        if (σ (26 + 2 * x3.toNatClampNeg) 0) ≤ (σ (26 + 2 * x5.toNatClampNeg) 0) then
                          if x3 = (-1) then
                            f_X3_bestAddition_8 σ q1 x2 n x5 x6_ (x5 + 1)
                          else
                            if x4 < x6_ then
                              f_X3_bestAddition_8 σ q1 x2 n x5 x6_ (x5 + 1)
                            else
                              f_X3_bestAddition_8 σ q1 x2 n x3 x4 (x5 + 1)
                        else
                          if x3 = (-1) then
                            f_X3_bestAddition_8 σ q1 x2 n x5 x6_ (x5 + 1)
                          else
                            if x4 < x6_ then
                              f_X3_bestAddition_8 σ q1 x2 n x5 x6_ (x5 + 1)
                            else
                              f_X3_bestAddition_8 σ q1 x2 n x5 x6_ (x5 + 1)
                    else
                      if x3 = (-1) then
                        f_X3_bestAddition_8 σ q1 x2 n x5 x6_ (x5 + 1)
                      else
                        if x4 < x6_ then
                          f_X3_bestAddition_8 σ q1 x2 n x5 x6_ (x5 + 1)
                        else
                          f_X3_bestAddition_8 σ q1 x2 n x3 x4 (x5 + 1)
                else
                  f_X3_bestAddition_8 σ q1 x2 n x3 x4 (x5 + 1))
            else
              f_X3_bestAddition_8 σ q1 x2 n x3 x4 (x5 + 1))
set_option maxHeartbeats 4000000 in
set_option maxRecDepth 100000 in
theorem w_X3_bestAddition_8 {p : Program} {l : Launch} {e : Env} {s : State} {m : MethodId} {args : Array Value} {below : List Frame} {meth : Method} {c : Code} {G : GT} {lo : Nat → Int64} (F : Fx p l s args m meth c G cX3_bestAddition 9 (some .int) RX3) {σ : St} {q1 : Nat} {x2 : Int32} (k1 : kd q1 = 2) : ∀ (n : Nat) {x3 : Int32} {x4 : Int32} {x5 : Int32} {r : RV}, f_X3_bestAddition_8 σ q1 x2 n x3 x4 x5 = some r → ∀ {H : Heap} {locs : List Loc}, va_P (gD G) vwCl (wld G lo σ) H → va_S (gF G) s.heap H locs → ∀ {ls : Array Slot}, lv_has ls 9 [(0, .ref (gA G 0)), (1, .ref (gA G q1)), (2, .int x2), (3, .int x3), (4, .int x4), (5, .int x5)] → W p l e (RM 3 69 0 0) s m args below meth c H locs 0 0 (vx_MQ below (QCr G lo (r, σ)) (XCr G lo (r, σ)) args s 0 0 (gF G)) (F0 m 8 ls []) := by
  obtain ⟨hx, hb, hrt, hml, hown, hts, hlocks, hC, htab, hst⟩ := id F
  intro n
  induction n with
  | zero =>
    intro x3 x4 x5 r hm
    simp only [f_X3_bestAddition_8] at hm
    cases hm
  | succ n ih =>
    intro x3 x4 x5 r hm H locs hP hS ls hl
    rw [f_X3_bestAddition_8] at hm
    refine lv_iload hx hb dX3_bestAddition_8 (lv_at hl 5 rfl) ?_
    refine lv_aload_n hx hb dX3_bestAddition_10 rfl (lv_at hl 0 rfl) ?_
    refine xg F 4 inX3 hP (kd_k kdc_0 (by decide)) (wc3 kdc_0) rfl (by decide) tk_115 rfl rfl dX3_bestAddition_11 ?_
    refine lv_icmp_ge (tgt := 144) hx hb dX3_bestAddition_14 (by decide) (fun b1 => ?_) (fun b1 => ?_)
    · rw [if_pos b1] at hm
      refine lv_iload_n hx hb dX3_bestAddition_144 rfl (lv_at hl 3 rfl) ?_
      exact xir F hP hS (congrArg (fun z => (z, σ)) (Option.some.inj hm).symm) (by decide) (by decide) dX3_bestAddition_145
    · rw [if_neg b1] at hm
      refine lv_aload_n hx hb dX3_bestAddition_17 rfl (lv_at hl 0 rfl) ?_
      refine xg F 3 inX3 hP (kd_k kdc_0 (by decide)) (wc3 kdc_0) rfl (by decide) tk_114 rfl rfl dX3_bestAddition_18 ?_
      refine lv_iload hx hb dX3_bestAddition_21 (lv_at hl 5 rfl) ?_
      by_cases b2 : (x5 < 0 ∨ 16 ≤ x5.toNatClampNeg)
      · rw [if_pos b2] at hm
        cases hm
      · rw [if_neg b2] at hm
        refine xol F hP kdc_6 b2 dX3_bestAddition_23 ?_
        refine lv_astore (lv' := [(6, .ref (gA G (26 + 2 * x5.toNatClampNeg))), (0, .ref (gA G 0)), (1, .ref (gA G q1)), (2, .int x2), (3, .int x3), (4, .int x4), (5, .int x5)]) hx hb dX3_bestAddition_24 hl (by decide) rfl (fun ls hl => ?_)
        refine lv_aload_n hx hb dX3_bestAddition_26 rfl (lv_at hl 1 rfl) ?_
        refine lv_aload hx hb dX3_bestAddition_27 (lv_at hl 0 rfl) ?_
        obtain ⟨x3_, h3, hm⟩ := ri_inv hm
        refine xV F (c_X3_mayBePlanned (kd_ord b2) h3) tk_371 tk_368 tk_370 tu_13 tk_1 rfl 1 (by decide +kernel) rfl ⟨Nat.le_of_ble_eq_true rfl, Nat.le_of_ble_eq_true rfl⟩ hP hS (kd_k kdc_0 (by decide)) (wc3 kdc_0) rfl hl.1 rfl (Nat.le_of_ble_eq_true rfl) dX3_bestAddition_29 ⟨Nat.le_of_ble_eq_true rfl, Nat.le_of_ble_eq_true rfl⟩ (fun v hv H locs hP hS => ?_) (fun E hE => by cases hE)
        cases hv
        replace hP : va_P (gD G) vwCl (wld G lo σ) H := hP
        refine W.eq (g2 := F0 m 32 ls [.int x3_]) rfl ?_
        refine lv_if_eq (tgt := 138) hx hb dX3_bestAddition_32 (by decide) (fun b4 => ?_) (fun b4 => ?_)
        · rw [if_pos b4] at hm
          refine lv_iinc (v := (x5 + 1)) (lv' := [(5, .int (x5 + 1)), (6, .ref (gA G (26 + 2 * x5.toNatClampNeg))), (0, .ref (gA G 0)), (1, .ref (gA G q1)), (2, .int x2), (3, .int x3), (4, .int x4)]) hx hb dX3_bestAddition_138 hl (k := 6) rfl rfl (by decide) rfl (fun ls hl => ?_)
          refine lv_goto (tgt := 8) hx hb dX3_bestAddition_141 (by decide) ?_
          exact ih hm hP hS (lv_sub hl [2, 3, 4, 5, 6, 0] rfl)
        · rw [if_neg b4] at hm
          refine lv_aload hx hb dX3_bestAddition_35 (lv_at hl 0 rfl) ?_
          refine xgN F 3 inX1 hP (kd_k (kd_ord b2) (by decide)) (wc1 (kd_ord b2)) rfl (by decide) tn_6 rfl rfl dX3_bestAddition_37 ?_
          refine lv_aload_n hx hb dX3_bestAddition_40 rfl (lv_at hl 2 rfl) ?_
          refine xgN F 2 inX2 hP (kd_k k1 (by decide)) (wc2 k1) rfl (by decide) tn_15 rfl rfl dX3_bestAddition_41 ?_
          refine lv_icmp_eq (tgt := 50) hx hb dX3_bestAddition_44 (by decide) (fun b5 => ?_) (fun b5 => ?_)
          · rw [if_pos b5] at hm
            refine lv_aload_n hx hb dX3_bestAddition_50 rfl (lv_at hl 1 rfl) ?_
            refine lv_aload hx hb dX3_bestAddition_51 (lv_at hl 0 rfl) ?_
            refine lv_aload_n hx hb dX3_bestAddition_53 rfl (lv_at hl 2 rfl) ?_
            refine lv_aload_n hx hb dX3_bestAddition_54 rfl (lv_at hl 2 rfl) ?_
            refine xgN F 1 inX2 hP (kd_k k1 (by decide)) (wc2 k1) rfl (by decide) tn_14 rfl rfl dX3_bestAddition_55 ?_
            obtain ⟨x6_, h6, hm⟩ := ri_inv hm
            refine xV F (c_X3_greatestSaving (kd_ord b2) k1 h6) tk_163 tk_160 tk_162 tu_5 tk_1 rfl 3 (by decide +kernel) rfl ⟨Nat.le_of_ble_eq_true rfl, Nat.le_of_ble_eq_true rfl⟩ hP hS (kd_k kdc_0 (by decide)) (wc3 kdc_0) rfl hl.1 rfl (Nat.le_of_ble_eq_true rfl) dX3_bestAddition_58 ⟨Nat.le_of_ble_eq_true rfl, Nat.le_of_ble_eq_true rfl⟩ (fun v hv H locs hP hS => ?_) (fun E hE => by cases hE)
            cases hv
            replace hP : va_P (gD G) vwCl (wld G lo σ) H := hP
            refine W.eq (g2 := F0 m 61 ls [.int x6_]) rfl ?_
            refine lv_istore (lv' := [(7, .int x6_), (6, .ref (gA G (26 + 2 * x5.toNatClampNeg))), (0, .ref (gA G 0)), (1, .ref (gA G q1)), (2, .int x2), (3, .int x3), (4, .int x4), (5, .int x5)]) hx hb dX3_bestAddition_61 hl (by decide) rfl (fun ls hl => ?_)
            refine lv_aload hx hb dX3_bestAddition_63 (lv_at hl 1 rfl) ?_
            refine xgN F 2 inX1 hP (kd_k (kd_ord b2) (by decide)) (wc1 (kd_ord b2)) rfl (by decide) tn_5 rfl rfl dX3_bestAddition_65 ?_
            refine lv_iload hx hb dX3_bestAddition_68 (lv_at hl 0 rfl) ?_
            refine lv_isub hx hb dX3_bestAddition_70 ?_
            refine lv_iload_n hx hb dX3_bestAddition_71 rfl (lv_at hl 4 rfl) ?_
            refine lv_icmp_le (tgt := 78) hx hb dX3_bestAddition_72 (by decide) (fun b7 => ?_) (fun b7 => ?_)
            · rw [if_pos b7] at hm
              refine lv_iload_n hx hb dX3_bestAddition_78 rfl (lv_at hl 5 rfl) ?_
              refine lv_iconst (v := (-1)) hx hb dX3_bestAddition_79 (by decide) ?_
              refine lv_icmp_eq (tgt := 111) hx hb dX3_bestAddition_80 (by decide) (fun b8 => ?_) (fun b8 => ?_)
              · rw [if_pos b8] at hm
                refine lv_iconst (v := 0) hx hb dX3_bestAddition_111 (by decide) ?_
                refine lv_istore (lv' := [(8, .int 0), (7, .int x6_), (6, .ref (gA G (26 + 2 * x5.toNatClampNeg))), (0, .ref (gA G 0)), (1, .ref (gA G q1)), (2, .int x2), (3, .int x3), (4, .int x4), (5, .int x5)]) hx hb dX3_bestAddition_112 hl (by decide) rfl (fun ls hl => ?_)
                refine lv_iload_n hx hb dX3_bestAddition_114 rfl (lv_at hl 6 rfl) ?_
                refine lv_iconst (v := (-1)) hx hb dX3_bestAddition_115 (by decide) ?_
                refine lv_icmp_eq (tgt := 131) hx hb dX3_bestAddition_116 (by decide) (fun b9 => ?_) (fun b9 => ?_)
                · rw [if_pos b9] at hm
                  refine lv_iload hx hb dX3_bestAddition_131 (lv_at hl 8 rfl) ?_
                  refine lv_istore_n (lv' := [(3, .int x5), (8, .int 0), (7, .int x6_), (6, .ref (gA G (26 + 2 * x5.toNatClampNeg))), (0, .ref (gA G 0)), (1, .ref (gA G q1)), (2, .int x2), (4, .int x4), (5, .int x5)]) hx hb dX3_bestAddition_133 rfl hl (by decide) rfl (fun ls hl => ?_)
                  refine lv_iload hx hb dX3_bestAddition_134 (lv_at hl 2 rfl) ?_
                  refine lv_istore (lv' := [(4, .int x6_), (3, .int x5), (8, .int 0), (7, .int x6_), (6, .ref (gA G (26 + 2 * x5.toNatClampNeg))), (0, .ref (gA G 0)), (1, .ref (gA G q1)), (2, .int x2), (5, .int x5)]) hx hb dX3_bestAddition_136 hl (by decide) rfl (fun ls hl => ?_)
                  refine lv_iinc (v := (x5 + 1)) (lv' := [(5, .int (x5 + 1)), (4, .int x6_), (3, .int x5), (8, .int 0), (7, .int x6_), (6, .ref (gA G (26 + 2 * x5.toNatClampNeg))), (0, .ref (gA G 0)), (1, .ref (gA G q1)), (2, .int x2)]) hx hb dX3_bestAddition_138 hl (k := 8) rfl rfl (by decide) rfl (fun ls hl => ?_)
                  refine lv_goto (tgt := 8) hx hb dX3_bestAddition_141 (by decide) ?_
                  exact ih hm hP hS (lv_sub hl [6, 7, 8, 2, 1, 0] rfl)
                · rw [if_neg b9] at hm
                  refine lv_iload hx hb dX3_bestAddition_119 (lv_at hl 1 rfl) ?_
                  refine lv_iload hx hb dX3_bestAddition_121 (lv_at hl 7 rfl) ?_
                  refine lv_icmp_gt (tgt := 131) hx hb dX3_bestAddition_123 (by decide) (fun b10 => ?_) (fun b10 => ?_)
                  · rw [if_pos b10] at hm
                    refine lv_iload hx hb dX3_bestAddition_131 (lv_at hl 8 rfl) ?_
                    refine lv_istore_n (lv' := [(3, .int x5), (8, .int 0), (7, .int x6_), (6, .ref (gA G (26 + 2 * x5.toNatClampNeg))), (0, .ref (gA G 0)), (1, .ref (gA G q1)), (2, .int x2), (4, .int x4), (5, .int x5)]) hx hb dX3_bestAddition_133 rfl hl (by decide) rfl (fun ls hl => ?_)
                    refine lv_iload hx hb dX3_bestAddition_134 (lv_at hl 2 rfl) ?_
                    refine lv_istore (lv' := [(4, .int x6_), (3, .int x5), (8, .int 0), (7, .int x6_), (6, .ref (gA G (26 + 2 * x5.toNatClampNeg))), (0, .ref (gA G 0)), (1, .ref (gA G q1)), (2, .int x2), (5, .int x5)]) hx hb dX3_bestAddition_136 hl (by decide) rfl (fun ls hl => ?_)
                    refine lv_iinc (v := (x5 + 1)) (lv' := [(5, .int (x5 + 1)), (4, .int x6_), (3, .int x5), (8, .int 0), (7, .int x6_), (6, .ref (gA G (26 + 2 * x5.toNatClampNeg))), (0, .ref (gA G 0)), (1, .ref (gA G q1)), (2, .int x2)]) hx hb dX3_bestAddition_138 hl (k := 8) rfl rfl (by decide) rfl (fun ls hl => ?_)
                    refine lv_goto (tgt := 8) hx hb dX3_bestAddition_141 (by decide) ?_
                    exact ih hm hP hS (lv_sub hl [6, 7, 8, 2, 1, 0] rfl)
                  · rw [if_neg b10] at hm
                    refine lv_iload hx hb dX3_bestAddition_126 (lv_at hl 0 rfl) ?_
                    refine lv_if_eq (tgt := 138) hx hb dX3_bestAddition_128 (by decide) (fun b11 => ?_) (fun b11 => ?_)
                    · refine lv_iinc (v := (x5 + 1)) (lv' := [(5, .int (x5 + 1)), (8, .int 0), (7, .int x6_), (6, .ref (gA G (26 + 2 * x5.toNatClampNeg))), (0, .ref (gA G 0)), (1, .ref (gA G q1)), (2, .int x2), (3, .int x3), (4, .int x4)]) hx hb dX3_bestAddition_138 hl (k := 8) rfl rfl (by decide) rfl (fun ls hl => ?_)
                      refine lv_goto (tgt := 8) hx hb dX3_bestAddition_141 (by decide) ?_
                      exact ih hm hP hS (lv_sub hl [4, 5, 6, 7, 8, 0] rfl)
                    · exact False.elim (by revert b11; decide)
              · rw [if_neg b8] at hm
                refine lv_iload hx hb dX3_bestAddition_83 (lv_at hl 0 rfl) ?_
                refine lv_iload hx hb dX3_bestAddition_85 (lv_at hl 6 rfl) ?_
                refine lv_icmp_ne (tgt := 111) hx hb dX3_bestAddition_87 (by decide) (fun b12 => ?_) (fun b12 => ?_)
                · rw [if_neg b12] at hm
                  refine lv_iconst (v := 0) hx hb dX3_bestAddition_111 (by decide) ?_
                  refine lv_istore (lv' := [(8, .int 0), (7, .int x6_), (6, .ref (gA G (26 + 2 * x5.toNatClampNeg))), (0, .ref (gA G 0)), (1, .ref (gA G q1)), (2, .int x2), (3, .int x3), (4, .int x4), (5, .int x5)]) hx hb dX3_bestAddition_112 hl (by decide) rfl (fun ls hl => ?_)
                  refine lv_iload_n hx hb dX3_bestAddition_114 rfl (lv_at hl 6 rfl) ?_
                  refine lv_iconst (v := (-1)) hx hb dX3_bestAddition_115 (by decide) ?_
                  refine lv_icmp_eq (tgt := 131) hx hb dX3_bestAddition_116 (by decide) (fun b13 => ?_) (fun b13 => ?_)
                  · rw [if_pos b13] at hm
                    refine lv_iload hx hb dX3_bestAddition_131 (lv_at hl 8 rfl) ?_
                    refine lv_istore_n (lv' := [(3, .int x5), (8, .int 0), (7, .int x6_), (6, .ref (gA G (26 + 2 * x5.toNatClampNeg))), (0, .ref (gA G 0)), (1, .ref (gA G q1)), (2, .int x2), (4, .int x4), (5, .int x5)]) hx hb dX3_bestAddition_133 rfl hl (by decide) rfl (fun ls hl => ?_)
                    refine lv_iload hx hb dX3_bestAddition_134 (lv_at hl 2 rfl) ?_
                    refine lv_istore (lv' := [(4, .int x6_), (3, .int x5), (8, .int 0), (7, .int x6_), (6, .ref (gA G (26 + 2 * x5.toNatClampNeg))), (0, .ref (gA G 0)), (1, .ref (gA G q1)), (2, .int x2), (5, .int x5)]) hx hb dX3_bestAddition_136 hl (by decide) rfl (fun ls hl => ?_)
                    refine lv_iinc (v := (x5 + 1)) (lv' := [(5, .int (x5 + 1)), (4, .int x6_), (3, .int x5), (8, .int 0), (7, .int x6_), (6, .ref (gA G (26 + 2 * x5.toNatClampNeg))), (0, .ref (gA G 0)), (1, .ref (gA G q1)), (2, .int x2)]) hx hb dX3_bestAddition_138 hl (k := 8) rfl rfl (by decide) rfl (fun ls hl => ?_)
                    refine lv_goto (tgt := 8) hx hb dX3_bestAddition_141 (by decide) ?_
                    exact ih hm hP hS (lv_sub hl [6, 7, 8, 2, 1, 0] rfl)
                  · rw [if_neg b13] at hm
                    refine lv_iload hx hb dX3_bestAddition_119 (lv_at hl 1 rfl) ?_
                    refine lv_iload hx hb dX3_bestAddition_121 (lv_at hl 7 rfl) ?_
                    refine lv_icmp_gt (tgt := 131) hx hb dX3_bestAddition_123 (by decide) (fun b14 => ?_) (fun b14 => ?_)
                    · rw [if_pos b14] at hm
                      refine lv_iload hx hb dX3_bestAddition_131 (lv_at hl 8 rfl) ?_
                      refine lv_istore_n (lv' := [(3, .int x5), (8, .int 0), (7, .int x6_), (6, .ref (gA G (26 + 2 * x5.toNatClampNeg))), (0, .ref (gA G 0)), (1, .ref (gA G q1)), (2, .int x2), (4, .int x4), (5, .int x5)]) hx hb dX3_bestAddition_133 rfl hl (by decide) rfl (fun ls hl => ?_)
                      refine lv_iload hx hb dX3_bestAddition_134 (lv_at hl 2 rfl) ?_
                      refine lv_istore (lv' := [(4, .int x6_), (3, .int x5), (8, .int 0), (7, .int x6_), (6, .ref (gA G (26 + 2 * x5.toNatClampNeg))), (0, .ref (gA G 0)), (1, .ref (gA G q1)), (2, .int x2), (5, .int x5)]) hx hb dX3_bestAddition_136 hl (by decide) rfl (fun ls hl => ?_)
                      refine lv_iinc (v := (x5 + 1)) (lv' := [(5, .int (x5 + 1)), (4, .int x6_), (3, .int x5), (8, .int 0), (7, .int x6_), (6, .ref (gA G (26 + 2 * x5.toNatClampNeg))), (0, .ref (gA G 0)), (1, .ref (gA G q1)), (2, .int x2)]) hx hb dX3_bestAddition_138 hl (k := 8) rfl rfl (by decide) rfl (fun ls hl => ?_)
                      refine lv_goto (tgt := 8) hx hb dX3_bestAddition_141 (by decide) ?_
                      exact ih hm hP hS (lv_sub hl [6, 7, 8, 2, 1, 0] rfl)
                    · rw [if_neg b14] at hm
                      refine lv_iload hx hb dX3_bestAddition_126 (lv_at hl 0 rfl) ?_
                      refine lv_if_eq (tgt := 138) hx hb dX3_bestAddition_128 (by decide) (fun b15 => ?_) (fun b15 => ?_)
                      · refine lv_iinc (v := (x5 + 1)) (lv' := [(5, .int (x5 + 1)), (8, .int 0), (7, .int x6_), (6, .ref (gA G (26 + 2 * x5.toNatClampNeg))), (0, .ref (gA G 0)), (1, .ref (gA G q1)), (2, .int x2), (3, .int x3), (4, .int x4)]) hx hb dX3_bestAddition_138 hl (k := 8) rfl rfl (by decide) rfl (fun ls hl => ?_)
                        refine lv_goto (tgt := 8) hx hb dX3_bestAddition_141 (by decide) ?_
                        exact ih hm hP hS (lv_sub hl [4, 5, 6, 7, 8, 0] rfl)
                      · exact False.elim (by revert b15; decide)
                · rw [if_pos b12] at hm
                  refine lv_aload hx hb dX3_bestAddition_90 (lv_at hl 1 rfl) ?_
                  refine xgN F 0 inX1 hP (kd_k (kd_ord b2) (by decide)) (wc1 (kd_ord b2)) rfl (by decide) tn_3 rfl rfl dX3_bestAddition_92 ?_
                  refine lv_aload_n hx hb dX3_bestAddition_95 rfl (lv_at hl 2 rfl) ?_
                  refine xg F 3 inX3 hP (kd_k kdc_0 (by decide)) (wc3 kdc_0) rfl (by decide) tk_114 rfl rfl dX3_bestAddition_96 ?_
                  refine lv_iload_n hx hb dX3_bestAddition_99 rfl (lv_at hl 5 rfl) ?_
                  by_cases b16 : (x3 < 0 ∨ 16 ≤ x3.toNatClampNeg)
                  · rw [if_pos b16] at hm
                    cases hm
                  · rw [if_neg b16] at hm
                    refine xol F hP kdc_6 b16 dX3_bestAddition_100 ?_
                    refine xgN F 0 inX1 hP (kd_k (kd_ord b16) (by decide)) (wc1 (kd_ord b16)) rfl (by decide) tn_3 rfl rfl dX3_bestAddition_101 ?_
                    refine lv_icmp_ge (tgt := 111) hx hb dX3_bestAddition_104 (by decide) (fun b17 => ?_) (fun b17 => ?_)
                    · rw [if_pos b17] at hm
                      refine lv_iconst (v := 0) hx hb dX3_bestAddition_111 (by decide) ?_
                      refine lv_istore (lv' := [(8, .int 0), (7, .int x6_), (6, .ref (gA G (26 + 2 * x5.toNatClampNeg))), (0, .ref (gA G 0)), (1, .ref (gA G q1)), (2, .int x2), (3, .int x3), (4, .int x4), (5, .int x5)]) hx hb dX3_bestAddition_112 hl (by decide) rfl (fun ls hl => ?_)
                      refine lv_iload_n hx hb dX3_bestAddition_114 rfl (lv_at hl 6 rfl) ?_
                      refine lv_iconst (v := (-1)) hx hb dX3_bestAddition_115 (by decide) ?_
                      refine lv_icmp_eq (tgt := 131) hx hb dX3_bestAddition_116 (by decide) (fun b18 => ?_) (fun b18 => ?_)
                      · rw [if_pos b18] at hm
                        refine lv_iload hx hb dX3_bestAddition_131 (lv_at hl 8 rfl) ?_
                        refine lv_istore_n (lv' := [(3, .int x5), (8, .int 0), (7, .int x6_), (6, .ref (gA G (26 + 2 * x5.toNatClampNeg))), (0, .ref (gA G 0)), (1, .ref (gA G q1)), (2, .int x2), (4, .int x4), (5, .int x5)]) hx hb dX3_bestAddition_133 rfl hl (by decide) rfl (fun ls hl => ?_)
                        refine lv_iload hx hb dX3_bestAddition_134 (lv_at hl 2 rfl) ?_
                        refine lv_istore (lv' := [(4, .int x6_), (3, .int x5), (8, .int 0), (7, .int x6_), (6, .ref (gA G (26 + 2 * x5.toNatClampNeg))), (0, .ref (gA G 0)), (1, .ref (gA G q1)), (2, .int x2), (5, .int x5)]) hx hb dX3_bestAddition_136 hl (by decide) rfl (fun ls hl => ?_)
                        refine lv_iinc (v := (x5 + 1)) (lv' := [(5, .int (x5 + 1)), (4, .int x6_), (3, .int x5), (8, .int 0), (7, .int x6_), (6, .ref (gA G (26 + 2 * x5.toNatClampNeg))), (0, .ref (gA G 0)), (1, .ref (gA G q1)), (2, .int x2)]) hx hb dX3_bestAddition_138 hl (k := 8) rfl rfl (by decide) rfl (fun ls hl => ?_)
                        refine lv_goto (tgt := 8) hx hb dX3_bestAddition_141 (by decide) ?_
                        exact ih hm hP hS (lv_sub hl [6, 7, 8, 2, 1, 0] rfl)
                      · rw [if_neg b18] at hm
                        refine lv_iload hx hb dX3_bestAddition_119 (lv_at hl 1 rfl) ?_
                        refine lv_iload hx hb dX3_bestAddition_121 (lv_at hl 7 rfl) ?_
                        refine lv_icmp_gt (tgt := 131) hx hb dX3_bestAddition_123 (by decide) (fun b19 => ?_) (fun b19 => ?_)
                        · rw [if_pos b19] at hm
                          refine lv_iload hx hb dX3_bestAddition_131 (lv_at hl 8 rfl) ?_
                          refine lv_istore_n (lv' := [(3, .int x5), (8, .int 0), (7, .int x6_), (6, .ref (gA G (26 + 2 * x5.toNatClampNeg))), (0, .ref (gA G 0)), (1, .ref (gA G q1)), (2, .int x2), (4, .int x4), (5, .int x5)]) hx hb dX3_bestAddition_133 rfl hl (by decide) rfl (fun ls hl => ?_)
                          refine lv_iload hx hb dX3_bestAddition_134 (lv_at hl 2 rfl) ?_
                          refine lv_istore (lv' := [(4, .int x6_), (3, .int x5), (8, .int 0), (7, .int x6_), (6, .ref (gA G (26 + 2 * x5.toNatClampNeg))), (0, .ref (gA G 0)), (1, .ref (gA G q1)), (2, .int x2), (5, .int x5)]) hx hb dX3_bestAddition_136 hl (by decide) rfl (fun ls hl => ?_)
                          refine lv_iinc (v := (x5 + 1)) (lv' := [(5, .int (x5 + 1)), (4, .int x6_), (3, .int x5), (8, .int 0), (7, .int x6_), (6, .ref (gA G (26 + 2 * x5.toNatClampNeg))), (0, .ref (gA G 0)), (1, .ref (gA G q1)), (2, .int x2)]) hx hb dX3_bestAddition_138 hl (k := 8) rfl rfl (by decide) rfl (fun ls hl => ?_)
                          refine lv_goto (tgt := 8) hx hb dX3_bestAddition_141 (by decide) ?_
                          exact ih hm hP hS (lv_sub hl [6, 7, 8, 2, 1, 0] rfl)
                        · rw [if_neg b19] at hm
                          refine lv_iload hx hb dX3_bestAddition_126 (lv_at hl 0 rfl) ?_
                          refine lv_if_eq (tgt := 138) hx hb dX3_bestAddition_128 (by decide) (fun b20 => ?_) (fun b20 => ?_)
                          · refine lv_iinc (v := (x5 + 1)) (lv' := [(5, .int (x5 + 1)), (8, .int 0), (7, .int x6_), (6, .ref (gA G (26 + 2 * x5.toNatClampNeg))), (0, .ref (gA G 0)), (1, .ref (gA G q1)), (2, .int x2), (3, .int x3), (4, .int x4)]) hx hb dX3_bestAddition_138 hl (k := 8) rfl rfl (by decide) rfl (fun ls hl => ?_)
                            refine lv_goto (tgt := 8) hx hb dX3_bestAddition_141 (by decide) ?_
                            exact ih hm hP hS (lv_sub hl [4, 5, 6, 7, 8, 0] rfl)
                          · exact False.elim (by revert b20; decide)
                    · rw [if_neg b17] at hm
                      refine lv_iconst (v := 1) hx hb dX3_bestAddition_107 (by decide) ?_
                      refine lv_goto (tgt := 112) hx hb dX3_bestAddition_108 (by decide) ?_
                      refine lv_istore (lv' := [(8, .int 1), (7, .int x6_), (6, .ref (gA G (26 + 2 * x5.toNatClampNeg))), (0, .ref (gA G 0)), (1, .ref (gA G q1)), (2, .int x2), (3, .int x3), (4, .int x4), (5, .int x5)]) hx hb dX3_bestAddition_112 hl (by decide) rfl (fun ls hl => ?_)
                      refine lv_iload_n hx hb dX3_bestAddition_114 rfl (lv_at hl 6 rfl) ?_
                      refine lv_iconst (v := (-1)) hx hb dX3_bestAddition_115 (by decide) ?_
                      refine lv_icmp_eq (tgt := 131) hx hb dX3_bestAddition_116 (by decide) (fun b21 => ?_) (fun b21 => ?_)
                      · rw [if_pos b21] at hm
                        refine lv_iload hx hb dX3_bestAddition_131 (lv_at hl 8 rfl) ?_
                        refine lv_istore_n (lv' := [(3, .int x5), (8, .int 1), (7, .int x6_), (6, .ref (gA G (26 + 2 * x5.toNatClampNeg))), (0, .ref (gA G 0)), (1, .ref (gA G q1)), (2, .int x2), (4, .int x4), (5, .int x5)]) hx hb dX3_bestAddition_133 rfl hl (by decide) rfl (fun ls hl => ?_)
                        refine lv_iload hx hb dX3_bestAddition_134 (lv_at hl 2 rfl) ?_
                        refine lv_istore (lv' := [(4, .int x6_), (3, .int x5), (8, .int 1), (7, .int x6_), (6, .ref (gA G (26 + 2 * x5.toNatClampNeg))), (0, .ref (gA G 0)), (1, .ref (gA G q1)), (2, .int x2), (5, .int x5)]) hx hb dX3_bestAddition_136 hl (by decide) rfl (fun ls hl => ?_)
                        refine lv_iinc (v := (x5 + 1)) (lv' := [(5, .int (x5 + 1)), (4, .int x6_), (3, .int x5), (8, .int 1), (7, .int x6_), (6, .ref (gA G (26 + 2 * x5.toNatClampNeg))), (0, .ref (gA G 0)), (1, .ref (gA G q1)), (2, .int x2)]) hx hb dX3_bestAddition_138 hl (k := 8) rfl rfl (by decide) rfl (fun ls hl => ?_)
                        refine lv_goto (tgt := 8) hx hb dX3_bestAddition_141 (by decide) ?_
                        exact ih hm hP hS (lv_sub hl [6, 7, 8, 2, 1, 0] rfl)
                      · rw [if_neg b21] at hm
                        refine lv_iload hx hb dX3_bestAddition_119 (lv_at hl 1 rfl) ?_
                        refine lv_iload hx hb dX3_bestAddition_121 (lv_at hl 7 rfl) ?_
                        refine lv_icmp_gt (tgt := 131) hx hb dX3_bestAddition_123 (by decide) (fun b22 => ?_) (fun b22 => ?_)
                        · rw [if_pos b22] at hm
                          refine lv_iload hx hb dX3_bestAddition_131 (lv_at hl 8 rfl) ?_
                          refine lv_istore_n (lv' := [(3, .int x5), (8, .int 1), (7, .int x6_), (6, .ref (gA G (26 + 2 * x5.toNatClampNeg))), (0, .ref (gA G 0)), (1, .ref (gA G q1)), (2, .int x2), (4, .int x4), (5, .int x5)]) hx hb dX3_bestAddition_133 rfl hl (by decide) rfl (fun ls hl => ?_)
                          refine lv_iload hx hb dX3_bestAddition_134 (lv_at hl 2 rfl) ?_
                          refine lv_istore (lv' := [(4, .int x6_), (3, .int x5), (8, .int 1), (7, .int x6_), (6, .ref (gA G (26 + 2 * x5.toNatClampNeg))), (0, .ref (gA G 0)), (1, .ref (gA G q1)), (2, .int x2), (5, .int x5)]) hx hb dX3_bestAddition_136 hl (by decide) rfl (fun ls hl => ?_)
                          refine lv_iinc (v := (x5 + 1)) (lv' := [(5, .int (x5 + 1)), (4, .int x6_), (3, .int x5), (8, .int 1), (7, .int x6_), (6, .ref (gA G (26 + 2 * x5.toNatClampNeg))), (0, .ref (gA G 0)), (1, .ref (gA G q1)), (2, .int x2)]) hx hb dX3_bestAddition_138 hl (k := 8) rfl rfl (by decide) rfl (fun ls hl => ?_)
                          refine lv_goto (tgt := 8) hx hb dX3_bestAddition_141 (by decide) ?_
                          exact ih hm hP hS (lv_sub hl [6, 7, 8, 2, 1, 0] rfl)
                        · rw [if_neg b22] at hm
                          refine lv_iload hx hb dX3_bestAddition_126 (lv_at hl 0 rfl) ?_
                          refine lv_if_eq (tgt := 138) hx hb dX3_bestAddition_128 (by decide) (fun b23 => ?_) (fun b23 => ?_)
                          · exact False.elim (by revert b23; decide)
                          · refine lv_iload hx hb dX3_bestAddition_131 (lv_at hl 8 rfl) ?_
                            refine lv_istore_n (lv' := [(3, .int x5), (8, .int 1), (7, .int x6_), (6, .ref (gA G (26 + 2 * x5.toNatClampNeg))), (0, .ref (gA G 0)), (1, .ref (gA G q1)), (2, .int x2), (4, .int x4), (5, .int x5)]) hx hb dX3_bestAddition_133 rfl hl (by decide) rfl (fun ls hl => ?_)
                            refine lv_iload hx hb dX3_bestAddition_134 (lv_at hl 2 rfl) ?_
                            refine lv_istore (lv' := [(4, .int x6_), (3, .int x5), (8, .int 1), (7, .int x6_), (6, .ref (gA G (26 + 2 * x5.toNatClampNeg))), (0, .ref (gA G 0)), (1, .ref (gA G q1)), (2, .int x2), (5, .int x5)]) hx hb dX3_bestAddition_136 hl (by decide) rfl (fun ls hl => ?_)
                            refine lv_iinc (v := (x5 + 1)) (lv' := [(5, .int (x5 + 1)), (4, .int x6_), (3, .int x5), (8, .int 1), (7, .int x6_), (6, .ref (gA G (26 + 2 * x5.toNatClampNeg))), (0, .ref (gA G 0)), (1, .ref (gA G q1)), (2, .int x2)]) hx hb dX3_bestAddition_138 hl (k := 8) rfl rfl (by decide) rfl (fun ls hl => ?_)
                            refine lv_goto (tgt := 8) hx hb dX3_bestAddition_141 (by decide) ?_
                            exact ih hm hP hS (lv_sub hl [6, 7, 8, 2, 1, 0] rfl)
            · rw [if_neg b7] at hm
              refine lv_goto (tgt := 138) hx hb dX3_bestAddition_75 (by decide) ?_
              refine lv_iinc (v := (x5 + 1)) (lv' := [(5, .int (x5 + 1)), (7, .int x6_), (6, .ref (gA G (26 + 2 * x5.toNatClampNeg))), (0, .ref (gA G 0)), (1, .ref (gA G q1)), (2, .int x2), (3, .int x3), (4, .int x4)]) hx hb dX3_bestAddition_138 hl (k := 7) rfl rfl (by decide) rfl (fun ls hl => ?_)
              refine lv_goto (tgt := 8) hx hb dX3_bestAddition_141 (by decide) ?_
              exact ih hm hP hS (lv_sub hl [3, 4, 5, 6, 7, 0] rfl)
          · rw [if_neg b5] at hm
            refine lv_goto (tgt := 138) hx hb dX3_bestAddition_47 (by decide) ?_
            refine lv_iinc (v := (x5 + 1)) (lv' := [(5, .int (x5 + 1)), (6, .ref (gA G (26 + 2 * x5.toNatClampNeg))), (0, .ref (gA G 0)), (1, .ref (gA G q1)), (2, .int x2), (3, .int x3), (4, .int x4)]) hx hb dX3_bestAddition_138 hl (k := 6) rfl rfl (by decide) rfl (fun ls hl => ?_)
            refine lv_goto (tgt := 8) hx hb dX3_bestAddition_141 (by decide) ?_
            exact ih hm hP hS (lv_sub hl [2, 3, 4, 5, 6, 0] rfl)
def f_X3_bestAddition (σ : St) (q1 : Nat) (x2 : Int32) : Option RV :=
  f_X3_bestAddition_8 σ q1 x2 40 (-1) 0 0
set_option maxHeartbeats 4000000 in
set_option maxRecDepth 100000 in
theorem c_X3_bestAddition {l : Launch} {G : GT} {σ : St} {q1 : Nat} {x2 : Int32} (k1 : kd q1 = 2) {r : RV} (hm : f_X3_bestAddition σ q1 x2 = some r) : MC l G yX3_bestAddition cX3_bestAddition 9 (some .int) 3 69 0 0 [.inr 0, .inr q1, .inl x2] σ (r, σ) := by
  refine xbody (by decide) (Nat.le_of_ble_eq_true rfl) ?_
  intro lo p e s m args below meth c F hP ls hl
  have F : Fx p l s args m meth c G cX3_bestAddition 9 (some .int) RX3 := F
  obtain ⟨hx, hb, hrt, hml, hown, hts, hlocks, hC, htab, hst⟩ := id F
  have hS : va_S (gF G) s.heap s.heap [] := va_S.rf
  have hl : lv_has ls 9 [(0, .ref (gA G 0)), (1, .ref (gA G q1)), (2, .int x2)] := hl
  unfold f_X3_bestAddition at hm
  refine lv_iconst (v := (-1)) hx hb dX3_bestAddition_0 (by decide) ?_
  refine lv_istore_n (lv' := [(3, .int (-1)), (0, .ref (gA G 0)), (1, .ref (gA G q1)), (2, .int x2)]) hx hb dX3_bestAddition_1 rfl hl (by decide) rfl (fun ls hl => ?_)
  refine lv_iconst (v := 0) hx hb dX3_bestAddition_2 (by decide) ?_
  refine lv_istore (lv' := [(4, .int 0), (3, .int (-1)), (0, .ref (gA G 0)), (1, .ref (gA G q1)), (2, .int x2)]) hx hb dX3_bestAddition_3 hl (by decide) rfl (fun ls hl => ?_)
  refine lv_iconst (v := 0) hx hb dX3_bestAddition_5 (by decide) ?_
  refine lv_istore (lv' := [(5, .int 0), (4, .int 0), (3, .int (-1)), (0, .ref (gA G 0)), (1, .ref (gA G q1)), (2, .int x2)]) hx hb dX3_bestAddition_6 hl (by decide) rfl (fun ls hl => ?_)
  exact w_X3_bestAddition_8 F k1 40 hm hP hS (lv_sub hl [3, 4, 5, 2, 1, 0] rfl)
