def f_X0_have_2 (σ : St) (x1 : Int32) (x2 : Int32) : Nat → Int32 → Option (RV × St)
  | 0, _ => none
  | n + 1, x3 =>
    if (σ 1 3) ≤ x3 then
      some (.inl (some (.inl 0)), σ)
    else
      if x3 < 0 ∨ 10 ≤ x3.toNatClampNeg then none
      else
        if (σ 2 x3.toNatClampNeg) = x1 then
          if x2 < (σ 3 x3.toNatClampNeg) then
            f_X0_have_2 σ x1 x2 n (x3 + 1)
          else
            if (σ 4 x3.toNatClampNeg) < x2 then
              f_X0_have_2 σ x1 x2 n (x3 + 1)
            else
              some (.inl (some (.inl 1)), σ)
        else
          f_X0_have_2 σ x1 x2 n (x3 + 1)
set_option maxHeartbeats 4000000 in
set_option maxRecDepth 100000 in
theorem w_X0_have_2 {p : Program} {l : Launch} {e : Env} {s : State} {m : MethodId} {args : Array Value} {below : List Frame} {meth : Method} {c : Code} {G : GT} {lo : Nat → Int64} (F : Fx p l s args m meth c G cX0_have 4 (some .boolean) RX0) {σ : St} {x1 : Int32} {x2 : Int32} : ∀ (n : Nat) {x3 : Int32} {r : RV × St}, f_X0_have_2 σ x1 x2 n x3 = some r → ∀ {H : Heap} {locs : List Loc}, va_P (gD G) vwCl (wld G lo σ) H → va_S (gF G) s.heap H locs → ∀ {ls : Array Slot}, lv_has ls 4 [(0, .ref (gA G 1)), (1, .int x1), (2, .int x2), (3, .int x3)] → W p l e (RM 0 0 0 0) s m args below meth c H locs 0 0 (vx_MQ below (QCr G lo r) (XCr G lo r) args s 0 0 (gF G)) (F0 m 2 ls []) := by
  obtain ⟨hx, hb, hrt, hml, hown, hts, hlocks, hC, htab, hst⟩ := id F
  intro n
  induction n with
  | zero =>
    intro x3 r hm
    simp only [f_X0_have_2] at hm
    cases hm
  | succ n ih =>
    intro x3 r hm H locs hP hS ls hl
    rw [f_X0_have_2] at hm
    refine lv_iload_n hx hb dX0_have_2 rfl (lv_at hl 3 rfl) ?_
    refine lv_aload_n hx hb dX0_have_3 rfl (lv_at hl 0 rfl) ?_
    refine xg F 3 inX0 hP (kd_k kdc_1 (by decide)) (wc0 kdc_1) rfl (by decide) tk_38 rfl rfl dX0_have_4 ?_
    refine lv_icmp_ge (tgt := 48) hx hb dX0_have_7 (by decide) (fun b1 => ?_) (fun b1 => ?_)
    · rw [if_pos b1] at hm
      refine lv_iconst (v := 0) hx hb dX0_have_48 (by decide) ?_
      exact xzr F hP hS rfl (Option.some.inj hm).symm (by decide) (by decide) dX0_have_49
    · rw [if_neg b1] at hm
      refine lv_aload_n hx hb dX0_have_10 rfl (lv_at hl 0 rfl) ?_
      refine xg F 0 inX0 hP (kd_k kdc_1 (by decide)) (wc0 kdc_1) rfl (by decide) tk_35 rfl rfl dX0_have_11 ?_
      refine lv_iload_n hx hb dX0_have_14 rfl (lv_at hl 3 rfl) ?_
      by_cases b2 : (x3 < 0 ∨ 10 ≤ x3.toNatClampNeg)
      · rw [if_pos b2] at hm
        cases hm
      · rw [if_neg b2] at hm
        refine xil F hP kdc_2 lnc_2 b2 dX0_have_15 ?_
        refine lv_iload_n hx hb dX0_have_16 rfl (lv_at hl 1 rfl) ?_
        refine lv_icmp_ne (tgt := 42) hx hb dX0_have_17 (by decide) (fun b3 => ?_) (fun b3 => ?_)
        · rw [if_neg b3] at hm
          refine lv_iinc (v := (x3 + 1)) (lv' := [(3, .int (x3 + 1)), (0, .ref (gA G 1)), (1, .int x1), (2, .int x2)]) hx hb dX0_have_42 hl (k := 3) rfl rfl (by decide) rfl (fun ls hl => ?_)
          refine lv_goto (tgt := 2) hx hb dX0_have_45 (by decide) ?_
          exact ih hm hP hS (lv_sub hl [1, 2, 3, 0] rfl)
        · rw [if_pos b3] at hm
          refine lv_aload_n hx hb dX0_have_20 rfl (lv_at hl 0 rfl) ?_
          refine xg F 1 inX0 hP (kd_k kdc_1 (by decide)) (wc0 kdc_1) rfl (by decide) tk_36 rfl rfl dX0_have_21 ?_
          refine lv_iload_n hx hb dX0_have_24 rfl (lv_at hl 3 rfl) ?_
          refine xil F hP kdc_3 lnc_3 b2 dX0_have_25 ?_
          refine lv_iload_n hx hb dX0_have_26 rfl (lv_at hl 2 rfl) ?_
          refine lv_icmp_gt (tgt := 42) hx hb dX0_have_27 (by decide) (fun b4 => ?_) (fun b4 => ?_)
          · rw [if_pos b4] at hm
            refine lv_iinc (v := (x3 + 1)) (lv' := [(3, .int (x3 + 1)), (0, .ref (gA G 1)), (1, .int x1), (2, .int x2)]) hx hb dX0_have_42 hl (k := 3) rfl rfl (by decide) rfl (fun ls hl => ?_)
            refine lv_goto (tgt := 2) hx hb dX0_have_45 (by decide) ?_
            exact ih hm hP hS (lv_sub hl [1, 2, 3, 0] rfl)
          · rw [if_neg b4] at hm
            refine lv_iload_n hx hb dX0_have_30 rfl (lv_at hl 2 rfl) ?_
            refine lv_aload_n hx hb dX0_have_31 rfl (lv_at hl 0 rfl) ?_
            refine xg F 2 inX0 hP (kd_k kdc_1 (by decide)) (wc0 kdc_1) rfl (by decide) tk_37 rfl rfl dX0_have_32 ?_
            refine lv_iload_n hx hb dX0_have_35 rfl (lv_at hl 3 rfl) ?_
            refine xil F hP kdc_4 lnc_4 b2 dX0_have_36 ?_
            refine lv_icmp_gt (tgt := 42) hx hb dX0_have_37 (by decide) (fun b5 => ?_) (fun b5 => ?_)
            · rw [if_pos b5] at hm
              refine lv_iinc (v := (x3 + 1)) (lv' := [(3, .int (x3 + 1)), (0, .ref (gA G 1)), (1, .int x1), (2, .int x2)]) hx hb dX0_have_42 hl (k := 3) rfl rfl (by decide) rfl (fun ls hl => ?_)
              refine lv_goto (tgt := 2) hx hb dX0_have_45 (by decide) ?_
              exact ih hm hP hS (lv_sub hl [1, 2, 3, 0] rfl)
            · rw [if_neg b5] at hm
              refine lv_iconst (v := 1) hx hb dX0_have_40 (by decide) ?_
              exact xzr F hP hS rfl (Option.some.inj hm).symm (by decide) (by decide) dX0_have_41
def f_X0_have (σ : St) (x1 : Int32) (x2 : Int32) : Option (RV × St) :=
  f_X0_have_2 σ x1 x2 40 0
set_option maxHeartbeats 4000000 in
set_option maxRecDepth 100000 in
theorem c_X0_have {l : Launch} {G : GT} {σ : St} {x1 : Int32} {x2 : Int32} {r : RV × St} (hm : f_X0_have σ x1 x2 = some r) : MC l G yX0_have cX0_have 4 (some .boolean) 0 0 0 0 [.inr 1, .inl x1, .inl x2] σ r := by
  refine xbody (by decide) (Nat.le_of_ble_eq_true rfl) ?_
  intro lo p e s m args below meth c F hP ls hl
  have F : Fx p l s args m meth c G cX0_have 4 (some .boolean) RX0 := F
  obtain ⟨hx, hb, hrt, hml, hown, hts, hlocks, hC, htab, hst⟩ := id F
  have hS : va_S (gF G) s.heap s.heap [] := va_S.rf
  have hl : lv_has ls 4 [(0, .ref (gA G 1)), (1, .int x1), (2, .int x2)] := hl
  unfold f_X0_have at hm
  refine lv_iconst (v := 0) hx hb dX0_have_0 (by decide) ?_
  refine lv_istore_n (lv' := [(3, .int 0), (0, .ref (gA G 1)), (1, .int x1), (2, .int x2)]) hx hb dX0_have_1 rfl hl (by decide) rfl (fun ls hl => ?_)
  exact w_X0_have_2 F 40 hm hP hS (lv_sub hl [1, 2, 3, 0] rfl)

def f_X0_hoursOf_4 (σ : St) (x1 : Int32) : Nat → Int32 → Int32 → Option (RV × St)
  | 0, _, _ => none
  | n + 1, x2, x3 =>
    if (σ 1 3) ≤ x3 then
      some (.inl (some (.inl x2)), σ)
    else
      if x3 < 0 ∨ 10 ≤ x3.toNatClampNeg then none
      else
        if (σ 2 x3.toNatClampNeg) = x1 then
          f_X0_hoursOf_4 σ x1 n (x2 + 1) (x3 + 1)
        else
          f_X0_hoursOf_4 σ x1 n x2 (x3 + 1)
set_option maxHeartbeats 4000000 in
set_option maxRecDepth 100000 in
theorem w_X0_hoursOf_4 {p : Program} {l : Launch} {e : Env} {s : State} {m : MethodId} {args : Array Value} {below : List Frame} {meth : Method} {c : Code} {G : GT} {lo : Nat → Int64} (F : Fx p l s args m meth c G cX0_hoursOf 4 (some .int) RX0) {σ : St} {x1 : Int32} : ∀ (n : Nat) {x2 : Int32} {x3 : Int32} {r : RV × St}, f_X0_hoursOf_4 σ x1 n x2 x3 = some r → ∀ {H : Heap} {locs : List Loc}, va_P (gD G) vwCl (wld G lo σ) H → va_S (gF G) s.heap H locs → ∀ {ls : Array Slot}, lv_has ls 4 [(0, .ref (gA G 1)), (1, .int x1), (2, .int x2), (3, .int x3)] → W p l e (RM 0 0 0 0) s m args below meth c H locs 0 0 (vx_MQ below (QCr G lo r) (XCr G lo r) args s 0 0 (gF G)) (F0 m 4 ls []) := by
  obtain ⟨hx, hb, hrt, hml, hown, hts, hlocks, hC, htab, hst⟩ := id F
  intro n
  induction n with
  | zero =>
    intro x2 x3 r hm
    simp only [f_X0_hoursOf_4] at hm
    cases hm
  | succ n ih =>
    intro x2 x3 r hm H locs hP hS ls hl
    rw [f_X0_hoursOf_4] at hm
    refine lv_iload_n hx hb dX0_hoursOf_4 rfl (lv_at hl 3 rfl) ?_
    refine lv_aload_n hx hb dX0_hoursOf_5 rfl (lv_at hl 0 rfl) ?_
    refine xg F 3 inX0 hP (kd_k kdc_1 (by decide)) (wc0 kdc_1) rfl (by decide) tk_38 rfl rfl dX0_hoursOf_6 ?_
    refine lv_icmp_ge (tgt := 31) hx hb dX0_hoursOf_9 (by decide) (fun b1 => ?_) (fun b1 => ?_)
    · rw [if_pos b1] at hm
      refine lv_iload_n hx hb dX0_hoursOf_31 rfl (lv_at hl 2 rfl) ?_
      exact xir F hP hS (Option.some.inj hm).symm (by decide) (by decide) dX0_hoursOf_32
    · rw [if_neg b1] at hm
      refine lv_aload_n hx hb dX0_hoursOf_12 rfl (lv_at hl 0 rfl) ?_
      refine xg F 0 inX0 hP (kd_k kdc_1 (by decide)) (wc0 kdc_1) rfl (by decide) tk_35 rfl rfl dX0_hoursOf_13 ?_
      refine lv_iload_n hx hb dX0_hoursOf_16 rfl (lv_at hl 3 rfl) ?_
      by_cases b2 : (x3 < 0 ∨ 10 ≤ x3.toNatClampNeg)
      · rw [if_pos b2] at hm
        cases hm
      · rw [if_neg b2] at hm
        refine xil F hP kdc_2 lnc_2 b2 dX0_hoursOf_17 ?_
        refine lv_iload_n hx hb dX0_hoursOf_18 rfl (lv_at hl 1 rfl) ?_
        refine lv_icmp_ne (tgt := 25) hx hb dX0_hoursOf_19 (by decide) (fun b3 => ?_) (fun b3 => ?_)
        · rw [if_neg b3] at hm
          refine lv_iinc (v := (x3 + 1)) (lv' := [(3, .int (x3 + 1)), (0, .ref (gA G 1)), (1, .int x1), (2, .int x2)]) hx hb dX0_hoursOf_25 hl (k := 3) rfl rfl (by decide) rfl (fun ls hl => ?_)
          refine lv_goto (tgt := 4) hx hb dX0_hoursOf_28 (by decide) ?_
          exact ih hm hP hS (lv_sub hl [1, 2, 3, 0] rfl)
        · rw [if_pos b3] at hm
          refine lv_iinc (v := (x2 + 1)) (lv' := [(2, .int (x2 + 1)), (0, .ref (gA G 1)), (1, .int x1), (3, .int x3)]) hx hb dX0_hoursOf_22 hl (k := 2) rfl rfl (by decide) rfl (fun ls hl => ?_)
          refine lv_iinc (v := (x3 + 1)) (lv' := [(3, .int (x3 + 1)), (2, .int (x2 + 1)), (0, .ref (gA G 1)), (1, .int x1)]) hx hb dX0_hoursOf_25 hl (k := 3) rfl rfl (by decide) rfl (fun ls hl => ?_)
          refine lv_goto (tgt := 4) hx hb dX0_hoursOf_28 (by decide) ?_
          exact ih hm hP hS (lv_sub hl [2, 3, 1, 0] rfl)
def f_X0_hoursOf (σ : St) (x1 : Int32) : Option (RV × St) :=
  f_X0_hoursOf_4 σ x1 40 0 0
set_option maxHeartbeats 4000000 in
set_option maxRecDepth 100000 in
theorem c_X0_hoursOf {l : Launch} {G : GT} {σ : St} {x1 : Int32} {r : RV × St} (hm : f_X0_hoursOf σ x1 = some r) : MC l G yX0_hoursOf cX0_hoursOf 4 (some .int) 0 0 0 0 [.inr 1, .inl x1] σ r := by
  refine xbody (by decide) (Nat.le_of_ble_eq_true rfl) ?_
  intro lo p e s m args below meth c F hP ls hl
  have F : Fx p l s args m meth c G cX0_hoursOf 4 (some .int) RX0 := F
  obtain ⟨hx, hb, hrt, hml, hown, hts, hlocks, hC, htab, hst⟩ := id F
  have hS : va_S (gF G) s.heap s.heap [] := va_S.rf
  have hl : lv_has ls 4 [(0, .ref (gA G 1)), (1, .int x1)] := hl
  unfold f_X0_hoursOf at hm
  refine lv_iconst (v := 0) hx hb dX0_hoursOf_0 (by decide) ?_
  refine lv_istore_n (lv' := [(2, .int 0), (0, .ref (gA G 1)), (1, .int x1)]) hx hb dX0_hoursOf_1 rfl hl (by decide) rfl (fun ls hl => ?_)
  refine lv_iconst (v := 0) hx hb dX0_hoursOf_2 (by decide) ?_
  refine lv_istore_n (lv' := [(3, .int 0), (2, .int 0), (0, .ref (gA G 1)), (1, .int x1)]) hx hb dX0_hoursOf_3 rfl hl (by decide) rfl (fun ls hl => ?_)
  exact w_X0_hoursOf_4 F 40 hm hP hS (lv_sub hl [2, 3, 1, 0] rfl)

def f_X0_open (σ : St) (x1 : Int32) (x2 : Int32) (x3 : Int32) : Option (RV × St) :=
  if 10 ≤ (σ 1 3) then
    some (.inl none, σ)
  else
    if (σ 1 3) < 0 ∨ 10 ≤ (σ 1 3).toNatClampNeg then none
    else
      if ((up2 σ 2 (σ 1 3).toNatClampNeg x1) 1 3) < 0 ∨ 10 ≤ ((up2 σ 2 (σ 1 3).toNatClampNeg x1) 1 3).toNatClampNeg then none
      else
        if ((up2 (up2 σ 2 (σ 1 3).toNatClampNeg x1) 3 ((up2 σ 2 (σ 1 3).toNatClampNeg x1) 1 3).toNatClampNeg x2) 1 3) < 0 ∨ 10 ≤ ((up2 (up2 σ 2 (σ 1 3).toNatClampNeg x1) 3 ((up2 σ 2 (σ 1 3).toNatClampNeg x1) 1 3).toNatClampNeg x2) 1 3).toNatClampNeg then none
        else
          some (.inl none, (up2 (up2 (up2 (up2 σ 2 (σ 1 3).toNatClampNeg x1) 3 ((up2 σ 2 (σ 1 3).toNatClampNeg x1) 1 3).toNatClampNeg x2) 4 ((up2 (up2 σ 2 (σ 1 3).toNatClampNeg x1) 3 ((up2 σ 2 (σ 1 3).toNatClampNeg x1) 1 3).toNatClampNeg x2) 1 3).toNatClampNeg x3) 1 3 (((up2 (up2 (up2 σ 2 (σ 1 3).toNatClampNeg x1) 3 ((up2 σ 2 (σ 1 3).toNatClampNeg x1) 1 3).toNatClampNeg x2) 4 ((up2 (up2 σ 2 (σ 1 3).toNatClampNeg x1) 3 ((up2 σ 2 (σ 1 3).toNatClampNeg x1) 1 3).toNatClampNeg x2) 1 3).toNatClampNeg x3) 1 3) + 1)))
set_option maxHeartbeats 4000000 in
set_option maxRecDepth 100000 in
theorem c_X0_open {l : Launch} {G : GT} {σ : St} {x1 : Int32} {x2 : Int32} {x3 : Int32} {r : RV × St} (hm : f_X0_open σ x1 x2 x3 = some r) : MC l G yX0_open cX0_open 4 none 0 0 0 0 [.inr 1, .inl x1, .inl x2, .inl x3] σ r := by
  refine xbody (by decide) (Nat.le_of_ble_eq_true rfl) ?_
  intro lo p e s m args below meth c F hP ls hl
  have F : Fx p l s args m meth c G cX0_open 4 none RX0 := F
  obtain ⟨hx, hb, hrt, hml, hown, hts, hlocks, hC, htab, hst⟩ := id F
  have hS : va_S (gF G) s.heap s.heap [] := va_S.rf
  have hl : lv_has ls 4 [(0, .ref (gA G 1)), (1, .int x1), (2, .int x2), (3, .int x3)] := hl
  unfold f_X0_open at hm
  refine lv_aload_n hx hb dX0_open_0 rfl (lv_at hl 0 rfl) ?_
  refine xg F 3 inX0 hP (kd_k kdc_1 (by decide)) (wc0 kdc_1) rfl (by decide) tk_38 rfl rfl dX0_open_1 ?_
  refine lv_bipush (v := 10) hx hb dX0_open_4 (by decide) ?_
  refine lv_icmp_ge (tgt := 49) hx hb dX0_open_6 (by decide) (fun b1 => ?_) (fun b1 => ?_)
  · rw [if_pos b1] at hm
    exact xvr F hP hS (Option.some.inj hm).symm (by decide) (by decide) dX0_open_49
  · rw [if_neg b1] at hm
    refine lv_aload_n hx hb dX0_open_9 rfl (lv_at hl 0 rfl) ?_
    refine xg F 0 inX0 hP (kd_k kdc_1 (by decide)) (wc0 kdc_1) rfl (by decide) tk_35 rfl rfl dX0_open_10 ?_
    refine lv_aload_n hx hb dX0_open_13 rfl (lv_at hl 0 rfl) ?_
    refine xg F 3 inX0 hP (kd_k kdc_1 (by decide)) (wc0 kdc_1) rfl (by decide) tk_38 rfl rfl dX0_open_14 ?_
    refine lv_iload_n hx hb dX0_open_17 rfl (lv_at hl 1 rfl) ?_
    by_cases b2 : ((σ 1 3) < 0 ∨ 10 ≤ (σ 1 3).toNatClampNeg)
    · rw [if_pos b2] at hm
      cases hm
    · rw [if_neg b2] at hm
      refine xis F (v := x1) hP hS kdc_2 lnc_2 b2 dX0_open_18 (fun H locs hP hS => ?_)
      refine lv_aload_n hx hb dX0_open_19 rfl (lv_at hl 0 rfl) ?_
      refine xg F 1 inX0 hP (kd_k kdc_1 (by decide)) (wc0 kdc_1) rfl (by decide) tk_36 rfl rfl dX0_open_20 ?_
      refine lv_aload_n hx hb dX0_open_23 rfl (lv_at hl 0 rfl) ?_
      refine xg F 3 inX0 hP (kd_k kdc_1 (by decide)) (wc0 kdc_1) rfl (by decide) tk_38 rfl rfl dX0_open_24 ?_
      refine lv_iload_n hx hb dX0_open_27 rfl (lv_at hl 2 rfl) ?_
      by_cases b3 : (((up2 σ 2 (σ 1 3).toNatClampNeg x1) 1 3) < 0 ∨ 10 ≤ ((up2 σ 2 (σ 1 3).toNatClampNeg x1) 1 3).toNatClampNeg)
      · rw [if_pos b3] at hm
        cases hm
      · rw [if_neg b3] at hm
        refine xis F (v := x2) hP hS kdc_3 lnc_3 b3 dX0_open_28 (fun H locs hP hS => ?_)
        refine lv_aload_n hx hb dX0_open_29 rfl (lv_at hl 0 rfl) ?_
        refine xg F 2 inX0 hP (kd_k kdc_1 (by decide)) (wc0 kdc_1) rfl (by decide) tk_37 rfl rfl dX0_open_30 ?_
        refine lv_aload_n hx hb dX0_open_33 rfl (lv_at hl 0 rfl) ?_
        refine xg F 3 inX0 hP (kd_k kdc_1 (by decide)) (wc0 kdc_1) rfl (by decide) tk_38 rfl rfl dX0_open_34 ?_
        refine lv_iload_n hx hb dX0_open_37 rfl (lv_at hl 3 rfl) ?_
        by_cases b4 : (((up2 (up2 σ 2 (σ 1 3).toNatClampNeg x1) 3 ((up2 σ 2 (σ 1 3).toNatClampNeg x1) 1 3).toNatClampNeg x2) 1 3) < 0 ∨ 10 ≤ ((up2 (up2 σ 2 (σ 1 3).toNatClampNeg x1) 3 ((up2 σ 2 (σ 1 3).toNatClampNeg x1) 1 3).toNatClampNeg x2) 1 3).toNatClampNeg)
        · rw [if_pos b4] at hm
          cases hm
        · rw [if_neg b4] at hm
          refine xis F (v := x3) hP hS kdc_4 lnc_4 b4 dX0_open_38 (fun H locs hP hS => ?_)
          refine lv_aload_n hx hb dX0_open_39 rfl (lv_at hl 0 rfl) ?_
          refine lv_dup hx hb dX0_open_40 rfl ?_
          refine xg F 3 inX0 hP (kd_k kdc_1 (by decide)) (wc0 kdc_1) rfl (by decide) tk_38 rfl rfl dX0_open_41 ?_
          refine lv_iconst (v := 1) hx hb dX0_open_44 (by decide) ?_
          refine lv_iadd hx hb dX0_open_45 ?_
          refine xp F (v := (((up2 (up2 (up2 σ 2 (σ 1 3).toNatClampNeg x1) 3 ((up2 σ 2 (σ 1 3).toNatClampNeg x1) 1 3).toNatClampNeg x2) 4 ((up2 (up2 σ 2 (σ 1 3).toNatClampNeg x1) 3 ((up2 σ 2 (σ 1 3).toNatClampNeg x1) 1 3).toNatClampNeg x2) 1 3).toNatClampNeg x3) 1 3) + 1)) (ty := .int) 3 inX0 tyX0_ok nmX0 hP hS (kd_k kdc_1 (by decide)) (wc0 kdc_1) (wu0_3 kdc_1) rfl (by decide) tk_38 rfl rfl rfl rfl rfl (Nat.le_of_ble_eq_true rfl) dX0_open_46 (fun H locs hP hS => ?_)
          exact xvr F hP hS (Option.some.inj hm).symm (by decide) (by decide) dX0_open_49

def f_X2_add (σ : St) (q0 : Nat) (x1 : Int32) : Option (RV × St) :=
  if 16 ≤ (σ q0 1) then
    some (.inl none, σ)
  else
    if (σ q0 1) < 0 ∨ 16 ≤ (σ q0 1).toNatClampNeg then none
    else
      some (.inl none, (up2 (up2 σ (q0 + 1) (σ q0 1).toNatClampNeg x1) q0 1 (((up2 σ (q0 + 1) (σ q0 1).toNatClampNeg x1) q0 1) + 1)))
set_option maxHeartbeats 4000000 in
set_option maxRecDepth 100000 in
theorem c_X2_add {l : Launch} {G : GT} {σ : St} {q0 : Nat} {x1 : Int32} (k0 : kd q0 = 2) {r : RV × St} (hm : f_X2_add σ q0 x1 = some r) : MC l G yX2_add cX2_add 2 none 0 0 0 0 [.inr q0, .inl x1] σ r := by
  refine xbody (by decide) (Nat.le_of_ble_eq_true rfl) ?_
  intro lo p e s m args below meth c F hP ls hl
  have F : Fx p l s args m meth c G cX2_add 2 none RX2 := F
  obtain ⟨hx, hb, hrt, hml, hown, hts, hlocks, hC, htab, hst⟩ := id F
  have hS : va_S (gF G) s.heap s.heap [] := va_S.rf
  have hl : lv_has ls 2 [(0, .ref (gA G q0)), (1, .int x1)] := hl
  unfold f_X2_add at hm
  refine lv_aload_n hx hb dX2_add_0 rfl (lv_at hl 0 rfl) ?_
  refine xg F 1 inX2 hP (kd_k k0 (by decide)) (wc2 k0) rfl (by decide) tk_98 rfl rfl dX2_add_1 ?_
  refine lv_bipush (v := 16) hx hb dX2_add_4 (by decide) ?_
  refine lv_icmp_ge (tgt := 29) hx hb dX2_add_6 (by decide) (fun b1 => ?_) (fun b1 => ?_)
  · rw [if_pos b1] at hm
    exact xvr F hP hS (Option.some.inj hm).symm (by decide) (by decide) dX2_add_29
  · rw [if_neg b1] at hm
    refine lv_aload_n hx hb dX2_add_9 rfl (lv_at hl 0 rfl) ?_
    refine xg F 0 inX2 hP (kd_k k0 (by decide)) (wc2 k0) rfl (by decide) tk_96 rfl rfl dX2_add_10 ?_
    refine lv_aload_n hx hb dX2_add_13 rfl (lv_at hl 0 rfl) ?_
    refine xg F 1 inX2 hP (kd_k k0 (by decide)) (wc2 k0) rfl (by decide) tk_98 rfl rfl dX2_add_14 ?_
    refine lv_iload_n hx hb dX2_add_17 rfl (lv_at hl 1 rfl) ?_
    by_cases b2 : ((σ q0 1) < 0 ∨ 16 ≤ (σ q0 1).toNatClampNeg)
    · rw [if_pos b2] at hm
      cases hm
    · rw [if_neg b2] at hm
      refine xis F (v := x1) hP hS ((kd_wavA _ k0).1) ((kd_wavA _ k0).2) b2 dX2_add_18 (fun H locs hP hS => ?_)
      refine lv_aload_n hx hb dX2_add_19 rfl (lv_at hl 0 rfl) ?_
      refine lv_dup hx hb dX2_add_20 rfl ?_
      refine xg F 1 inX2 hP (kd_k k0 (by decide)) (wc2 k0) rfl (by decide) tk_98 rfl rfl dX2_add_21 ?_
      refine lv_iconst (v := 1) hx hb dX2_add_24 (by decide) ?_
      refine lv_iadd hx hb dX2_add_25 ?_
      refine xp F (v := (((up2 σ (q0 + 1) (σ q0 1).toNatClampNeg x1) q0 1) + 1)) (ty := .int) 1 inX2 tyX2_ok nmX2 hP hS (kd_k k0 (by decide)) (wc2 k0) (wu2_1 k0) rfl (by decide) tk_98 rfl rfl rfl rfl rfl (Nat.le_of_ble_eq_true rfl) dX2_add_26 (fun H locs hP hS => ?_)
      exact xvr F hP hS (Option.some.inj hm).symm (by decide) (by decide) dX2_add_29

def f_X1_savingWith_39 (σ : St) (q0 : Nat) (q1 : Nat) : Nat → Int32 → Int32 → Option (RV × St)
  | 0, _, _ => none
  | n + 1, x2, x3 =>
    if 10 ≤ x3 then
      some (.inl (some (.inl (if (if (σ q1 2) < (σ q0 2) then (σ q1 2) else (σ q0 2)) < x2 then (if (σ q1 2) < (σ q0 2) then (σ q1 2) else (σ q0 2)) else x2))), σ)
    else
      if x3 < 0 ∨ 10 ≤ x3.toNatClampNeg then none
      else
        if (σ (q0 + 1) x3.toNatClampNeg) ≤ 0 then
          f_X1_savingWith_39 σ q0 q1 n x2 (x3 + 1)
        else
          if (σ (q1 + 1) x3.toNatClampNeg) ≤ 0 then
            f_X1_savingWith_39 σ q0 q1 n x2 (x3 + 1)
          else
            f_X1_savingWith_39 σ q0 q1 n (x2 + 3) (x3 + 1)
set_option maxHeartbeats 4000000 in
set_option maxRecDepth 100000 in
theorem w_X1_savingWith_39 {p : Program} {l : Launch} {e : Env} {s : State} {m : MethodId} {args : Array Value} {below : List Frame} {meth : Method} {c : Code} {G : GT} {lo : Nat → Int64} (F : Fx p l s args m meth c G cX1_savingWith 4 (some .int) RX1) {σ : St} {q0 : Nat} {q1 : Nat} (k0 : kd q0 = 1) (k1 : kd q1 = 1) : ∀ (n : Nat) {x2 : Int32} {x3 : Int32} {r : RV × St}, f_X1_savingWith_39 σ q0 q1 n x2 x3 = some r → ∀ {H : Heap} {locs : List Loc}, va_P (gD G) vwCl (wld G lo σ) H → va_S (gF G) s.heap H locs → ∀ {ls : Array Slot}, lv_has ls 4 [(0, .ref (gA G q0)), (1, .ref (gA G q1)), (2, .int x2), (3, .int x3)] → W p l e (RM 1 21 0 0) s m args below meth c H locs 0 0 (vx_MQ below (QCr G lo r) (XCr G lo r) args s 0 0 (gF G)) (F0 m 39 ls []) := by
  obtain ⟨hx, hb, hrt, hml, hown, hts, hlocks, hC, htab, hst⟩ := id F
  intro n
  induction n with
  | zero =>
    intro x2 x3 r hm
    simp only [f_X1_savingWith_39] at hm
    cases hm
  | succ n ih =>
    intro x2 x3 r hm H locs hP hS ls hl
    rw [f_X1_savingWith_39] at hm
    refine lv_iload_n hx hb dX1_savingWith_39 rfl (lv_at hl 3 rfl) ?_
    refine lv_bipush (v := 10) hx hb dX1_savingWith_40 (by decide) ?_
    refine lv_icmp_ge (tgt := 72) hx hb dX1_savingWith_42 (by decide) (fun b1 => ?_) (fun b1 => ?_)
    · rw [if_pos b1] at hm
      refine lv_iload_n hx hb dX1_savingWith_72 rfl (lv_at hl 2 rfl) ?_
      refine lv_aload_n hx hb dX1_savingWith_73 rfl (lv_at hl 0 rfl) ?_
      refine xg F 2 inX1 hP (kd_k k0 (by decide)) (wc1 k0) rfl (by decide) tk_61 rfl rfl dX1_savingWith_74 ?_
      refine lv_aload_n hx hb dX1_savingWith_77 rfl (lv_at hl 1 rfl) ?_
      refine xg F 2 inX1 hP (kd_k k1 (by decide)) (wc1 k1) rfl (by decide) tk_61 rfl rfl dX1_savingWith_78 ?_
      refine xmn F tk_171 tk_24 tk_2 tk_25 hl.1 (by decide) (Nat.le_of_ble_eq_true rfl) (by decide) (by decide) dX1_savingWith_81 ?_
      refine xmn F tk_171 tk_24 tk_2 tk_25 hl.1 (by decide) (Nat.le_of_ble_eq_true rfl) (by decide) (by decide) dX1_savingWith_84 ?_
      exact xir F hP hS (Option.some.inj hm).symm (by decide) (by decide) dX1_savingWith_87
    · rw [if_neg b1] at hm
      refine lv_aload_n hx hb dX1_savingWith_45 rfl (lv_at hl 0 rfl) ?_
      refine xg F 5 inX1 hP (kd_k k0 (by decide)) (wc1 k0) rfl (by decide) tk_64 rfl rfl dX1_savingWith_46 ?_
      refine lv_iload_n hx hb dX1_savingWith_49 rfl (lv_at hl 3 rfl) ?_
      by_cases b2 : (x3 < 0 ∨ 10 ≤ x3.toNatClampNeg)
      · rw [if_pos b2] at hm
        cases hm
      · rw [if_neg b2] at hm
        refine xil F hP ((kd_ordA _ k0).1) ((kd_ordA _ k0).2) b2 dX1_savingWith_50 ?_
        refine lv_if_le (tgt := 66) hx hb dX1_savingWith_51 (by decide) (fun b3 => ?_) (fun b3 => ?_)
        · rw [if_pos b3] at hm
          refine lv_iinc (v := (x3 + 1)) (lv' := [(3, .int (x3 + 1)), (0, .ref (gA G q0)), (1, .ref (gA G q1)), (2, .int x2)]) hx hb dX1_savingWith_66 hl (k := 3) rfl rfl (by decide) rfl (fun ls hl => ?_)
          refine lv_goto (tgt := 39) hx hb dX1_savingWith_69 (by decide) ?_
          exact ih hm hP hS (lv_sub hl [1, 2, 3, 0] rfl)
        · rw [if_neg b3] at hm
          refine lv_aload_n hx hb dX1_savingWith_54 rfl (lv_at hl 1 rfl) ?_
          refine xg F 5 inX1 hP (kd_k k1 (by decide)) (wc1 k1) rfl (by decide) tk_64 rfl rfl dX1_savingWith_55 ?_
          refine lv_iload_n hx hb dX1_savingWith_58 rfl (lv_at hl 3 rfl) ?_
          refine xil F hP ((kd_ordA _ k1).1) ((kd_ordA _ k1).2) b2 dX1_savingWith_59 ?_
          refine lv_if_le (tgt := 66) hx hb dX1_savingWith_60 (by decide) (fun b4 => ?_) (fun b4 => ?_)
          · rw [if_pos b4] at hm
            refine lv_iinc (v := (x3 + 1)) (lv' := [(3, .int (x3 + 1)), (0, .ref (gA G q0)), (1, .ref (gA G q1)), (2, .int x2)]) hx hb dX1_savingWith_66 hl (k := 3) rfl rfl (by decide) rfl (fun ls hl => ?_)
            refine lv_goto (tgt := 39) hx hb dX1_savingWith_69 (by decide) ?_
            exact ih hm hP hS (lv_sub hl [1, 2, 3, 0] rfl)
          · rw [if_neg b4] at hm
            refine lv_iinc (v := (x2 + 3)) (lv' := [(2, .int (x2 + 3)), (0, .ref (gA G q0)), (1, .ref (gA G q1)), (3, .int x3)]) hx hb dX1_savingWith_63 hl (k := 2) rfl rfl (by decide) rfl (fun ls hl => ?_)
            refine lv_iinc (v := (x3 + 1)) (lv' := [(3, .int (x3 + 1)), (2, .int (x2 + 3)), (0, .ref (gA G q0)), (1, .ref (gA G q1))]) hx hb dX1_savingWith_66 hl (k := 3) rfl rfl (by decide) rfl (fun ls hl => ?_)
            refine lv_goto (tgt := 39) hx hb dX1_savingWith_69 (by decide) ?_
            exact ih hm hP hS (lv_sub hl [2, 3, 1, 0] rfl)
def f_X1_savingWith_37 (σ : St) (q0 : Nat) (q1 : Nat) (x2 : Int32) : Option (RV × St) :=
  f_X1_savingWith_39 σ q0 q1 40 x2 0
set_option maxHeartbeats 4000000 in
set_option maxRecDepth 100000 in
theorem w_X1_savingWith_37 {p : Program} {l : Launch} {e : Env} {s : State} {m : MethodId} {args : Array Value} {below : List Frame} {meth : Method} {c : Code} {G : GT} {lo : Nat → Int64} (F : Fx p l s args m meth c G cX1_savingWith 4 (some .int) RX1) {σ : St} {q0 : Nat} {q1 : Nat} {x2 : Int32} (k0 : kd q0 = 1) (k1 : kd q1 = 1) {r : RV × St} (hm : f_X1_savingWith_37 σ q0 q1 x2 = some r) {H : Heap} {locs : List Loc} (hP : va_P (gD G) vwCl (wld G lo σ) H) (hS : va_S (gF G) s.heap H locs) {ls : Array Slot} (hl : lv_has ls 4 [(0, .ref (gA G q0)), (1, .ref (gA G q1)), (2, .int x2)]) : W p l e (RM 1 21 0 0) s m args below meth c H locs 0 0 (vx_MQ below (QCr G lo r) (XCr G lo r) args s 0 0 (gF G)) (F0 m 37 ls []) := by
  obtain ⟨hx, hb, hrt, hml, hown, hts, hlocks, hC, htab, hst⟩ := id F
  unfold f_X1_savingWith_37 at hm
  refine lv_iconst (v := 0) hx hb dX1_savingWith_37 (by decide) ?_
  refine lv_istore_n (lv' := [(3, .int 0), (0, .ref (gA G q0)), (1, .ref (gA G q1)), (2, .int x2)]) hx hb dX1_savingWith_38 rfl hl (by decide) rfl (fun ls hl => ?_)
  exact w_X1_savingWith_39 F k0 k1 40 hm hP hS (lv_sub hl [1, 2, 3, 0] rfl)
def f_X1_savingWith (σ : St) (q0 : Nat) (q1 : Nat) : Option (RV × St) :=
  if (σ q0 1) = (σ q1 1) then
    f_X1_savingWith_37 σ q0 q1 10
  else
    if (if 0 ≤ ((σ q0 1) - (σ q1 1)) then ((σ q0 1) - (σ q1 1)) else 0 - ((σ q0 1) - (σ q1 1))) = 1 then
      f_X1_savingWith_37 σ q0 q1 5
    else
      f_X1_savingWith_37 σ q0 q1 0
set_option maxHeartbeats 4000000 in
set_option maxRecDepth 100000 in
theorem c_X1_savingWith {l : Launch} {G : GT} {σ : St} {q0 : Nat} {q1 : Nat} (k0 : kd q0 = 1) (k1 : kd q1 = 1) {r : RV × St} (hm : f_X1_savingWith σ q0 q1 = some r) : MC l G yX1_savingWith cX1_savingWith 4 (some .int) 1 21 0 0 [.inr q0, .inr q1] σ r := by
  refine xbody (by decide) (Nat.le_of_ble_eq_true rfl) ?_
  intro lo p e s m args below meth c F hP ls hl
  have F : Fx p l s args m meth c G cX1_savingWith 4 (some .int) RX1 := F
  obtain ⟨hx, hb, hrt, hml, hown, hts, hlocks, hC, htab, hst⟩ := id F
  have hS : va_S (gF G) s.heap s.heap [] := va_S.rf
  have hl : lv_has ls 4 [(0, .ref (gA G q0)), (1, .ref (gA G q1))] := hl
  unfold f_X1_savingWith at hm
  refine lv_iconst (v := 0) hx hb dX1_savingWith_0 (by decide) ?_
  refine lv_istore_n (lv' := [(2, .int 0), (0, .ref (gA G q0)), (1, .ref (gA G q1))]) hx hb dX1_savingWith_1 rfl hl (by decide) rfl (fun ls hl => ?_)
  refine lv_aload_n hx hb dX1_savingWith_2 rfl (lv_at hl 1 rfl) ?_
  refine xg F 1 inX1 hP (kd_k k0 (by decide)) (wc1 k0) rfl (by decide) tk_58 rfl rfl dX1_savingWith_3 ?_
  refine lv_aload_n hx hb dX1_savingWith_6 rfl (lv_at hl 2 rfl) ?_
  refine xg F 1 inX1 hP (kd_k k1 (by decide)) (wc1 k1) rfl (by decide) tk_58 rfl rfl dX1_savingWith_7 ?_
  refine lv_icmp_ne (tgt := 19) hx hb dX1_savingWith_10 (by decide) (fun b1 => ?_) (fun b1 => ?_)
  · rw [if_neg b1] at hm
    refine lv_aload_n hx hb dX1_savingWith_19 rfl (lv_at hl 1 rfl) ?_
    refine xg F 1 inX1 hP (kd_k k0 (by decide)) (wc1 k0) rfl (by decide) tk_58 rfl rfl dX1_savingWith_20 ?_
    refine lv_aload_n hx hb dX1_savingWith_23 rfl (lv_at hl 2 rfl) ?_
    refine xg F 1 inX1 hP (kd_k k1 (by decide)) (wc1 k1) rfl (by decide) tk_58 rfl rfl dX1_savingWith_24 ?_
    refine lv_isub hx hb dX1_savingWith_27 ?_
    refine xab F tk_168 tk_169 tk_2 tk_170 hl.1 (by decide) (Nat.le_of_ble_eq_true rfl) (by decide) (by decide) dX1_savingWith_28 ?_
    refine lv_iconst (v := 1) hx hb dX1_savingWith_31 (by decide) ?_
    refine lv_icmp_ne (tgt := 37) hx hb dX1_savingWith_32 (by decide) (fun b2 => ?_) (fun b2 => ?_)
    · rw [if_neg b2] at hm
      exact w_X1_savingWith_37 F k0 k1 hm hP hS (lv_sub hl [1, 2, 0] rfl)
    · rw [if_pos b2] at hm
      refine lv_iconst (v := 5) hx hb dX1_savingWith_35 (by decide) ?_
      refine lv_istore_n (lv' := [(2, .int 5), (0, .ref (gA G q0)), (1, .ref (gA G q1))]) hx hb dX1_savingWith_36 rfl hl (by decide) rfl (fun ls hl => ?_)
      exact w_X1_savingWith_37 F k0 k1 hm hP hS (lv_sub hl [1, 2, 0] rfl)
  · rw [if_pos b1] at hm
    refine lv_bipush (v := 10) hx hb dX1_savingWith_13 (by decide) ?_
    refine lv_istore_n (lv' := [(2, .int 10), (0, .ref (gA G q0)), (1, .ref (gA G q1))]) hx hb dX1_savingWith_15 rfl hl (by decide) rfl (fun ls hl => ?_)
    refine lv_goto (tgt := 37) hx hb dX1_savingWith_16 (by decide) ?_
    exact w_X1_savingWith_37 F k0 k1 hm hP hS (lv_sub hl [1, 2, 0] rfl)

def f_X3_requireRange (σ : St) (x0 : Int32) (x1 : Int32) (x2 : Int32) : Option (RV × St) :=
  if x0 < x1 then
    some (.inr "java/lang/IllegalArgumentException", σ)
  else
    if x0 ≤ x2 then
      some (.inl none, σ)
    else
      some (.inr "java/lang/IllegalArgumentException", σ)
set_option maxHeartbeats 4000000 in
set_option maxRecDepth 100000 in
theorem c_X3_requireRange {l : Launch} {G : GT} {σ : St} {x0 : Int32} {x1 : Int32} {x2 : Int32} {r : RV × St} (hm : f_X3_requireRange σ x0 x1 x2 = some r) : MC l G yX3_requireRange cX3_requireRange 3 none 6 90 1 6 [.inl x0, .inl x1, .inl x2] σ r := by
  refine xbody (by decide) (Nat.le_of_ble_eq_true rfl) ?_
  intro lo p e s m args below meth c F hP ls hl
  have F : Fx p l s args m meth c G cX3_requireRange 3 none RX3 := F
  obtain ⟨hx, hb, hrt, hml, hown, hts, hlocks, hC, htab, hst⟩ := id F
  have hS : va_S (gF G) s.heap s.heap [] := va_S.rf
  have hl : lv_has ls 3 [(0, .int x0), (1, .int x1), (2, .int x2)] := hl
  unfold f_X3_requireRange at hm
  refine lv_iload_n hx hb dX3_requireRange_0 rfl (lv_at hl 0 rfl) ?_
  refine lv_iload_n hx hb dX3_requireRange_1 rfl (lv_at hl 1 rfl) ?_
  refine lv_icmp_lt (tgt := 10) hx hb dX3_requireRange_2 (by decide) (fun b1 => ?_) (fun b1 => ?_)
  · rw [if_pos b1] at hm
    exact xthr F hP hS (Option.some.inj hm).symm (by decide) (by decide) hl.1 (by decide +kernel) tk_188 tk_10 (List.mem_of_getElem? (i := 0) rfl) xt_158_1 xt_158_2 xt_158_154 dX3_requireRange_10 dX3_requireRange_13 dX3_requireRange_14 dX3_requireRange_16 dX3_requireRange_19 (Nat.le_of_ble_eq_true rfl) (Nat.le_of_ble_eq_true rfl) (Nat.le_of_ble_eq_true rfl) (Nat.le_of_ble_eq_true rfl)
  · rw [if_neg b1] at hm
    refine lv_iload_n hx hb dX3_requireRange_5 rfl (lv_at hl 0 rfl) ?_
    refine lv_iload_n hx hb dX3_requireRange_6 rfl (lv_at hl 2 rfl) ?_
    refine lv_icmp_le (tgt := 20) hx hb dX3_requireRange_7 (by decide) (fun b2 => ?_) (fun b2 => ?_)
    · rw [if_pos b2] at hm
      exact xvr F hP hS (Option.some.inj hm).symm (by decide) (by decide) dX3_requireRange_20
    · rw [if_neg b2] at hm
      exact xthr F hP hS (Option.some.inj hm).symm (by decide) (by decide) hl.1 (by decide +kernel) tk_188 tk_10 (List.mem_of_getElem? (i := 0) rfl) xt_158_1 xt_158_2 xt_158_154 dX3_requireRange_10 dX3_requireRange_13 dX3_requireRange_14 dX3_requireRange_16 dX3_requireRange_19 (Nat.le_of_ble_eq_true rfl) (Nat.le_of_ble_eq_true rfl) (Nat.le_of_ble_eq_true rfl) (Nat.le_of_ble_eq_true rfl)

def f_X3_requireOrder (σ : St) (x1 : Int32) : Option (RV × St) :=
  if x1 < 0 then
    some (.inr "java/util/NoSuchElementException", σ)
  else
    if x1 < (σ 0 4) then
      if x1 < 0 ∨ 16 ≤ x1.toNatClampNeg then none
      else
        some (.inl (some (.inr (26 + 2 * x1.toNatClampNeg))), σ)
    else
      some (.inr "java/util/NoSuchElementException", σ)
set_option maxHeartbeats 4000000 in
set_option maxRecDepth 100000 in
theorem c_X3_requireOrder {l : Launch} {G : GT} {σ : St} {x1 : Int32} {r : RV × St} (hm : f_X3_requireOrder σ x1 = some r) : MC l G yX3_requireOrder cX3_requireOrder 2 (some (.object "WavePlans$Order")) 6 90 1 6 [.inr 0, .inl x1] σ r := by
  refine xbody (by decide) (Nat.le_of_ble_eq_true rfl) ?_
  intro lo p e s m args below meth c F hP ls hl
  have F : Fx p l s args m meth c G cX3_requireOrder 2 (some (.object "WavePlans$Order")) RX3 := F
  obtain ⟨hx, hb, hrt, hml, hown, hts, hlocks, hC, htab, hst⟩ := id F
  have hS : va_S (gF G) s.heap s.heap [] := va_S.rf
  have hl : lv_has ls 2 [(0, .ref (gA G 0)), (1, .int x1)] := hl
  unfold f_X3_requireOrder at hm
  refine lv_iload_n hx hb dX3_requireOrder_0 rfl (lv_at hl 1 rfl) ?_
  refine lv_if_lt (tgt := 12) hx hb dX3_requireOrder_1 (by decide) (fun b1 => ?_) (fun b1 => ?_)
  · rw [if_pos b1] at hm
    exact xthrN F hP hS (Option.some.inj hm).symm (by decide) (by decide) hl.1 tk_286 (List.mem_of_getElem? (i := 2) rfl) dX3_requireOrder_12 dX3_requireOrder_15 dX3_requireOrder_16 dX3_requireOrder_18 dX3_requireOrder_21 (Nat.le_of_ble_eq_true rfl) (Nat.le_of_ble_eq_true rfl) (Nat.le_of_ble_eq_true rfl) (Nat.le_of_ble_eq_true rfl)
  · rw [if_neg b1] at hm
    refine lv_iload_n hx hb dX3_requireOrder_4 rfl (lv_at hl 1 rfl) ?_
    refine lv_aload_n hx hb dX3_requireOrder_5 rfl (lv_at hl 0 rfl) ?_
    refine xg F 4 inX3 hP (kd_k kdc_0 (by decide)) (wc3 kdc_0) rfl (by decide) tk_115 rfl rfl dX3_requireOrder_6 ?_
    refine lv_icmp_lt (tgt := 22) hx hb dX3_requireOrder_9 (by decide) (fun b2 => ?_) (fun b2 => ?_)
    · rw [if_pos b2] at hm
      refine lv_aload_n hx hb dX3_requireOrder_22 rfl (lv_at hl 0 rfl) ?_
      refine xg F 3 inX3 hP (kd_k kdc_0 (by decide)) (wc3 kdc_0) rfl (by decide) tk_114 rfl rfl dX3_requireOrder_23 ?_
      refine lv_iload_n hx hb dX3_requireOrder_26 rfl (lv_at hl 1 rfl) ?_
      by_cases b3 : (x1 < 0 ∨ 16 ≤ x1.toNatClampNeg)
      · rw [if_pos b3] at hm
        cases hm
      · rw [if_neg b3] at hm
        refine xol F hP kdc_6 b3 dX3_requireOrder_27 ?_
        exact xar F hP hS (Option.some.inj hm).symm (by decide) (by decide) dX3_requireOrder_28
    · rw [if_neg b2] at hm
      exact xthrN F hP hS (Option.some.inj hm).symm (by decide) (by decide) hl.1 tk_286 (List.mem_of_getElem? (i := 2) rfl) dX3_requireOrder_12 dX3_requireOrder_15 dX3_requireOrder_16 dX3_requireOrder_18 dX3_requireOrder_21 (Nat.le_of_ble_eq_true rfl) (Nat.le_of_ble_eq_true rfl) (Nat.le_of_ble_eq_true rfl) (Nat.le_of_ble_eq_true rfl)

def f_X3_fits (σ : St) (q1 : Nat) : Option (RV × St) :=
  ni (f_X0_have σ (σ q1 3) (σ q1 0)) (fun x1_ σ1 =>
    if x1_ = 0 ∨ x1_ = 1 then some (.inl (some (.inl x1_)), σ1) else none)
set_option maxHeartbeats 4000000 in
set_option maxRecDepth 100000 in
theorem c_X3_fits {l : Launch} {G : GT} {σ : St} {q1 : Nat} (k1 : kd q1 = 1) {r : RV × St} (hm : f_X3_fits σ q1 = some r) : MC l G yX3_fits cX3_fits 2 (some .boolean) 1 23 0 0 [.inr 0, .inr q1] σ r := by
  refine xbody (by decide) (Nat.le_of_ble_eq_true rfl) ?_
  intro lo p e s m args below meth c F hP ls hl
  have F : Fx p l s args m meth c G cX3_fits 2 (some .boolean) RX3 := F
  obtain ⟨hx, hb, hrt, hml, hown, hts, hlocks, hC, htab, hst⟩ := id F
  have hS : va_S (gF G) s.heap s.heap [] := va_S.rf
  have hl : lv_has ls 2 [(0, .ref (gA G 0)), (1, .ref (gA G q1))] := hl
  unfold f_X3_fits at hm
  refine lv_aload_n hx hb dX3_fits_0 rfl (lv_at hl 0 rfl) ?_
  refine xg F 1 inX3 hP (kd_k kdc_0 (by decide)) (wc3 kdc_0) rfl (by decide) tk_112 rfl rfl dX3_fits_1 ?_
  refine lv_aload_n hx hb dX3_fits_4 rfl (lv_at hl 1 rfl) ?_
  refine xgN F 3 inX1 hP (kd_k k1 (by decide)) (wc1 k1) rfl (by decide) tn_6 rfl rfl dX3_fits_5 ?_
  refine lv_aload_n hx hb dX3_fits_8 rfl (lv_at hl 1 rfl) ?_
  refine xgN F 0 inX1 hP (kd_k k1 (by decide)) (wc1 k1) rfl (by decide) tn_3 rfl rfl dX3_fits_9 ?_
  obtain ⟨x1_, σ1, h1, hm⟩ := ni_inv hm
  refine xVN F (c_X0_have h1) rfl tk_379 tn_30 tk_378 tu_15 tk_3 rfl 2 (by decide +kernel) rfl ⟨Nat.le_of_ble_eq_true rfl, Nat.le_of_ble_eq_true rfl⟩ hP hS (kd_k kdc_1 (by decide)) (wc0 kdc_1) rfl hl.1 rfl (Nat.le_of_ble_eq_true rfl) dX3_fits_12 ⟨Nat.le_of_ble_eq_true rfl, Nat.le_of_ble_eq_true rfl⟩ (fun H locs hP hS => ?_)
  refine W.eq (g2 := F0 m 15 ls [.int x1_]) rfl ?_
  by_cases b2 : (x1_ = 0 ∨ x1_ = 1)
  · rw [if_pos b2] at hm
    exact xzr F hP hS (nar_b b2) (Option.some.inj hm).symm (by decide) (by decide) dX3_fits_15
  · rw [if_neg b2] at hm
    cases hm

def f_X3_order (σ : St) (x1 : Int32) (x2 : Int32) (x3 : Int32) : Option (RV × St) :=
  bv (f_X3_requireRange σ x1 0 100000) (fun σ1 =>
    bv (f_X3_requireRange σ1 x2 0 7) (fun σ2 =>
      bv (f_X3_requireRange σ2 x3 1 10000) (fun σ3 =>
        if (σ3 0 4) < 16 then
          if (σ3 0 4) < 0 ∨ 16 ≤ (σ3 0 4).toNatClampNeg then none
          else
            some (.inl (some (.inl (((up2 (up2 (up2 (up2 σ3 (26 + 2 * (σ3 0 4).toNatClampNeg) 0 x1) (26 + 2 * (σ3 0 4).toNatClampNeg) 1 x2) (26 + 2 * (σ3 0 4).toNatClampNeg) 2 x3) 0 4 (((up2 (up2 (up2 σ3 (26 + 2 * (σ3 0 4).toNatClampNeg) 0 x1) (26 + 2 * (σ3 0 4).toNatClampNeg) 1 x2) (26 + 2 * (σ3 0 4).toNatClampNeg) 2 x3) 0 4) + 1)) 0 4) - 1))), (up2 (up2 (up2 (up2 σ3 (26 + 2 * (σ3 0 4).toNatClampNeg) 0 x1) (26 + 2 * (σ3 0 4).toNatClampNeg) 1 x2) (26 + 2 * (σ3 0 4).toNatClampNeg) 2 x3) 0 4 (((up2 (up2 (up2 σ3 (26 + 2 * (σ3 0 4).toNatClampNeg) 0 x1) (26 + 2 * (σ3 0 4).toNatClampNeg) 1 x2) (26 + 2 * (σ3 0 4).toNatClampNeg) 2 x3) 0 4) + 1)))
        else
          some (.inr "java/lang/UnsupportedOperationException", σ3))))
set_option maxHeartbeats 4000000 in
set_option maxRecDepth 100000 in
theorem c_X3_order {l : Launch} {G : GT} {σ : St} {x1 : Int32} {x2 : Int32} {x3 : Int32} {r : RV × St} (hm : f_X3_order σ x1 x2 x3 = some r) : MC l G yX3_order cX3_order 5 (some .int) 7 112 4 24 [.inr 0, .inl x1, .inl x2, .inl x3] σ r := by
  refine xbody (by decide) (Nat.le_of_ble_eq_true rfl) ?_
  intro lo p e s m args below meth c F hP ls hl
  have F : Fx p l s args m meth c G cX3_order 5 (some .int) RX3 := F
  obtain ⟨hx, hb, hrt, hml, hown, hts, hlocks, hC, htab, hst⟩ := id F
  have hS : va_S (gF G) s.heap s.heap [] := va_S.rf
  have hl : lv_has ls 5 [(0, .ref (gA G 0)), (1, .int x1), (2, .int x2), (3, .int x3)] := hl
  unfold f_X3_order at hm
  refine lv_iload_n hx hb dX3_order_0 rfl (lv_at hl 1 rfl) ?_
  refine lv_iconst (v := 0) hx hb dX3_order_1 (by decide) ?_
  refine lv_ldc (v := 100000) hx hb hown (hts _ tk_184) dX3_order_2 ?_
  rcases bv_inv hm with ⟨σ1, h1, hm⟩ | ⟨E1, σ1, h1, hm⟩
  · refine xSt F (c_X3_requireRange h1) tk_187 tk_185 tk_186 tk_1 rfl 3 (by decide +kernel) rfl ⟨Nat.le_of_ble_eq_true rfl, Nat.le_of_ble_eq_true rfl⟩ hP hS hl.1 rfl (Nat.le_of_ble_eq_true rfl) dX3_order_4 ⟨Nat.le_of_ble_eq_true rfl, Nat.le_of_ble_eq_true rfl⟩ (fun v hv H locs hP hS => ?_) (fun E hE => by cases hE)
    cases hv
    refine W.eq (g2 := F0 m 7 ls []) rfl ?_
    refine lv_iload_n hx hb dX3_order_7 rfl (lv_at hl 2 rfl) ?_
    refine lv_iconst (v := 0) hx hb dX3_order_8 (by decide) ?_
    refine lv_bipush (v := 7) hx hb dX3_order_9 (by decide) ?_
    rcases bv_inv hm with ⟨σ2, h2, hm⟩ | ⟨E2, σ2, h2, hm⟩
    · refine xSt F (c_X3_requireRange h2) tk_187 tk_185 tk_186 tk_1 rfl 3 (by decide +kernel) rfl ⟨Nat.le_of_ble_eq_true rfl, Nat.le_of_ble_eq_true rfl⟩ hP hS hl.1 rfl (Nat.le_of_ble_eq_true rfl) dX3_order_11 ⟨Nat.le_of_ble_eq_true rfl, Nat.le_of_ble_eq_true rfl⟩ (fun v hv H locs hP hS => ?_) (fun E hE => by cases hE)
      cases hv
      refine W.eq (g2 := F0 m 14 ls []) rfl ?_
      refine lv_iload_n hx hb dX3_order_14 rfl (lv_at hl 3 rfl) ?_
      refine lv_iconst (v := 1) hx hb dX3_order_15 (by decide) ?_
      refine lv_sipush (v := 10000) hx hb dX3_order_16 (by decide) ?_
      rcases bv_inv hm with ⟨σ3, h3, hm⟩ | ⟨E3, σ3, h3, hm⟩
      · refine xSt F (c_X3_requireRange h3) tk_187 tk_185 tk_186 tk_1 rfl 3 (by decide +kernel) rfl ⟨Nat.le_of_ble_eq_true rfl, Nat.le_of_ble_eq_true rfl⟩ hP hS hl.1 rfl (Nat.le_of_ble_eq_true rfl) dX3_order_19 ⟨Nat.le_of_ble_eq_true rfl, Nat.le_of_ble_eq_true rfl⟩ (fun v hv H locs hP hS => ?_) (fun E hE => by cases hE)
        cases hv
        refine W.eq (g2 := F0 m 22 ls []) rfl ?_
        refine lv_aload_n hx hb dX3_order_22 rfl (lv_at hl 0 rfl) ?_
        refine xg F 4 inX3 hP (kd_k kdc_0 (by decide)) (wc3 kdc_0) rfl (by decide) tk_115 rfl rfl dX3_order_23 ?_
        refine lv_bipush (v := 16) hx hb dX3_order_26 (by decide) ?_
        refine lv_icmp_lt (tgt := 41) hx hb dX3_order_28 (by decide) (fun b4 => ?_) (fun b4 => ?_)
        · rw [if_pos b4] at hm
          refine lv_aload_n hx hb dX3_order_41 rfl (lv_at hl 0 rfl) ?_
          refine xg F 3 inX3 hP (kd_k kdc_0 (by decide)) (wc3 kdc_0) rfl (by decide) tk_114 rfl rfl dX3_order_42 ?_
          refine lv_aload_n hx hb dX3_order_45 rfl (lv_at hl 0 rfl) ?_
          refine xg F 4 inX3 hP (kd_k kdc_0 (by decide)) (wc3 kdc_0) rfl (by decide) tk_115 rfl rfl dX3_order_46 ?_
          by_cases b5 : ((σ3 0 4) < 0 ∨ 16 ≤ (σ3 0 4).toNatClampNeg)
          · rw [if_pos b5] at hm
            cases hm
          · rw [if_neg b5] at hm
            refine xol F hP kdc_6 b5 dX3_order_49 ?_
            refine lv_astore (lv' := [(4, .ref (gA G (26 + 2 * (σ3 0 4).toNatClampNeg))), (0, .ref (gA G 0)), (1, .int x1), (2, .int x2), (3, .int x3)]) hx hb dX3_order_50 hl (by decide) rfl (fun ls hl => ?_)
            refine lv_aload hx hb dX3_order_52 (lv_at hl 0 rfl) ?_
            refine lv_iload_n hx hb dX3_order_54 rfl (lv_at hl 2 rfl) ?_
            refine xpN F (v := x1) (ty := .int) 0 inX1 tyX1_ok nmX1 hP hS (kd_k (kd_ord b5) (by decide)) (wc1 (kd_ord b5)) (wu1_0 (kd_ord b5)) rfl (by decide) tn_3 rfl rfl rfl rfl rfl (Nat.le_of_ble_eq_true rfl) dX3_order_55 (fun H locs hP hS => ?_)
            refine lv_aload hx hb dX3_order_58 (lv_at hl 0 rfl) ?_
            refine lv_iload_n hx hb dX3_order_60 rfl (lv_at hl 3 rfl) ?_
            refine xpN F (v := x2) (ty := .int) 1 inX1 tyX1_ok nmX1 hP hS (kd_k (kd_ord b5) (by decide)) (wc1 (kd_ord b5)) (wu1_1 (kd_ord b5)) rfl (by decide) tn_4 rfl rfl rfl rfl rfl (Nat.le_of_ble_eq_true rfl) dX3_order_61 (fun H locs hP hS => ?_)
            refine lv_aload hx hb dX3_order_64 (lv_at hl 0 rfl) ?_
            refine lv_iload_n hx hb dX3_order_66 rfl (lv_at hl 4 rfl) ?_
            refine xpN F (v := x3) (ty := .int) 2 inX1 tyX1_ok nmX1 hP hS (kd_k (kd_ord b5) (by decide)) (wc1 (kd_ord b5)) (wu1_2 (kd_ord b5)) rfl (by decide) tn_5 rfl rfl rfl rfl rfl (Nat.le_of_ble_eq_true rfl) dX3_order_67 (fun H locs hP hS => ?_)
            refine lv_aload_n hx hb dX3_order_70 rfl (lv_at hl 1 rfl) ?_
            refine lv_dup hx hb dX3_order_71 rfl ?_
            refine xg F 4 inX3 hP (kd_k kdc_0 (by decide)) (wc3 kdc_0) rfl (by decide) tk_115 rfl rfl dX3_order_72 ?_
            refine lv_iconst (v := 1) hx hb dX3_order_75 (by decide) ?_
            refine lv_iadd hx hb dX3_order_76 ?_
            refine xp F (v := (((up2 (up2 (up2 σ3 (26 + 2 * (σ3 0 4).toNatClampNeg) 0 x1) (26 + 2 * (σ3 0 4).toNatClampNeg) 1 x2) (26 + 2 * (σ3 0 4).toNatClampNeg) 2 x3) 0 4) + 1)) (ty := .int) 4 inX3 tyX3_ok nmX3 hP hS (kd_k kdc_0 (by decide)) (wc3 kdc_0) (wu3_4 kdc_0) rfl (by decide) tk_115 rfl rfl rfl rfl rfl (Nat.le_of_ble_eq_true rfl) dX3_order_77 (fun H locs hP hS => ?_)
            refine lv_aload_n hx hb dX3_order_80 rfl (lv_at hl 1 rfl) ?_
            refine xg F 4 inX3 hP (kd_k kdc_0 (by decide)) (wc3 kdc_0) rfl (by decide) tk_115 rfl rfl dX3_order_81 ?_
            refine lv_iconst (v := 1) hx hb dX3_order_84 (by decide) ?_
            refine lv_isub hx hb dX3_order_85 ?_
            exact xir F hP hS (Option.some.inj hm).symm (by decide) (by decide) dX3_order_86
        · rw [if_neg b4] at hm
          exact xthr F hP hS (Option.some.inj hm).symm (by decide) (by decide) hl.1 (by decide +kernel) tk_257 tk_11 (List.mem_of_getElem? (i := 1) rfl) xt_64_1 xt_64_2 xt_64_60 dX3_order_31 dX3_order_34 dX3_order_35 dX3_order_37 dX3_order_40 (Nat.le_of_ble_eq_true rfl) (Nat.le_of_ble_eq_true rfl) (Nat.le_of_ble_eq_true rfl) (Nat.le_of_ble_eq_true rfl)
      · refine xSt F (c_X3_requireRange h3) tk_187 tk_185 tk_186 tk_1 rfl 3 (by decide +kernel) rfl ⟨Nat.le_of_ble_eq_true rfl, Nat.le_of_ble_eq_true rfl⟩ hP hS hl.1 rfl (Nat.le_of_ble_eq_true rfl) dX3_order_19 ⟨Nat.le_of_ble_eq_true rfl, Nat.le_of_ble_eq_true rfl⟩ (fun v hv => by cases hv) (fun E hE H locs q9 ce hP hS e1 e2 e3 => ?_)
        cases hE
        exact xto F hP hS hm (by decide) (by decide) e1 e2 e3
    · refine xSt F (c_X3_requireRange h2) tk_187 tk_185 tk_186 tk_1 rfl 3 (by decide +kernel) rfl ⟨Nat.le_of_ble_eq_true rfl, Nat.le_of_ble_eq_true rfl⟩ hP hS hl.1 rfl (Nat.le_of_ble_eq_true rfl) dX3_order_11 ⟨Nat.le_of_ble_eq_true rfl, Nat.le_of_ble_eq_true rfl⟩ (fun v hv => by cases hv) (fun E hE H locs q9 ce hP hS e1 e2 e3 => ?_)
      cases hE
      exact xto F hP hS hm (by decide) (by decide) e1 e2 e3
  · refine xSt F (c_X3_requireRange h1) tk_187 tk_185 tk_186 tk_1 rfl 3 (by decide +kernel) rfl ⟨Nat.le_of_ble_eq_true rfl, Nat.le_of_ble_eq_true rfl⟩ hP hS hl.1 rfl (Nat.le_of_ble_eq_true rfl) dX3_order_4 ⟨Nat.le_of_ble_eq_true rfl, Nat.le_of_ble_eq_true rfl⟩ (fun v hv => by cases hv) (fun E hE H locs q9 ce hP hS e1 e2 e3 => ?_)
    cases hE
    exact xto F hP hS hm (by decide) (by decide) e1 e2 e3

